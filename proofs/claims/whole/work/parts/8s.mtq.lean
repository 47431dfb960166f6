-- THE TWO TOWNS AS ONE; the reference's reader beside the class's
def TQ (S : aS) (M : aM) : Prop := S.1 0 = M.1 10 ∧ S.1 1 = M.1 13 ∧ (∀ k, k < 4 → S.1 (2 + k) = M.2.1 36 k) ∧ (S.1 6 = M.1 19 ∧ S.1 7 = M.1 17 ∧ S.1 8 = M.1 18) ∧ (∀ t, t < 7 → S.2 0 t = M.2.1 18 t ∧ S.2 1 t = M.2.1 19 t) ∧ (∀ j b, j < 5 → b < 7 → S.2 (2 + j) b = M.2.1 (21 + b) j) ∧ (∀ b t, b < 7 → t < 7 → lossN S b t = M.2.1 (29 + b) t)
def ZB (S : aS) (P B : Nat) : Prop := (∀ t, P ≤ t → t < 7 → S.2 0 t = 0 ∧ S.2 1 t = 0) ∧ (∀ b, B ≤ b → b < 7 → S.2 6 b = 0) ∧ (∀ b t, b < 7 → t < 7 → (B ≤ b ∨ P ≤ t) → lossN S b t = 0)
def scr (M N : aM) : Prop := (∀ j, ¬ j = 37 → N.2.1 j = M.2.1 j) ∧ (∀ k, k < 22 ∨ 26 < k → N.1 k = M.1 k) ∧ N.2.2 = M.2.2
def keepM (M N : aM) : Prop := (∀ j, j < 18 → N.2.1 j = M.2.1 j) ∧ N.1 8 = M.1 8 ∧ N.1 28 = M.1 28 ∧ N.2.2 = M.2.2
theorem scr.rf {M : aM} : scr M M := ⟨fun _ _ => rfl, fun _ _ => rfl, rfl⟩
theorem scr.tr {M N O : aM} (h : scr M N) (h2 : scr N O) : scr M O := ⟨fun j hj => (h2.1 j hj).trans (h.1 j hj), fun k hk => (h2.2.1 k hk).trans (h.2.1 k hk), h2.2.2.trans h.2.2⟩
theorem scr.keep {M N : aM} (h : scr M N) : keepM M N := ⟨fun j hj => h.1 j (by omega), h.2.1 8 (by omega), h.2.1 28 (by omega), h.2.2⟩
theorem keepM.rf {M : aM} : keepM M M := scr.rf.keep
theorem keepM.tr {M N O : aM} (h : keepM M N) (h2 : keepM N O) : keepM M O := ⟨fun j hj => (h2.1 j hj).trans (h.1 j hj), h2.2.1.trans h.2.1, h2.2.2.1.trans h.2.2.1, h2.2.2.2.trans h.2.2.2⟩
theorem scr_P {M : aM} {a b c d : Int32} : scr M (mP M a b c d) := ⟨fun _ _ => rfl, fun k hk => by
  show (if k = 22 then a else if k = 23 then b else if k = 24 then c else if k = 25 then d else M.1 k) = M.1 k
  rw [if_neg (by omega), if_neg (by omega), if_neg (by omega), if_neg (by omega)], rfl⟩
theorem scr_37 {M : aM} {g : Nat → Int32} : scr M (mA M 37 g) := ⟨fun j hj => mA_ne hj, fun _ _ => rfl, rfl⟩
theorem scr_26 {M : aM} {v : Int32} : scr M (mS M 26 v) := ⟨fun _ _ => rfl, fun k hk => if_neg (by omega), rfl⟩
theorem TQ.scr {S : aS} {M N : aM} (h : TQ S M) (hs : scr M N) : TQ S N := by
  obtain ⟨h1, h2, h3, ⟨h4, h5, h6⟩, h7, h8, h9⟩ := h
  obtain ⟨s1, s2, s3⟩ := hs
  refine ⟨h1.trans (s2 10 (by omega)).symm, h2.trans (s2 13 (by omega)).symm, fun k hk => ?_, ⟨h4.trans (s2 19 (by omega)).symm, h5.trans (s2 17 (by omega)).symm, h6.trans (s2 18 (by omega)).symm⟩, fun t ht => ?_, fun j b hj hb => ?_, fun b t hb ht => ?_⟩
  · rw [s1 36 (by omega)]
    exact h3 k hk
  · rw [s1 18 (by omega), s1 19 (by omega)]
    exact h7 t ht
  · rw [s1 (21 + b) (by omega)]
    exact h8 j b hj hb
  · rw [s1 (29 + b) (by omega)]
    exact h9 b t hb ht
theorem RS.of {M N : aM} {f : Nat → Int32} {z : Nat} {L : aL} (h : RS M f z L) (h1 : ∀ k, (22 ≤ k ∧ k ≤ 25) ∨ k = 8 → N.1 k = M.1 k) (h2 : N.2.1 16 = M.2.1 16) : RS N f z L := by
  obtain ⟨a, b, c, d, e, g⟩ := h
  exact ⟨(h1 22 (by omega)).trans a, (h1 23 (by omega)).trans b, (h1 24 (by omega)).trans c, (h1 25 (by omega)).trans d, (h1 8 (by omega)).trans e, h2.trans g⟩
theorem TQ.law {S : aS} {M : aM} {c : Nat} {x : Int32} (h : TQ S M) (hc : c < 4) : TQ (upS S (2 + c) x) (mA M 36 (upd (M.2.1 36) c x)) := by
  obtain ⟨h1, h2, h3, ⟨h4, h5, h6⟩, h7, h8, h9⟩ := h
  have ne : ∀ k, (k < 2 ∨ 6 ≤ k) → (upS S (2 + c) x).1 k = S.1 k := fun k hk => if_neg (by omega)
  refine ⟨(ne 0 (by omega)).trans h1, (ne 1 (by omega)).trans h2, fun k hk => ?_, ⟨(ne 6 (by omega)).trans h4, (ne 7 (by omega)).trans h5, (ne 8 (by omega)).trans h6⟩, fun t ht => ?_, fun j b hj hb => ?_, fun b t hb ht => ?_⟩
  · rw [mA_eq]
    show (if 2 + k = 2 + c then x else S.1 (2 + k)) = if k = c then x else M.2.1 36 k
    by_cases e : k = c
    · rw [if_pos e, if_pos (by omega)]
    · rw [if_neg e, if_neg (by omega)]
      exact h3 k hk
  · rw [mA_ne (by omega), mA_ne (by omega)]
    exact h7 t ht
  · rw [mA_ne (by omega)]
    exact h8 j b hj hb
  · rw [mA_ne (by omega)]
    exact h9 b t hb ht
theorem loss_put {S : aS} {b c b' c' : Nat} {x : Int32} (hb : b < 7) (hc : c < 7) (hc' : c' < 7) : lossN (putLS S (nI b) (nI c) x) b' c' = if b' = b ∧ c' = c then x else lossN S b' c' := by
  show (if 7 * b' + c' = 7 * (nI b).toNatClampNeg + (nI c).toNatClampNeg then x else S.2 7 (7 * b' + c')) = _
  rw [nI_clamp (by omega), nI_clamp (by omega)]
  by_cases e : b' = b ∧ c' = c
  · rw [if_pos e, if_pos (by rw [e.1, e.2])]
  · rw [if_neg e, if_neg (by omega)]
    rfl
theorem TQ.loss {S : aS} {M : aM} {b c : Nat} {x : Int32} (h : TQ S M) (hb : b < 7) (hc : c < 7) : TQ (putLS S (nI b) (nI c) x) (mA M (29 + b) (upd (M.2.1 (29 + b)) c x)) := by
  obtain ⟨h1, h2, h3, ⟨h4, h5, h6⟩, h7, h8, h9⟩ := h
  refine ⟨h1, h2, fun k hk => ?_, ⟨h4, h5, h6⟩, fun t ht => ?_, fun j i hj hi => ?_, fun i t hi ht => ?_⟩
  · rw [mA_ne (by omega)]
    exact h3 k hk
  · rw [mA_ne (by omega), mA_ne (by omega)]
    exact h7 t ht
  · rw [mA_ne (by omega)]
    have e : (putLS S (nI b) (nI c) x).2 (2 + j) = S.2 (2 + j) := if_neg (by omega)
    rw [e]
    exact h8 j i hj hi
  · rw [loss_put hb hc ht]
    by_cases e : i = b
    · subst e
      rw [mA_eq]
      unfold upd
      by_cases e2 : t = c
      · rw [if_pos ⟨rfl, e2⟩, if_pos e2]
      · rw [if_neg (fun q => e2 q.2), if_neg e2]
        exact h9 i t hi ht
    · rw [if_neg (fun q => e q.1), mA_ne (by omega)]
      exact h9 i t hi ht
theorem TQ.bar {S : aS} {M : aM} {b c : Nat} {is : Int32} (h : TQ S M) (hb : b < 7) (hc : c < 7) (hne : ¬ b = c) : TQ (putB S b c is) (brM M b c is) := by
  obtain ⟨h1, h2, h3, ⟨h4, h5, h6⟩, h7, h8, h9⟩ := h
  have n1 : ∀ j, (j < 21 ∨ 27 < j) → (brM M b c is).2.1 j = M.2.1 j := fun j hj => (mA_ne (by omega)).trans (mA_ne (by omega))
  refine ⟨h1, h2, fun k hk => ?_, ⟨h4, h5, h6⟩, fun t ht => ?_, fun j i hj hi => ?_, fun i t hi ht => ?_⟩
  · rw [n1 36 (by omega)]
    exact h3 k hk
  · rw [n1 18 (by omega), n1 19 (by omega)]
    exact h7 t ht
  · have hS : (putB S b c is).2 (2 + j) i = if j = 4 then (if i = c then wbit (S.2 6 c) (nI b) is else if i = b then wbit (S.2 6 b) (nI c) is else S.2 6 i) else S.2 (2 + j) i := by
      show (if 2 + j = 6 then upd (upd (S.2 6) b (wbit (S.2 6 b) (nI c) is)) c (wbit (upd (S.2 6) b (wbit (S.2 6 b) (nI c) is) c) (nI b) is) else S.2 (2 + j)) i = _
      by_cases e : j = 4
      · rw [if_pos (by omega), if_pos e]
        unfold upd
        rw [if_neg (fun q : c = b => hne q.symm)]
      · rw [if_neg (by omega), if_neg e]
    have hM : (brM M b c is).2.1 (21 + i) j = if j = 4 then (if i = c then wbit (M.2.1 (21 + c) 4) (nI b) is else if i = b then wbit (M.2.1 (21 + b) 4) (nI c) is else M.2.1 (21 + i) 4) else M.2.1 (21 + i) j := by
      show (if 21 + i = 21 + c then upd (M.2.1 (21 + c)) 4 (wbit (M.2.1 (21 + c) 4) (nI b) is) else if 21 + i = 21 + b then upd (M.2.1 (21 + b)) 4 (wbit (M.2.1 (21 + b) 4) (nI c) is) else M.2.1 (21 + i)) j = _
      unfold upd
      by_cases e : j = 4
      · rw [if_pos e]
        by_cases e1 : i = c
        · rw [if_pos (by omega), if_pos e1, if_pos e]
        · rw [if_neg (by omega), if_neg e1]
          by_cases e2 : i = b
          · rw [if_pos (by omega), if_pos e2, if_pos e]
          · rw [if_neg (by omega), if_neg e2, e]
      · rw [if_neg e]
        by_cases e1 : i = c
        · rw [if_pos (by omega), if_neg e, e1]
        · rw [if_neg (by omega)]
          by_cases e2 : i = b
          · rw [if_pos (by omega), if_neg e, e2]
          · rw [if_neg (by omega)]
    rw [hS, hM]
    by_cases e : j = 4
    · rw [if_pos e, if_pos e]
      have g := fun i hi => h8 4 i (by decide) hi
      have g : ∀ i, i < 7 → S.2 6 i = M.2.1 (21 + i) 4 := g
      rw [g c hc, g b hb, g i hi]
    · rw [if_neg e, if_neg e]
      exact h8 j i hj hi
  · rw [n1 (29 + i) (by omega)]
    exact h9 i t hi ht
theorem TQ.one {S : aS} {M : aM} {P B : Nat} (h : TQ S M) (hz : ZB S P B) (hP : S.1 0 = nI P) (hP6 : P < 7) : TQ (upS S 0 (S.1 0 + 1)) (oneM M P) := by
  obtain ⟨h1, h2, h3, ⟨h4, h5, h6⟩, h7, h8, h9⟩ := h
  have n1 : ∀ j, ¬ j = 18 → ¬ j = 19 → ¬ (29 ≤ j ∧ j < 36) → (oneM M P).2.1 j = M.2.1 j := fun j q1 q2 q3 => (if_neg q3).trans ((mA_ne q2).trans (mA_ne q1))
  refine ⟨?_, h2, fun k hk => ?_, ⟨h4, h5, h6⟩, fun t ht => ?_, fun j i hj hi => ?_, fun i t hi ht => ?_⟩
  · show S.1 0 + 1 = nI P + 1
    rw [hP]
  · rw [n1 36 (by omega) (by omega) (by omega)]
    have e : (upS S 0 (S.1 0 + 1)).1 (2 + k) = S.1 (2 + k) := if_neg (by omega)
    rw [e]
    exact h3 k hk
  · have e1 : (oneM M P).2.1 18 = upd (M.2.1 18) P 0 := rfl
    have e2 : (oneM M P).2.1 19 = upd (M.2.1 19) P 0 := rfl
    rw [e1, e2]
    show S.2 0 t = _ ∧ S.2 1 t = _
    unfold upd
    by_cases e : t = P
    · rw [if_pos e, if_pos e]
      exact hz.1 t (by omega) ht
    · rw [if_neg e, if_neg e]
      exact h7 t ht
  · rw [n1 (21 + i) (by omega) (by omega) (by omega)]
    exact h8 j i hj hi
  · have e1 : (oneM M P).2.1 (29 + i) = upd (M.2.1 (29 + i)) P 0 := (if_pos (by omega)).trans (by rw [mA_ne (by omega), mA_ne (by omega)])
    rw [e1]
    show lossN S i t = _
    unfold upd
    by_cases e : t = P
    · rw [if_pos e]
      exact hz.2.2 i t hi ht (Or.inr (by omega))
    · rw [if_neg e]
      exact h9 i t hi ht
theorem TQ.deal {S : aS} {M : aM} {P B : Nat} {p q g k : Int32} (h : TQ S M) (hz : ZB S P B) (hB : S.1 1 = nI B) (hB6 : B < 7) : TQ (addB S B p q g k) (bgM M B p q g k) := by
  obtain ⟨h1, h2, h3, ⟨h4, h5, h6⟩, h7, h8, h9⟩ := h
  have n1 : ∀ j, ¬ j = 21 + B → ¬ j = 29 + B → (bgM M B p q g k).2.1 j = M.2.1 j := fun j q1 q2 => (mA_ne q2).trans (mA_ne q1)
  refine ⟨h1, ?_, fun k2 hk => ?_, ⟨h4, h5, h6⟩, fun t ht => ?_, fun j i hj hi => ?_, fun i t hi ht => ?_⟩
  · show S.1 1 + 1 = nI B + 1
    rw [hB]
  · rw [n1 36 (by omega) (by omega)]
    have e : (addB S B p q g k).1 (2 + k2) = S.1 (2 + k2) := if_neg (by omega)
    rw [e]
    exact h3 k2 hk
  · rw [n1 18 (by omega) (by omega), n1 19 (by omega) (by omega)]
    exact h7 t ht
  · by_cases e : i = B
    · subst e
      have e1 : (bgM M i p q g k).2.1 (21 + i) = of5 (M.2.1 (21 + i)) p q g k := (mA_ne (by omega)).trans mA_eq
      rw [e1]
      rcases (show j = 0 ∨ j = 1 ∨ j = 2 ∨ j = 3 ∨ j = 4 by omega) with rfl | rfl | rfl | rfl | rfl
      · exact upd_at
      · exact upd_at
      · exact upd_at
      · exact upd_at
      · show S.2 6 i = 0
        exact hz.2.1 i (Nat.le_refl _) hi
    · rw [n1 (21 + i) (by omega) (by omega)]
      have e0 : (addB S B p q g k).2 (2 + j) i = S.2 (2 + j) i := by
        rcases (show j = 0 ∨ j = 1 ∨ j = 2 ∨ j = 3 ∨ j = 4 by omega) with rfl | rfl | rfl | rfl | rfl
        · exact if_neg e
        · exact if_neg e
        · exact if_neg e
        · exact if_neg e
        · rfl
      rw [e0]
      exact h8 j i hj hi
  · show lossN S i t = _
    by_cases e : i = B
    · subst e
      have e1 : (bgM M i p q g k).2.1 (29 + i) = zrI (M.2.1 (29 + i)) 7 := by
        refine mA_eq.trans ?_
        rfl
      rw [e1]
      unfold zrI
      rw [if_pos ht]
      exact hz.2.2 i t hi ht (Or.inl (Nat.le_refl _))
    · rw [n1 (29 + i) (by omega) (by omega)]
      exact h9 i t hi ht
-- what stays zero
theorem ZB.law {S : aS} {P B c : Nat} {x : Int32} (h : ZB S P B) : ZB (upS S c x) P B := h
theorem ZB.loss {S : aS} {P B b c : Nat} {x : Int32} (h : ZB S P B) (hb : b < B) (hc : c < P) (hB : B ≤ 7) (hP : P ≤ 7) : ZB (putLS S (nI b) (nI c) x) P B := by
  refine ⟨h.1, h.2.1, fun i t hi ht q => ?_⟩
  rw [loss_put (by omega) (by omega) ht, if_neg (by omega)]
  exact h.2.2 i t hi ht q
theorem ZB.bar {S : aS} {P B b c : Nat} {is : Int32} (h : ZB S P B) (hb : b < B) (hc : c < B) : ZB (putB S b c is) P B := by
  refine ⟨h.1, fun i q1 q2 => ?_, h.2.2⟩
  show upd (upd (S.2 6) b _) c _ i = 0
  unfold upd
  rw [if_neg (by omega), if_neg (by omega)]
  exact h.2.1 i q1 q2
theorem ZB.one {S : aS} {P B : Nat} {x : Int32} (h : ZB S P B) : ZB (upS S 0 x) (P + 1) B := ⟨fun t q1 q2 => h.1 t (by omega) q2, h.2.1, fun b t hb ht q => h.2.2 b t hb ht (by omega)⟩
theorem ZB.deal {S : aS} {P B : Nat} {p q g k : Int32} (h : ZB S P B) : ZB (addB S B p q g k) P (B + 1) := ⟨h.1, fun b q1 q2 => h.2.1 b (by omega) q2, fun b t hb ht q => h.2.2 b t hb ht (by omega)⟩
