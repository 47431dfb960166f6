-- THE TWO SIDES: a week's choices, and that they come about
def orW (f : Nat → Int32) : Nat → Int32
  | 0 => 0
  | b + 1 => if f b = -1 then orW f b else orW f b ||| (1 : Int32) <<< (f b &&& 31)
def Wr (P : Nat) (X Y : aK) (B : Nat) : Prop := X.1 = Y.1 ∧ X.2.1 = Y.2.1 ∧ (∃ x, x < 2 ^ B ∧ X.1 = nI x) ∧ (∀ b, b < B → (bt X.1 b = true ∧ ∃ t, t < P ∧ X.2.2 b = nI t ∧ Y.2.2 b = nI t) ∨ (bt X.1 b = false ∧ Y.2.2 b = -1)) ∧ cntW Y.2.2 B = bcount X.1 ∧ orW Y.2.2 B = X.2.1
theorem cntW_cong {f g : Nat → Int32} : ∀ B, (∀ b, b < B → f b = g b) → cntW f B = cntW g B
  | 0, _ => rfl
  | B + 1, h => by
    have e1 : cntW f (B + 1) = if f B = -1 then cntW f B else cntW f B + 1 := rfl
    have e2 : cntW g (B + 1) = if g B = -1 then cntW g B else cntW g B + 1 := rfl
    rw [e1, e2, cntW_cong B (fun b hb => h b (by omega)), h B (by omega)]
theorem orW_cong {f g : Nat → Int32} : ∀ B, (∀ b, b < B → f b = g b) → orW f B = orW g B
  | 0, _ => rfl
  | B + 1, h => by
    have e1 : orW f (B + 1) = if f B = -1 then orW f B else orW f B ||| (1 : Int32) <<< (f B &&& 31) := rfl
    have e2 : orW g (B + 1) = if g B = -1 then orW g B else orW g B ||| (1 : Int32) <<< (g B &&& 31) := rfl
    rw [e1, e2, orW_cong B (fun b hb => h b (by omega)), h B (by omega)]
theorem upd_ne {f : Nat → Int32} {k i : Nat} {x : Int32} (h : ¬ i = k) : upd f k x i = f i := if_neg h
theorem Wr.z {P : Nat} {f g : Nat → Int32} : Wr P (0, 0, f) (0, 0, g) 0 := ⟨rfl, rfl, ⟨0, by decide, rfl⟩, fun b hb => absurd hb (by omega), (show (0 : Int32) = bcount 0 by decide +kernel), rfl⟩
theorem Wr.take {P : Nat} {X Y : aK} {b : Nat} {c : Int32} (h : Wr P X Y b) (hP7 : P ≤ 7) (hb : b < 7) (hc : c = -1 ∨ ∃ t, t < P ∧ c = nI t) : Wr P (takeW X b c) (tkW Y b c) (b + 1) := by
  obtain ⟨h1, h2, ⟨x, hx, ex⟩, h3, h4, h5⟩ := h
  have hx2 : x < 2 ^ (b + 1) := by
    rw [Nat.pow_succ]
    omega
  have e1 : cntW (upd Y.2.2 b c) (b + 1) = if upd Y.2.2 b c b = -1 then cntW (upd Y.2.2 b c) b else cntW (upd Y.2.2 b c) b + 1 := rfl
  have e2 : orW (upd Y.2.2 b c) (b + 1) = if upd Y.2.2 b c b = -1 then orW (upd Y.2.2 b c) b else orW (upd Y.2.2 b c) b ||| (1 : Int32) <<< (upd Y.2.2 b c b &&& 31) := rfl
  rw [upd_at, cntW_cong b (fun i hi => upd_ne (by omega))] at e1
  rw [upd_at, orW_cong b (fun i hi => upd_ne (by omega))] at e2
  rcases hc with rfl | ⟨t, ht, rfl⟩
  · have eT : takeW X b (-1) = X := if_pos rfl
    have eY : tkW Y b (-1) = (Y.1, Y.2.1, upd Y.2.2 b (-1)) := by
      unfold tkW
      rw [if_pos rfl, if_pos rfl]
    rw [if_pos rfl] at e1 e2
    rw [eT, eY]
    refine ⟨h1, h2, ⟨x, hx2, ex⟩, fun i hi => ?_, e1.trans h4, e2.trans h5⟩
    by_cases e : i = b
    · subst e
      refine Or.inr ⟨?_, upd_at⟩
      rw [ex, bt_nI (by omega), test_big hx (Nat.le_refl _)]
    · rcases h3 i (by omega) with ⟨q1, t, q2, q3, q4⟩ | ⟨q1, q2⟩
      · exact Or.inl ⟨q1, t, q2, q3, (upd_ne e).trans q4⟩
      · exact Or.inr ⟨q1, (upd_ne e).trans q2⟩
  · have hn : ¬ nI t = -1 := nI_nem1 (by omega)
    have eT : takeW X b (nI t) = (X.1 ||| b1 b, X.2.1 ||| (1 : Int32) <<< (nI t &&& 31), upd X.2.2 b (nI t)) := if_neg hn
    have eY : tkW Y b (nI t) = (Y.1 ||| b1 b, Y.2.1 ||| (1 : Int32) <<< (nI t &&& 31), upd Y.2.2 b (nI t)) := by
      unfold tkW
      rw [if_neg hn, if_neg hn]
      rfl
    rw [if_neg hn] at e1 e2
    have eX : X.1 ||| b1 b = nI (x + 2 ^ b) := by rw [ex, b1_nI b hb, or_add hx]
    rw [eT, eY]
    refine ⟨by rw [h1], by rw [h2], ⟨x + 2 ^ b, by rw [Nat.pow_succ]; omega, eX⟩, fun i hi => ?_, ?_, ?_⟩
    · have eb : bt (X.1 ||| b1 b) i = (bt X.1 i || decide (i = b)) := by rw [b_or, b1_bt (by omega) (by omega)]
      by_cases e : i = b
      · subst e
        refine Or.inl ⟨?_, t, ht, upd_at, upd_at⟩
        show bt (X.1 ||| b1 i) i = true
        rw [eb, decide_eq_true rfl, Bool.or_true]
      · have eb2 : bt (X.1 ||| b1 b) i = bt X.1 i := by rw [eb, decide_eq_false e, Bool.or_false]
        rcases h3 i (by omega) with ⟨q1, t', q2, q3, q4⟩ | ⟨q1, q2⟩
        · exact Or.inl ⟨eb2.trans q1, t', q2, (upd_ne e).trans q3, (upd_ne e).trans q4⟩
        · exact Or.inr ⟨eb2.trans q1, (upd_ne e).trans q2⟩
    · refine e1.trans ?_
      show cntW Y.2.2 b + 1 = bcount (X.1 ||| b1 b)
      rw [h4, eX, bc_tab b hb x hx, ex]
    · refine e2.trans ?_
      show orW Y.2.2 b ||| _ = X.2.1 ||| _
      rw [h5]
theorem owF_or {N : aM} : ∀ B, (owF N B).2.2 = orW (N.2.1 38) B
  | 0 => rfl
  | b + 1 => by
    have ih := owF_or (N := N) b
    have e1 : owF N (b + 1) = if N.2.1 38 b = -1 then owF N b else ((owF N b).1 + valN (tM N) b (N.2.1 38 b).toNatClampNeg, (owF N b).2.1 + 1, (owF N b).2.2 ||| (1 : Int32) <<< (N.2.1 38 b &&& 31)) := rfl
    have e2 : orW (N.2.1 38) (b + 1) = if N.2.1 38 b = -1 then orW (N.2.1 38) b else orW (N.2.1 38) b ||| (1 : Int32) <<< (N.2.1 38 b &&& 31) := rfl
    rw [e1, e2]
    by_cases e : N.2.1 38 b = -1
    · rw [if_pos e, if_pos e, ih]
    · rw [if_neg e, if_neg e, ← ih]
theorem owF_sum {S : aS} {N : aM} {X Y : aK} {P B0 : Nat} (hW : Wr P X Y B0) (hN : N.2.1 38 = Y.2.2) (hB : B0 ≤ 7) (hP7 : P ≤ 7) (hv : ∀ b t, b < 7 → t < 7 → valN (tM N) b t = valN S b t) : ∀ B, B ≤ B0 → (owF N B).1 = sumV S X B
  | 0, _ => rfl
  | b + 1, hb => by
    have ih := owF_sum hW hN hB hP7 hv b (by omega)
    have e1 : owF N (b + 1) = if N.2.1 38 b = -1 then owF N b else ((owF N b).1 + valN (tM N) b (N.2.1 38 b).toNatClampNeg, (owF N b).2.1 + 1, (owF N b).2.2 ||| (1 : Int32) <<< (N.2.1 38 b &&& 31)) := rfl
    have e2 : sumV S X (b + 1) = if hbI X.1 (nI b) then sumV S X b + valN S b (X.2.2 b).toNatClampNeg else sumV S X b := rfl
    rw [e1, e2, hb_bt (by omega), hN]
    rcases hW.2.2.2.1 b (by omega) with ⟨q1, t, q2, q3, q4⟩ | ⟨q1, q2⟩
    · rw [q1, q3, q4, if_neg (nI_nem1 (by omega)), if_pos rfl, nI_clamp (by omega), hv b t (by omega) (by omega), ← ih]
    · rw [q1, q2, if_pos rfl, if_neg (by decide), ih]
theorem tell_eq {S : aS} {N : aM} {X Y : aK} {P B : Nat} {q : Int32} (hW : Wr P X Y B) (hN : N.2.1 38 = Y.2.2) (hB : B ≤ 7) (hP7 : P ≤ 7) (hv : ∀ b t, b < 7 → t < 7 → valN (tM N) b t = valN S b t) : tellN S X B q = owA N B q := by
  unfold tellN owA
  rw [owF_sum hW hN hB hP7 hv B (Nat.le_refl _), owF_cnt, owF_or, hN, hW.2.2.2.2.1, hW.2.2.2.2.2]
  by_cases q1 : q = 1
  · subst q1
    rfl
  · rw [if_neg q1, if_neg q1]
theorem upd_c7 {f g : Nat → Int32} {k : Nat} {x y : Int32} (h : ∀ i, i < 7 → f i = g i) (e : x = y) : ∀ i, i < 7 → upd f k x i = upd g k y i := by
  intro i hi
  unfold upd
  rw [h i hi, e]
theorem ctr_cm {S : aS} {N : aM} {X : aK} {f : Nat → Int32} {P B0 : Nat} (hT : TQ S N) (hI : ∀ b, b < B0 → ∃ p q, p < P ∧ q < P ∧ S.2 2 b = nI p ∧ S.2 3 b = nI q) (hW : ∀ b, b < B0 → (bt X.1 b = true ∧ ∃ t, t < P ∧ X.2.2 b = nI t ∧ f b = nI t) ∨ (bt X.1 b = false ∧ f b = -1)) (hP7 : P ≤ 7) (hB : B0 ≤ 7) : ∀ B, B ≤ B0 → ((∀ k, ¬ k = 8 → (ctr S X B).1 k = S.1 k) ∧ (ctr S X B).1 8 = S.1 8 + cntW f B ∧ (∀ j, 2 ≤ j → (ctr S X B).2 j = S.2 j)) ∧ ((cmM N f B).1 = N.1 ∧ (∀ j, ¬ j = 18 → ¬ j = 19 → (cmM N f B).2.1 j = N.2.1 j) ∧ (cmM N f B).2.2 = N.2.2) ∧ (∀ t, t < 7 → (ctr S X B).2 0 t = (cmM N f B).2.1 18 t ∧ (ctr S X B).2 1 t = (cmM N f B).2.1 19 t) ∧ ∀ t, P ≤ t → (ctr S X B).2 0 t = S.2 0 t ∧ (ctr S X B).2 1 t = S.2 1 t
  | 0, _ => ⟨⟨fun _ _ => rfl, (Int32.add_zero _).symm, fun _ _ => rfl⟩, ⟨rfl, fun _ _ _ => rfl, rfl⟩, hT.2.2.2.2.1, fun _ _ => ⟨rfl, rfl⟩⟩
  | b + 1, hb => by
    obtain ⟨⟨s1, s2, s3⟩, ⟨m1, m2, m3⟩, r1, r2⟩ := ctr_cm hT hI hW hP7 hB b (by omega)
    have e1 : ctr S X (b + 1) = if hbI X.1 (nI b) then mkT (ctr S X b) b (S.2 2 b).toNatClampNeg (S.2 3 b).toNatClampNeg (X.2.2 b).toNatClampNeg else ctr S X b := rfl
    have e2 : cmM N f (b + 1) = if f b = -1 then cmM N f b else mkM (cmM N f b) b (N.2.1 (21 + b) 0).toNatClampNeg (N.2.1 (21 + b) 1).toNatClampNeg (f b).toNatClampNeg := rfl
    have e3 : cntW f (b + 1) = if f b = -1 then cntW f b else cntW f b + 1 := rfl
    rw [e1, e2, e3, hb_bt (by omega)]
    rcases hW b (by omega) with ⟨q1, t, q2, q3, q4⟩ | ⟨q1, q2⟩
    · obtain ⟨p, q, hp, hq, ep, eq⟩ := hI b (by omega)
      have t2 : S.2 2 b = N.2.1 (21 + b) 0 := hT.2.2.2.2.2.1 0 b (by decide) (by omega)
      have t3 : S.2 3 b = N.2.1 (21 + b) 1 := hT.2.2.2.2.2.1 1 b (by decide) (by omega)
      have t4 : S.2 4 b = N.2.1 (21 + b) 2 := hT.2.2.2.2.2.1 2 b (by decide) (by omega)
      have t5 : S.2 5 b = N.2.1 (21 + b) 3 := hT.2.2.2.2.2.1 3 b (by decide) (by omega)
      have tl : lossN S b t = N.2.1 (29 + b) t := hT.2.2.2.2.2.2 b t (by omega) (by omega)
      rw [q1, q3, q4, if_pos rfl, if_neg (nI_nem1 (by omega)), if_neg (nI_nem1 (by omega)), ← t2, ← t3, ep, eq, nI_clamp (by omega), nI_clamp (by omega), nI_clamp (by omega)]
      generalize hS' : ctr S X b = S' at *
      generalize hN' : cmM N f b = N' at *
      have l7 : lossN S' b t = lossN S b t := by
        unfold lossN
        rw [s3 7 (by decide)]
      have g4 : S'.2 4 b = N'.2.1 (21 + b) 2 := by rw [s3 4 (by decide), m2 (21 + b) (by omega) (by omega), t4]
      have g5 : S'.2 5 b = N'.2.1 (21 + b) 3 := by rw [s3 5 (by decide), m2 (21 + b) (by omega) (by omega), t5]
      have gl : lossN S' b t = N'.2.1 (29 + b) t := by rw [l7, m2 (29 + b) (by omega) (by omega), tl]
      have r0 : ∀ i, i < 7 → S'.2 0 i = N'.2.1 18 i := fun i hi => (r1 i hi).1
      have u1 := upd_c7 (k := p) (x := S'.2 0 p + S'.2 4 b) (y := N'.2.1 18 p + N'.2.1 (21 + b) 2) r0 (by rw [r0 p (by omega), g4])
      have u2 := upd_c7 (k := q) (x := upd (S'.2 0) p (S'.2 0 p + S'.2 4 b) q + S'.2 5 b) (y := upd (N'.2.1 18) p (N'.2.1 18 p + N'.2.1 (21 + b) 2) q + N'.2.1 (21 + b) 3) u1 (by rw [u1 q (by omega), g5])
      have u3 := upd_c7 (k := t) (x := upd (upd (S'.2 0) p (S'.2 0 p + S'.2 4 b)) q (upd (S'.2 0) p (S'.2 0 p + S'.2 4 b) q + S'.2 5 b) t + -lossN S' b t) (y := upd (upd (N'.2.1 18) p (N'.2.1 18 p + N'.2.1 (21 + b) 2)) q (upd (N'.2.1 18) p (N'.2.1 18 p + N'.2.1 (21 + b) 2) q + N'.2.1 (21 + b) 3) t - N'.2.1 (29 + b) t) u2 (by rw [u2 t (by omega), gl, Int32.sub_eq_add_neg])
      have u4 := upd_c7 (k := t) (x := S'.2 1 t + 1) (y := N'.2.1 19 t + 1) (fun i hi => (r1 i hi).2) (by rw [(r1 t (by omega)).2])
      refine ⟨⟨fun k hk => ?_, ?_, fun j hj => ?_⟩, ⟨m1, fun j h18 h19 => ?_, m3⟩, fun i hi => ⟨?_, ?_⟩, fun i hi => ⟨?_, ?_⟩⟩
      · exact (if_neg hk).trans (s1 k hk)
      · show (if 8 = 8 then S'.1 8 + 1 else S'.1 8) = _
        rw [if_pos rfl, s2, Int32.add_assoc]
      · exact (if_neg (by omega)).trans ((if_neg (by omega)).trans (s3 j hj))
      · exact (if_neg (by omega)).trans ((if_neg (by omega)).trans (m2 j h18 h19))
      · exact u3 i hi
      · exact u4 i hi
      · show upd _ t _ i = _
        rw [upd_ne (by omega), upd_ne (by omega), upd_ne (by omega)]
        exact (r2 i hi).1
      · show upd _ t _ i = _
        rw [upd_ne (by omega)]
        exact (r2 i hi).2
    · rw [q1, q2, if_pos rfl, if_pos rfl, if_neg (show ¬ false = true by decide)]
      exact ⟨⟨s1, s2, s3⟩, ⟨m1, m2, m3⟩, r1, r2⟩
section EQVW
variable {Q : aQ} {M K : aM} {P B : Nat}
/-- a week's choices come about on both sides -/
theorem eqv_comes {S : aS} {N : aM} {X Y : aK} (h : Rl Q M K) (hT : TQ S N) (h1 : ∀ j, j < 18 → N.2.1 j = M.2.1 j) (h8 : N.1 8 = M.1 8) (h2 : N.2.2 = M.2.2) (hv : VOk S) (hN : N.2.1 38 = Y.2.2) (hW : Wr P X Y B) (hI : ∀ b, b < B → ∃ p q, p < P ∧ q < P ∧ S.2 2 b = nI p ∧ S.2 3 b = nI q) (hP : S.1 0 = nI P) (hP7 : P ≤ 7) (hB7 : B ≤ 7) (hq : QOk (qT Q (truth S X B))) : Eqv (bcount X.1, qT Q (truth S X B)) (m2_comes N B) M K := by
  obtain ⟨⟨s1, s2, s3⟩, ⟨m1, m2, m3⟩, r1, r2⟩ := ctr_cm hT hI hW.2.2.2.1 hP7 hB7 B (Nat.le_refl _)
  obtain ⟨t1, t2, t3, ⟨t4, t5, t6⟩, t7, t8, t9⟩ := hT
  unfold m2_comes
  rw [hN]
  refine eqv_t h hW.2.2.2.2.1.symm ?_ (fun j hj => (m2 j (by omega) (by omega)).trans (h1 j hj)) ?_ (m3.trans h2) hq ?_
  · have k1 : ∀ k, ¬ k = 7 → ¬ k = 8 → (truth S X B).1 k = S.1 k := fun k a b => (if_neg a).trans (s1 k b)
    have k2 : ∀ k, ¬ k = 17 → ¬ k = 18 → (mS (mS (cmM N Y.2.2 B) 17 (N.1 17 + 1)) 18 (N.1 18 + cntW Y.2.2 B)).1 k = N.1 k := fun k a b => (if_neg b).trans ((if_neg a).trans (congrFun m1 k))
    refine ⟨?_, ?_, fun k hk => ?_, ⟨?_, ?_, ?_⟩, fun t ht => ?_, fun j b hj hb => ?_, fun b t hb ht => ?_⟩
    · rw [k1 0 (by decide) (by decide), k2 10 (by decide) (by decide)]
      exact t1
    · rw [k1 1 (by decide) (by decide), k2 13 (by decide) (by decide)]
      exact t2
    · rw [k1 (2 + k) (by omega) (by omega), t3 k hk]
      exact (congrFun (m2 36 (by decide) (by decide)) k).symm
    · rw [k1 6 (by decide) (by decide), k2 19 (by decide) (by decide)]
      exact t4
    · show (if 7 = 7 then (ctr S X B).1 7 + 1 else (ctr S X B).1 7) = if 17 = 18 then N.1 18 + cntW Y.2.2 B else if 17 = 17 then N.1 17 + 1 else (cmM N Y.2.2 B).1 17
      rw [if_pos rfl, if_neg (by decide), if_pos rfl, s1 7 (by decide), t5]
    · show (if 8 = 7 then (ctr S X B).1 7 + 1 else (ctr S X B).1 8) = if 18 = 18 then N.1 18 + cntW Y.2.2 B else if 18 = 17 then N.1 17 + 1 else (cmM N Y.2.2 B).1 18
      rw [if_neg (by decide), if_pos rfl, s2, t6]
    · exact r1 t ht
    · show (ctr S X B).2 (2 + j) b = (cmM N Y.2.2 B).2.1 (21 + b) j
      rw [s3 (2 + j) (by omega), m2 (21 + b) (by omega) (by omega)]
      exact t8 j b hj hb
    · show lossN (ctr S X B) b t = (cmM N Y.2.2 B).2.1 (29 + b) t
      unfold lossN
      rw [s3 7 (by omega), m2 (29 + b) (by omega) (by omega)]
      exact t9 b t hb ht
  · show (if 8 = 18 then N.1 18 + cntW Y.2.2 B else if 8 = 17 then N.1 17 + 1 else (cmM N Y.2.2 B).1 8) = M.1 8
    rw [if_neg (by decide), if_neg (by decide), m1]
    exact h8
  · obtain ⟨⟨P', B', z1, z2, z3, z4, z5⟩, v2, v3, v4, v5, v6, v7, v8⟩ := hv
    have eP : P' = P := (nI_eq (by omega) (by omega)).mp (z1.symm.trans hP)
    subst eP
    have k1 : ∀ k, ¬ k = 7 → ¬ k = 8 → (truth S X B).1 k = S.1 k := fun k a b => (if_neg a).trans (s1 k b)
    have k3 : ∀ j, 2 ≤ j → (truth S X B).2 j = S.2 j := s3
    have kl : ∀ b t, lossN (truth S X B) b t = lossN S b t := fun b t => by
      unfold lossN
      rw [k3 7 (by decide)]
    refine ⟨⟨P', B', (k1 0 (by decide) (by decide)).trans z1, z2, (k1 1 (by decide) (by decide)).trans z3, z4, ?_⟩, ?_, ?_, ?_, ?_, ?_, ?_, ?_⟩
    · refine ⟨fun t ht ht7 => ?_, fun b hb hb7 => ?_, fun b t hb ht q => ?_⟩
      · obtain ⟨a1, a2⟩ := r2 t ht
        exact ⟨a1.trans (z5.1 t ht ht7).1, a2.trans (z5.1 t ht ht7).2⟩
      · rw [k3 6 (by decide)]
        exact z5.2.1 b hb hb7
      · rw [kl]
        exact z5.2.2 b t hb ht q
    · rw [k3 4 (by decide), k3 5 (by decide)]
      exact v2
    · intro b t hb ht
      rw [kl]
      exact v3 b t hb ht
    · rw [k1 2 (by decide) (by decide)]
      exact v4
    · rw [k1 3 (by decide) (by decide)]
      exact v5
    · rw [k1 4 (by decide) (by decide)]
      exact v6
    · rw [k1 5 (by decide) (by decide)]
      exact v7
    · unfold bSym
      rw [k3 6 (by decide)]
      exact v8
end EQVW
