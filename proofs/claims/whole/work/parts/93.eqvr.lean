-- THE TWO SIDES: set, element, holds, copy, the tape, status
theorem norow_ge {M : aM} {s c : Int32} (h : ¬ norow M s c = 0) : 2 ≤ norow M s c := by
  unfold norow at h ⊢
  repeat' split
  all_goals first | omega | (exfalso; apply h; simp [*])
theorem nI_n0 {r : Nat} (hr : r < 2 ^ 31) : (-nI r = 0) ↔ r = 0 := ⟨fun h => Classical.byContradiction (fun q => nI_neg0 hr q h), fun h => by rw [h]; rfl⟩
theorem low_low {c : Nat} {v : Int64} (hc : c < 5) : lowb (nI c) (lowb (nI c) v) = lowb (nI c) v := by
  rcases (show c = 0 ∨ c = 1 ∨ c = 2 ∨ c = 3 ∨ c = 4 by omega) with rfl | rfl | rfl | rfl | rfl
  · show (v.toInt32.toInt8.toInt32.toInt64).toInt32.toInt8.toInt32.toInt64 = v.toInt32.toInt8.toInt32.toInt64
    rw [Int32.toInt32_toInt64, Int8.toInt8_toInt32]
  · show (v.toInt32.toInt16.toInt32.toInt64).toInt32.toInt16.toInt32.toInt64 = v.toInt32.toInt16.toInt32.toInt64
    rw [Int32.toInt32_toInt64, Int16.toInt16_toInt32]
  · show (v.toInt32.toInt64).toInt32.toInt64 = v.toInt32.toInt64
    rw [Int32.toInt32_toInt64]
  · rfl
  · show (if (if v = 0 then (0 : Int64) else 1) = 0 then (0 : Int64) else 1) = if v = 0 then 0 else 1
    split <;> rfl
section EQVR
variable {Q : aQ} {M K : aM} {P B : Nat}
theorem eqv_set {s i : Int32} {v : Int64} (h : Rl Q M K) : Eqv (m_set Q s i v) (m2_set M s i v) M K := by
  have hok := ok_set (s := s) (i := i) (v := v) h.2.2.2.2.2.1
  have hS := h.2.2.1
  have hlt := norow_lt (M := M) (s := s) (c := 2)
  have hge := norow_ge (M := M) (s := s) (c := 2)
  have h00 := norow_0 (M := M) (s := s) (c := 2)
  unfold m_set m2_set r_set at *
  rw [rowR_M hS] at hok ⊢
  generalize norow M s 2 = r at *
  by_cases hr : r = 0
  · subst hr
    obtain ⟨b1, b2, b3⟩ := h00 rfl
    obtain ⟨s, hs, rfl⟩ := lt0_of (N := 8) (by decide) b1
    rw [nI_clamp (by omega)] at b2 b3 hok ⊢
    obtain ⟨⟨c, hc, ec⟩, ⟨m, hm, em⟩, h3⟩ := hS s hs
    obtain ⟨e1, e2, e3, e4⟩ := (h3.resolve_left (fun q => b3 q.1)).resolve_right (fun q => b2 q.1)
    have hsz : sizeI (sh Q) (nI s) = nI m := ((size_M hS hs).1 e1).trans em
    rw [if_pos (show -nI 0 = 0 from rfl), hsz] at hok
    rw [if_pos (show -nI 0 = 0 from rfl), if_pos rfl, hsz, em, in_lt (by omega)]
    by_cases q : lt0 i (nI m) = true
    · rw [if_pos q, if_pos rfl] at hok
      rw [if_pos q, if_pos rfl, if_pos q]
      obtain ⟨i, hi, rfl⟩ := lt0_of (by omega) q
      rw [nI_clamp (by omega)] at hok ⊢
      refine eqv_s h rfl (fun s' hs' => ?_) (fun j hj => rfl) rfl rfl hok
      obtain ⟨a1, a2, a3⟩ := hS s' hs'
      refine ⟨a1, a2, ?_⟩
      rcases a3 with b | ⟨c1, c2, c3, c4⟩ | b
      · exact Or.inl b
      · refine Or.inr (Or.inl ⟨c1, c2, c3, fun k hk => ?_⟩)
        obtain ⟨m', hm', em'⟩ := a2
        have hk : k < (M.2.1 3 s').toNatClampNeg := hk
        have c4 := c4 k hk
        rw [em', nI_clamp (by omega)] at hk
        show vp_updL (sh Q).2.2.2 (40 * s + i) (lowb ((sh Q).1 s) v) (40 * s' + k) = (if 5 + s' = 5 + s then vp_updL (M.2.2.1 (5 + s)) i (lowb (M.2.1 2 s) v) else M.2.2.1 (5 + s')) k ∧ lowb (M.2.1 2 s') ((if 5 + s' = 5 + s then vp_updL (M.2.2.1 (5 + s)) i (lowb (M.2.1 2 s) v) else M.2.2.1 (5 + s')) k) = (if 5 + s' = 5 + s then vp_updL (M.2.2.1 (5 + s)) i (lowb (M.2.1 2 s) v) else M.2.2.1 (5 + s')) k
        unfold vp_updL
        by_cases e : s' = s
        · subst e
          rw [if_pos rfl]
          by_cases ek : k = i
          · rw [if_pos (by omega), if_pos ek]
            refine ⟨congrArg (fun y => lowb y v) e2, ?_⟩
            rw [ec]
            exact low_low hc
          · rw [if_neg (by omega), if_neg ek]
            exact c4
        · rw [if_neg (by omega), if_neg (by omega)]
          exact c4
      · exact Or.inr (Or.inr b)
    · rw [if_neg q, if_neg (show ¬ (-2 : Int32) = 0 by decide), if_neg q]
      exact eqv_2 h
  · have hge := hge hr
    rw [if_neg (fun q => hr ((nI_n0 (by omega)).mp q)), if_neg (fun q => hr ((nI_n0 (by omega)).mp q)), if_neg hr]
    exact eqv_r h hge (by omega)
theorem eq_element {s i : Int32} (h : Rl Q M K) : e_element Q s i = e_elM M s i := by
  have hS := h.2.2.1
  unfold e_element e_elM
  by_cases q : lt0 s 8 = true
  · rw [if_pos q, q, Bool.true_and]
    obtain ⟨s, hs, rfl⟩ := lt0_of (N := 8) (by decide) q
    rw [nI_clamp (by omega)]
    unfold elemI
    obtain ⟨⟨c, hc, ec⟩, ⟨m, hm, em⟩, h3⟩ := hS s hs
    by_cases e1 : M.2.1 1 s = 1
    · rw [(size_M hS hs).1 e1, decide_eq_true e1, Bool.true_and, em, in_lt (by omega)]
      obtain ⟨-, -, -, e4⟩ := (h3.resolve_left (fun q => by rw [q.1] at e1; exact absurd e1 (by decide))).resolve_right (fun q => by rw [q.1] at e1; exact absurd e1 (by decide))
      split
      · rename_i q2
        obtain ⟨i, hi, rfl⟩ := lt0_of (by omega) q2
        rw [nI_clamp (by omega)]
        exact (e4 i (by rw [em, nI_clamp (by omega)]; exact hi)).1
      · rfl
    · rw [(size_M hS hs).2 e1, decide_eq_false e1, Bool.false_and, if_neg (show ¬ lt0 i 0 = true by
        intro z
        have := of_decide_eq_true z
        exact this.1 (Int32.not_le.mp this.2)), if_neg (by decide)]
  · rw [if_neg q, if_neg (fun z => q (by rw [Bool.and_eq_true] at z; exact z.1))]
theorem eqv_holds {s : Int32} (h : Rl Q M K) : Eqv (m_holds Q s) (hldM M s, M) M K := by
  refine eqv_v h ?_
  have hS := h.2.2.1
  unfold heldI hldM
  by_cases q : lt0 s 8 = true
  · rw [if_pos q]
    obtain ⟨s, hs, rfl⟩ := lt0_of (N := 8) (by decide) q
    rw [nI_clamp (by omega), atI_in hs (by decide)]
    rcases (hS s hs).2.2 with ⟨e1, e2⟩ | ⟨e1, e2, -⟩ | ⟨e1, kd, a, k1, k6, ha, e3, e2, -⟩
    · rw [if_neg (fun z => z.2 e1)]
      exact e2
    · rw [if_pos ⟨q, by rw [e1]; decide⟩, if_pos e1]
      exact e2
    · rw [if_pos ⟨q, by rw [e1]; decide⟩, if_neg (by rw [e1]; decide), e3]
      exact e2.trans (by rw [show (10 : Int32) = nI 10 from rfl, nI_add])
  · rw [if_neg q, if_neg (fun z => q z.1)]
theorem cnt_eq (h : SR Q.2.2.2.1 M) : ∀ s, s ≤ 8 → cntH Q.2.2.2.1 s = cnS M s
  | 0, _ => rfl
  | s + 1, hs => by
    have ih := cnt_eq h s (by omega)
    unfold cntH cnS
    rw [ih]
    obtain ⟨⟨c, hc, ec⟩, -, h3⟩ := h s (by omega)
    rcases h3 with ⟨e1, e2⟩ | ⟨e1, e2, -⟩ | ⟨e1, kd, a, k1, k6, ha, -, e2, -⟩
    · rw [if_pos e2, if_pos e1]
    · rw [if_neg (by rw [e2, ec]; exact nI_nem1 (by omega)), if_neg (by rw [e1]; decide)]
    · rw [if_neg (by rw [e2]; exact nI_nem1 (by omega)), if_neg (by rw [e1]; decide)]
theorem eqv_status {k : Int32} (h : Rl Q M K) : Eqv (m_status Q k) (m2_status M k) M K := by
  refine eqv_v h ?_
  obtain ⟨t1, t2, t3, ⟨t4, t5, t6⟩, -⟩ := h.1
  have hz := h.2.2.2.1.2
  have hr := h.2.2.2.2.1
  have hc := cnt_eq h.2.2.1 8 (by decide)
  by_cases q : lt0 k 11 = true
  · rw [if_pos q, if_pos q]
    obtain ⟨k, hk, rfl⟩ := lt0_of (N := 11) (by decide) q
    rw [nI_clamp (by omega)]
    rcases (show k = 0 ∨ k = 1 ∨ k = 2 ∨ k = 3 ∨ k = 4 ∨ k = 5 ∨ k = 6 ∨ k = 7 ∨ k = 8 ∨ k = 9 ∨ k = 10 by omega) with rfl | rfl | rfl | rfl | rfl | rfl | rfl | rfl | rfl | rfl | rfl
    · exact t1
    · exact t2
    · exact t5
    · exact t6
    · exact t3 0 (by decide)
    · exact t3 1 (by decide)
    · exact t3 2 (by decide)
    · exact t3 3 (by decide)
    · exact hz.symm
    · exact t4
    · exact hc
  · rw [if_neg q, if_neg q]
    by_cases q2 : wi0 k 12 16 = true
    · rw [if_pos q2, if_pos q2]
      have q3 := of_decide_eq_true q2
      rw [Int32.lt_iff_toInt_lt, Int32.lt_iff_toInt_lt, show (12 : Int32).toInt = 12 from rfl, show (16 : Int32).toInt = 16 from rfl] at q3
      obtain ⟨j, hj, rfl⟩ : ∃ j, j < 5 ∧ k = nI (j + 12) := ⟨k.toInt.toNat - 12, by omega, Int32.toInt_inj.mp (by rw [toInt_nI (by omega)]; omega)⟩
      rw [show nI (j + 12) - 12 = nI j from by rw [show (12 : Int32) = nI 12 from rfl, pk_sub (by omega)]; exact congrArg nI (by omega), show nI (j + 12) - 10 = nI (j + 2) from by rw [show (10 : Int32) = nI 10 from rfl, pk_sub (by omega)]; exact congrArg nI (by omega), atI_in hj (by decide), nI_clamp (by omega)]
      exact hr j hj
    · rw [if_neg q2, if_neg q2]
/-- the tape moves on, all else stays -/
theorem Rl.tp {f : Nat → Int32} {z : Nat} {N : aM} (h : Rl Q M K) (h1 : ∀ j, ¬ j = 16 → N.2.1 j = M.2.1 j) (h0 : ∀ k, ¬ k = 8 → N.1 k = M.1 k) (h2 : N.2.2 = M.2.2) (hf : N.2.1 16 = f) (hz : N.1 8 = nI z) (hz2 : z ≤ 250) : Rl (Q.1, Q.2.1, Q.2.2.1, Q.2.2.2.1, f, z, Q.2.2.2.2.2.2) N K := by
  obtain ⟨⟨t1, t2, t3, ⟨t4, t5, t6⟩, t7, t8, t9⟩, hk, hs, -, hr, hq, hv⟩ := h
  refine ⟨⟨t1.trans (h0 10 (by decide)).symm, t2.trans (h0 13 (by decide)).symm, fun k hk => by rw [h1 36 (by omega)]; exact t3 k hk, ⟨t4.trans (h0 19 (by decide)).symm, t5.trans (h0 17 (by decide)).symm, t6.trans (h0 18 (by decide)).symm⟩, fun t ht => by rw [h1 18 (by omega), h1 19 (by omega)]; exact t7 t ht, fun j b hj hb => by rw [h1 (21 + b) (by omega)]; exact t8 j b hj hb, fun b t hb ht => by rw [h1 (29 + b) (by omega)]; exact t9 b t hb ht⟩, ?_, fun s hs8 => (hs s hs8).of (fun j hj => by rw [h1 j (by omega)]) (by rw [h2]), ⟨hf, hz⟩, fun k hk => by rw [h1 17 (by omega)]; exact hr k hk, ⟨hq.1, hq.2.1, hq.2.2.1, hz2⟩, hv⟩
  unfold KR at hk ⊢
  rw [h2]
  exact hk
end EQVR
