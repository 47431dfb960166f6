-- THE REFERENCE: its world
abbrev aM : Type := (Nat → Int32) × (Nat → Nat → Int32) × (Nat → Nat → Int64) × Value × Value
def lenM (j : Nat) : Nat := if j < 4 then 8 else if j < 16 then 8 else if j = 16 then 250 else if j = 17 then 8 else if j < 20 then 7 else if j < 28 then 5 else if j < 36 then 7 else if j < 38 then 4 else 7
def isI (j : Nat) : Bool := decide (1 ≤ j) && decide (j ≤ 40) && !decide (4 ≤ j ∧ j ≤ 13) && !decide (j = 20) && !decide (j = 28)
abbrev mob (o : Nat) (M : aM) : List Value := [.ref (o + 1), .ref (o + 2), .ref (o + 3), .ref (o + 4), .ref (o + 13), .ref (o + 14), .ref (o + 15), .ref (o + 16), .int (M.1 8), .ref (o + 17), .int (M.1 10), .ref (o + 18), .ref (o + 19), .int (M.1 13), .ref (o + 20), .ref (o + 28), .ref (o + 36), .int (M.1 17), .int (M.1 18), .int (M.1 19), M.2.2.2.1, M.2.2.2.2, .int (M.1 22), .int (M.1 23), .int (M.1 24), .int (M.1 25), .int (M.1 26), .ref (o + 37), .int (M.1 28), .ref (o + 38), .ref (o + 39), .ref (o + 40), .int (M.1 32)]
def rfF9 (b N : Nat) : Nat → Option Nat := fun i => if i < N then some (b + i) else none
abbrev ar (t N b : Nat) : aC := .inl (t, (N, .inr (.inr (.inr (.inr (rfF9 b N))))))
def MW (w : aW) (o : Nat) (M : aM) (n : Nat) : Prop := w o = .inr (6, mob o M) ∧ (∀ j, isI j = true → w (o + j) = ai (lenM j) (M.2.1 j)) ∧ (∀ j, 5 ≤ j → j ≤ 13 → w (o + j) = al 40 (M.2.2.1 j)) ∧ w (o + 4) = ar 4 8 (o + 5) ∧ w (o + 20) = ar 3 7 (o + 21) ∧ w (o + 28) = ar 3 7 (o + 29) ∧ o + 40 < n
def mS (M : aM) (k : Nat) (v : Int32) : aM := (fun j => if j = k then v else M.1 j, M.2)
def mA (M : aM) (j : Nat) (f : Nat → Int32) : aM := (M.1, fun j' => if j' = j then f else M.2.1 j', M.2.2)
def mL (M : aM) (j : Nat) (f : Nat → Int64) : aM := (M.1, M.2.1, fun j' => if j' = j then f else M.2.2.1 j', M.2.2.2)
def mFr (w w' : aW) (o : Nat) : Prop := ∀ j, (j < o ∨ o + 40 < j) → w' j = w j
section MODEL
variable {G : gE} {w : aW} {o n : Nat} {M : aM}
theorem MW.fr {w' : aW} (h : MW w o M n) (hf : ∀ j, o ≤ j → j ≤ o + 40 → w' j = w j) : MW w' o M n := by
  obtain ⟨h0, h1, h2, h3, h4, h5, h6⟩ := h
  refine ⟨(hf o (by omega) (by omega)).trans h0, fun j hj => ?_, fun j a b => (hf _ (by omega) (by omega)).trans (h2 j a b), (hf _ (by omega) (by omega)).trans h3, (hf _ (by omega) (by omega)).trans h4, (hf _ (by omega) (by omega)).trans h5, h6⟩
  have hj2 := hj
  unfold isI at hj2
  simp only [Bool.and_eq_true, decide_eq_true_eq] at hj2
  exact (hf _ (by omega) (by omega)).trans (h1 j hj)
theorem MW.arr {j : Nat} {f : Nat → Int32} (h : MW w o M n) (hj : isI j = true) : MW (upw w (o + j) (ai (lenM j) f)) o (mA M j f) n := by
  obtain ⟨h0, h1, h2, h3, h4, h5, h6⟩ := h
  have hj2 := hj
  unfold isI at hj2
  simp only [Bool.and_eq_true, decide_eq_true_eq, Bool.not_eq_true', decide_eq_false_iff_not] at hj2
  refine ⟨(upw_n (by omega)).trans h0, fun j' hj' => ?_, fun j' a b => (upw_n (by omega)).trans (h2 j' a b), (upw_n (by omega)).trans h3, (upw_n (by omega)).trans h4, (upw_n (by omega)).trans h5, h6⟩
  show _ = ai (lenM j') (if j' = j then f else M.2.1 j')
  by_cases e : j' = j
  · subst e
    rw [if_pos rfl]
    exact upw_s
  · rw [if_neg e]
    exact (upw_n (by omega)).trans (h1 j' hj')
theorem MW.lon {j : Nat} {f : Nat → Int64} (h : MW w o M n) (h5 : 5 ≤ j) (h13 : j ≤ 13) : MW (upw w (o + j) (al 40 f)) o (mL M j f) n := by
  obtain ⟨h0, h1, h2, h3, h4, h5', h6⟩ := h
  refine ⟨(upw_n (by omega)).trans h0, fun j' hj' => ?_, fun j' a b => ?_, (upw_n (by omega)).trans h3, (upw_n (by omega)).trans h4, (upw_n (by omega)).trans h5', h6⟩
  · have hj2 := hj'
    unfold isI at hj2
    simp only [Bool.and_eq_true, decide_eq_true_eq, Bool.not_eq_true', decide_eq_false_iff_not] at hj2
    exact (upw_n (by omega)).trans (h1 j' hj')
  · show _ = al 40 (if j' = j then f else M.2.2.1 j')
    by_cases e : j' = j
    · subst e
      rw [if_pos rfl]
      exact upw_s
    · rw [if_neg e]
      exact (upw_n (by omega)).trans (h2 j' a b)
theorem MW.obj {M' : aM} (h : MW w o M n) (h1 : M'.2.1 = M.2.1) (h2 : M'.2.2.1 = M.2.2.1) : MW (upw w o (.inr (6, mob o M'))) o M' n := by
  obtain ⟨g0, g1, g2, g3, g4, g5, g6⟩ := h
  refine ⟨upw_s, fun j hj => ?_, fun j a b => by rw [h2]; exact (upw_n (by omega)).trans (g2 j a b), (upw_n (by omega)).trans g3, (upw_n (by omega)).trans g4, (upw_n (by omega)).trans g5, g6⟩
  have hj2 := hj
  unfold isI at hj2
  simp only [Bool.and_eq_true, decide_eq_true_eq] at hj2
  rw [h1]
  exact (upw_n (by omega)).trans (g1 j hj)
def inL (v lo hi : Int64) : Bool := decide (lo ≤ v) && decide (v ≤ hi)
theorem c_M_in {v lo hi : Int64} : Fn G 0 y_M_in [.long v, .long lo, .long hi] w n (some (.int (bI (inL v lo hi)))) w := by
  refine Fn.of k_M_in l_M_in rfl rfl ?_
  unfold inL
  refine r_lload_n (i := 0) i_M_in_0 rfl rfl ?_
  refine r_lload_n (i := 2) i_M_in_1 rfl rfl ?_
  refine r_lcmp i_M_in_2 ?_
  refine r_if_lt 17 i_M_in_3 (by decide) (fun h3 => ?_) (fun h3 => ?_)
  · skip
    have h3 := lcmp_lt.mp h3
    rw [decide_eq_false (Int64.not_le.mpr h3)]
    refine r_iconst (v := (0 : Int32)) i_M_in_17 rfl ?_
    refine r_ireturn i_M_in_18 t_M_in (by first | rfl | exact nar_bI _) ?_
    exact ⟨rfl, rfl, rfl⟩
  · skip
    have h3 : ¬ v < lo := fun q => h3 (lcmp_lt.mpr q)
    rw [decide_eq_true (Int64.not_lt.mp h3)]
    refine r_lload_n (i := 0) i_M_in_6 rfl rfl ?_
    refine r_lload (i := 4) i_M_in_7 rfl ?_
    refine r_lcmp i_M_in_9 ?_
    refine r_if_gt 17 i_M_in_10 (by decide) (fun h10 => ?_) (fun h10 => ?_)
    · skip
      have h10 : hi < v := by
        refine Int64.not_le.mp (fun q => ?_)
        rcases Int64.le_iff_lt_or_eq.mp q with e | e
        · exact absurd (lcmp_lt.mpr e) (Int32.not_lt.mpr (Int32.le_of_lt h10))
        · rw [lcmp_eq.mpr e] at h10; exact absurd h10 (by decide)
      rw [decide_eq_false (Int64.not_le.mpr h10)]
      refine r_iconst (v := (0 : Int32)) i_M_in_17 rfl ?_
      refine r_ireturn i_M_in_18 t_M_in (by first | rfl | exact nar_bI _) ?_
      exact ⟨rfl, rfl, rfl⟩
    · skip
      have h10 : v ≤ hi := Int64.not_lt.mp (fun q => h10 (Int32.lt_of_le_of_ne (lcmp_ge.mpr (Int64.le_of_lt q)) (fun e => Int64.ne_of_lt q (lcmp_eq.mp e.symm).symm)))
      rw [decide_eq_true h10]
      refine r_iconst (v := (1 : Int32)) i_M_in_13 rfl ?_
      refine r_goto 18 i_M_in_14 (by decide) ?_
      refine r_ireturn i_M_in_18 t_M_in (by first | rfl | exact nar_bI _) ?_
      exact ⟨rfl, rfl, rfl⟩
theorem c_M_has {x k : Int32} : Fn G 0 y_M_has [.int x, .int k] w n (some (.int (bI (!decide ((x >>> (k &&& 31)) &&& 1 = 0))))) w := by
  refine Fn.of k_M_has l_M_has rfl rfl ?_
  refine r_iload_n (i := 0) i_M_has_0 rfl rfl ?_
  refine r_iload_n (i := 1) i_M_has_1 rfl rfl ?_
  refine r_ishr i_M_has_2 ?_
  refine r_iconst (v := (1 : Int32)) i_M_has_3 rfl ?_
  refine r_iand i_M_has_4 ?_
  refine r_if_eq 12 i_M_has_5 (by decide) (fun h5 => ?_) (fun h5 => ?_)
  · skip
    rw [decide_eq_true h5]
    refine r_iconst (v := (0 : Int32)) i_M_has_12 rfl ?_
    refine r_ireturn i_M_has_13 t_M_has (by first | rfl | exact nar_bI _) ?_
    exact ⟨rfl, rfl, rfl⟩
  · skip
    rw [decide_eq_false h5]
    refine r_iconst (v := (1 : Int32)) i_M_has_8 rfl ?_
    refine r_goto 13 i_M_has_9 (by decide) ?_
    refine r_ireturn i_M_has_13 t_M_has (by first | rfl | exact nar_bI _) ?_
    exact ⟨rfl, rfl, rfl⟩
def isN (v hi : Int32) : Bool := inL v.toInt64 0 (hi - 1).toInt64
theorem c_M_isBargain {v : Int32} (h : MW w o M n) : Fn G 1 y_M_isBargain [.ref o, .int v] w n (some (.int (bI (inL v.toInt64 0 (M.1 13 - 1).toInt64)))) w := by
  have h0 := h.1
  have hn : o + 40 < n := h.2.2.2.2.2.2
  refine Fn.of k_M_isBargain l_M_isBargain rfl rfl ?_
  refine r_iload_n (i := 1) i_M_isBargain_0 rfl rfl ?_
  refine r_i2l i_M_isBargain_1 ?_
  refine r_lconst (v := (0 : Int64)) i_M_isBargain_2 rfl ?_
  refine r_aload_n (i := 0) i_M_isBargain_3 rfl rfl ?_
  refine r_getf (ci := 6) (T := Fk6) (k := 13) o_M_isBargain i_M_isBargain_4 x_M_80 rfl (by decide) rfl (by repeat (first | assumption | exact upw_s | refine (upw_n (by omega)).trans ?_)) (by first | assumption | omega) (by rfl) ?_
  refine r_iconst (v := (1 : Int32)) i_M_isBargain_7 rfl ?_
  refine r_isub i_M_isBargain_8 ?_
  refine r_i2l i_M_isBargain_9 ?_
  refine f_static o_M_isBargain k_M_in s_M_in x_M_76 i_M_isBargain_10 (c_M_in) rfl rfl (by decide) (Nat.le_of_ble_eq_true rfl) ?_
  refine r_ireturn i_M_isBargain_13 t_M_isBargain (by first | rfl | exact nar_bI _) ?_
  exact ⟨rfl, rfl, rfl⟩
theorem c_M_isOne {v : Int64} (h : MW w o M n) : Fn G 1 y_M_isOne [.ref o, .long v] w n (some (.int (bI (inL v 0 (M.1 10 - 1).toInt64)))) w := by
  have h0 := h.1
  have hn : o + 40 < n := h.2.2.2.2.2.2
  refine Fn.of k_M_isOne l_M_isOne rfl rfl ?_
  refine r_lload_n (i := 1) i_M_isOne_0 rfl rfl ?_
  refine r_lconst (v := (0 : Int64)) i_M_isOne_1 rfl ?_
  refine r_aload_n (i := 0) i_M_isOne_2 rfl rfl ?_
  refine r_getf (ci := 6) (T := Fk6) (k := 10) o_M_isOne i_M_isOne_3 x_M_73 rfl (by decide) rfl (by repeat (first | assumption | exact upw_s | refine (upw_n (by omega)).trans ?_)) (by first | assumption | omega) (by rfl) ?_
  refine r_iconst (v := (1 : Int32)) i_M_isOne_6 rfl ?_
  refine r_isub i_M_isOne_7 ?_
  refine r_i2l i_M_isOne_8 ?_
  refine f_static o_M_isOne k_M_in s_M_in x_M_76 i_M_isOne_9 (c_M_in) rfl rfl (by decide) (Nat.le_of_ble_eq_true rfl) ?_
  refine r_ireturn i_M_isOne_12 t_M_isOne (by first | rfl | exact nar_bI _) ?_
  exact ⟨rfl, rfl, rfl⟩
end MODEL
