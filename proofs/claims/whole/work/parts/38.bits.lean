-- BITS (the first family is pasted from the kit's texts for pasting)
def bt (x : Int32) (i : Nat) : Bool := x.toBitVec.getLsbD i
theorem b_ext {x y : Int32} (h : ∀ i, i < 32 → bt x i = bt y i) : x = y := Int32.toBitVec_inj.mp (BitVec.eq_of_getLsbD_eq (fun i hi => h i hi))
theorem b_or (x y : Int32) (i : Nat) : bt (x ||| y) i = (bt x i || bt y i) := by unfold bt; rw [Int32.toBitVec_or, BitVec.getLsbD_or]
theorem b_and (x y : Int32) (i : Nat) : bt (x &&& y) i = (bt x i && bt y i) := by unfold bt; rw [Int32.toBitVec_and, BitVec.getLsbD_and]
theorem b_xor (x y : Int32) (i : Nat) : bt (x ^^^ y) i = (bt x i ^^ bt y i) := by unfold bt; rw [Int32.toBitVec_xor, BitVec.getLsbD_xor]
theorem b_big {x : Int32} {i : Nat} (h : 32 ≤ i) : bt x i = false := BitVec.getLsbD_of_ge _ _ h
theorem b_255 (i : Nat) : bt 255 i = decide (i < 8) := by
  rcases Nat.lt_or_ge i 32 with h | h
  · exact (by decide +kernel : ∀ i, i < 32 → bt 255 i = decide (i < 8)) i h
  · rw [b_big h, decide_eq_false (by omega)]
theorem b_65535 (i : Nat) : bt 65535 i = decide (i < 16) := by
  rcases Nat.lt_or_ge i 32 with h | h
  · exact (by decide +kernel : ∀ i, i < 32 → bt 65535 i = decide (i < 16)) i h
  · rw [b_big h, decide_eq_false (by omega)]
theorem b_m1 : ∀ i, i < 32 → bt (-1) i = true := by decide +kernel
theorem b_0 (i : Nat) : bt 0 i = false := BitVec.getLsbD_zero
theorem s_l : ∀ n, n < 32 → ((nI n &&& 31).toBitVec.smod 32).toNat = n := by decide +kernel
theorem s_u : ∀ n, n < 32 → (((nI n).toUInt32 &&& Int32.toUInt32 31).toBitVec % 32).toNat = n := by decide +kernel
theorem b_shl (n : Nat) (hn : n < 32) (x : Int32) {i : Nat} (hi : i < 32) : bt (x <<< (nI n &&& 31)) i = (decide (n ≤ i) && bt x (i - n)) := by
  unfold bt
  rw [Int32.toBitVec_shiftLeft]
  show (x.toBitVec <<< ((nI n &&& 31).toBitVec.smod 32).toNat).getLsbD i = _
  rw [s_l n hn, BitVec.getLsbD_shiftLeft]
  rcases Nat.lt_or_ge i n with h | h
  · simp [h, Nat.not_le.mpr h]
  · simp [hi, h, Nat.not_lt.mpr h]
theorem b_ushr (n : Nat) (hn : n < 32) (x : Int32) (i : Nat) : bt ((x.toUInt32 >>> ((nI n).toUInt32 &&& Int32.toUInt32 31)).toInt32) i = bt x (n + i) := by
  show (x.toUInt32 >>> ((nI n).toUInt32 &&& Int32.toUInt32 31)).toBitVec.getLsbD i = x.toUInt32.toBitVec.getLsbD (n + i)
  rw [UInt32.toBitVec_shiftRight]
  show (x.toUInt32.toBitVec >>> (((nI n).toUInt32 &&& Int32.toUInt32 31).toBitVec % 32).toNat).getLsbD i = _
  rw [s_u n hn, BitVec.getLsbD_ushiftRight]
theorem b_sshr (n : Nat) (hn : n < 32) (x : Int32) {i : Nat} (hi : i < 32) : bt (x >>> (nI n &&& 31)) i = if n + i < 32 then bt x (n + i) else bt x 31 := by
  unfold bt
  rw [Int32.toBitVec_shiftRight]
  show (x.toBitVec.sshiftRight ((nI n &&& 31).toBitVec.smod 32).toNat).getLsbD i = _
  rw [s_l n hn, BitVec.getLsbD_sshiftRight, BitVec.msb_eq_getLsbD_last]
  simp [hi]

theorem b_1 : ∀ i, i < 32 → bt 1 i = decide (i = 0) := by decide +kernel
theorem and1 (x : Int32) : x &&& 1 = if bt x 0 then 1 else 0 := by
  apply b_ext
  intro i hi
  rw [b_and, b_1 i hi]
  by_cases h0 : i = 0
  · subst h0
    cases hb : bt x 0 <;> decide
  · cases hb : bt x 0
    · rw [if_neg (by decide), b_0]; simp [h0]
    · rw [if_pos rfl, b_1 i hi]; simp [h0]
theorem hb_bt {x : Int32} {t : Nat} (ht : t < 32) : hbI x (nI t) = bt x t := by
  unfold hbI
  have e : bt (x >>> (nI t &&& 31)) 0 = bt x t := by
    rw [b_sshr t ht x (by decide), Nat.add_zero, if_pos ht]
  rw [show (32 : Int32) = nI 32 from rfl, lt0_in ht (by decide), Bool.true_and, and1, e]
  cases bt x t <;> decide
theorem b1_bt {k i : Nat} (hk : k < 32) (hi : i < 32) : bt (b1 k) i = decide (i = k) := by
  unfold b1
  rw [b_shl k hk 1 hi]
  by_cases h : k ≤ i
  · rw [b_1 (i - k) (by omega)]
    by_cases e : i = k
    · subst e; simp
    · rw [decide_eq_true h, decide_eq_false (by omega), decide_eq_false e]; rfl
  · rw [decide_eq_false h, decide_eq_false (by omega)]; rfl
theorem bits_bt {p : Nat → Bool} {i : Nat} (hi : i < 32) : ∀ n, n ≤ 32 → bt (bitsOf p n) i = (decide (i < n) && p i)
  | 0, _ => by
    show bt 0 i = _
    rw [b_0, decide_eq_false (by omega)]; rfl
  | n + 1, hn => by
    have ih := bits_bt (p := p) hi n (by omega)
    unfold bitsOf
    by_cases e : i = n
    · subst e
      cases hp : p i
      · rw [if_neg (by decide), ih, hp]; simp
      · rw [if_pos rfl, b_or, ih, b1_bt (by omega) hi]; simp
    · cases hp : p n
      · rw [if_neg (by decide), ih, show decide (i < n + 1) = decide (i < n) from decide_eq_decide.mpr (by omega)]
      · rw [if_pos rfl, b_or, ih, b1_bt (by omega) hi, decide_eq_false e, Bool.or_false, show decide (i < n + 1) = decide (i < n) from decide_eq_decide.mpr (by omega)]
theorem not_bt {x : Int32} {i : Nat} (hi : i < 32) : bt (x ^^^ (-1)) i = !bt x i := by
  rw [b_xor, b_m1 i hi]
  cases bt x i <;> rfl
theorem mayB_bt {S : aS} {b P i : Nat} {x : Int32} (hP : P ≤ 7) (hi : i < 32) : bt (mayB S b P x) i = (decide (i < P) && gd S b i && (decide (¬ S.1 3 = 1) || !bt x i)) := by
  unfold mayB
  by_cases h : S.1 3 = 1
  · rw [if_pos h, b_and, bits_bt hi P (by omega), not_bt hi]
    simp [h]
  · rw [if_neg h, bits_bt hi P (by omega)]
    simp [h]
theorem may_in {S : aS} {b P : Nat} {x a : Int32} (hP : P ≤ 7) (h : hbI (mayB S b P x) a = true) : ∃ i, i < P ∧ a = nI i ∧ bt (mayB S b P x) i = true := by
  have h1 := h
  unfold hbI at h1
  rw [Bool.and_eq_true] at h1
  obtain ⟨i, hi, rfl⟩ := lt0_of (N := 32) (by decide) h1.1
  have h2 := h
  rw [hb_bt hi] at h2
  have h3 := h2
  rw [mayB_bt hP hi] at h3
  simp only [Bool.and_eq_true, decide_eq_true_eq] at h3
  exact ⟨i, h3.1.1, rfl, h2⟩
theorem third_in {S : aS} {P kd b : Nat} {a x : Int32} (hP : P ≤ 7) : thirdN S P kd a b (mayB S b P x) = -1 ∨ ∃ i, i < P ∧ thirdN S P kd a b (mayB S b P x) = nI i ∧ bt (mayB S b P x) i = true := by
  unfold thirdN
  split
  · rename_i h
    obtain ⟨i, h1, h2, h3⟩ := may_in hP h.2
    exact Or.inr ⟨i, h1, h2, h3⟩
  · split
    · exact Or.inl rfl
    · rcases fmst_cases (fun i => hbI (mayB S b P x) (nI i)) (scoreK S P kd a b) P with h | ⟨t, h1, h2, h3⟩
      · exact Or.inl h
      · exact Or.inr ⟨t, h1, h3, by rw [← hb_bt (by omega)]; exact h2⟩
