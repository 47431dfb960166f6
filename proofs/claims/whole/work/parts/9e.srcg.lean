-- SEARCH: the table
def Wp (S : aS) (who : Int32) (c j : Nat) (f : Nat → Nat) : Prop := (∀ i, f i = 0 ↔ j.testBit i = false) ∧ apS S j = true ∧ (∀ i, ¬ f i = 0 → f i ≤ c ∧ hbI who (nI (f i - 1)) = true ∧ gd S i (f i - 1) = true) ∧ (S.1 3 = 0 ∨ ∀ i k, ¬ f i = 0 → f i = f k → i = k)
def Np (S : aS) (who : Int32) (c j : Nat) (f : Nat → Nat) : Prop := Wp S who (c + 1) j f ∧ ∃ i, f i = c + 1
theorem gdN_tb {S : aS} {B c i : Nat} : ∀ b, (gdN S B c b).testBit i = (decide (i < b) && gd S i c)
  | 0 => by
    rw [decide_eq_false (by omega)]
    exact Nat.zero_testBit i
  | b + 1 => by
    have ih := gdN_tb (S := S) (B := B) (c := c) (i := i) b
    have hlt := gdN_lt (S := S) (B := B) (c := c) b
    have e : gdN S B c (b + 1) = if gd S b c then gdN S B c b + 2 ^ b else gdN S B c b := rfl
    rw [e]
    by_cases q : gd S b c = true
    · rw [if_pos q, Nat.add_comm]
      rcases Nat.lt_trichotomy i b with z | z | z
      · rw [Nat.testBit_two_pow_add_gt z, ih, decide_eq_true z, decide_eq_true (show i < b + 1 by omega)]
      · rw [z, Nat.testBit_two_pow_add_eq, test_big hlt (Nat.le_refl _), decide_eq_true (Nat.lt_succ_self b), q]
        rfl
      · rw [decide_eq_false (show ¬ i < b + 1 by omega), Bool.false_and]
        exact Nat.testBit_lt_two_pow (Nat.lt_of_lt_of_le (m := 2 ^ (b + 1)) (by rw [Nat.pow_succ]; omega) (Nat.pow_le_pow_right (by decide) (by omega)))
    · rw [if_neg q, ih]
      rcases Nat.lt_trichotomy i b with z | z | z
      · rw [decide_eq_true z, decide_eq_true (show i < b + 1 by omega)]
      · rw [Bool.not_eq_true] at q
        rw [z, q, Bool.and_false, Bool.and_false]
      · rw [decide_eq_false (show ¬ i < b by omega), decide_eq_false (show ¬ i < b + 1 by omega)]
theorem clr_tb' {j b i : Nat} (hj : j < 128) (hb : b < 7) : (clrB j b).testBit i = (j.testBit i && !decide (i = b)) := by
  rcases Nat.lt_or_ge i 7 with q | q
  · exact clr_tb j hj b hb i q
  · rw [test_big (B := 7) (Nat.lt_of_le_of_lt (clrB_le j b) hj) q, test_big (B := 7) hj q, Bool.false_and]
theorem Np_iff {S : aS} {who : Int32} {c j : Nat} {f : Nat → Nat} (hj : j < 128) (hw : hbI who (nI c) = true) : Np S who c j f ↔ ∃ b, b < 7 ∧ (apS S j = true ∧ j.testBit b = true ∧ gd S b c = true) ∧ ∃ g, (Wp S who c (clrB j b) g ∨ (S.1 3 = 0 ∧ Np S who c (clrB j b) g)) ∧ f = upn g b (c + 1) := by
  constructor
  · rintro ⟨⟨h1, h2, h3, h4⟩, b, hb⟩
    have hjb : j.testBit b = true := by
      cases q : j.testBit b
      · have := (h1 b).mpr q
        omega
      · rfl
    have hb7 : b < 7 := Nat.lt_of_not_le (fun z => by rw [test_big (B := 7) hj z] at hjb; exact absurd hjb (by decide))
    have hg := (h3 b (by omega)).2.2
    rw [hb, Nat.add_sub_cancel] at hg
    refine ⟨b, hb7, ⟨h2, hjb, hg⟩, upn f b 0, ?_, ?_⟩
    · have z1 : ∀ i, upn f b 0 i = 0 ↔ (clrB j b).testBit i = false := by
        intro i
        rw [clr_tb' hj hb7]
        unfold upn
        by_cases e : i = b
        · rw [if_pos e, decide_eq_true e]
          simp
        · rw [if_neg e, decide_eq_false e, h1 i]
          simp
      have z2 : apS S (clrB j b) = true := ap_sub hj (Nat.lt_of_le_of_lt (clrB_le j b) hj) (fun i hi => by
        rw [clr_tb' hj hb7, Bool.and_eq_true] at hi
        exact hi.1) h2
      have z3 : ∀ i, ¬ upn f b 0 i = 0 → ¬ i = b ∧ upn f b 0 i = f i := by
        intro i hi
        unfold upn at hi ⊢
        by_cases e : i = b
        · rw [if_pos e] at hi
          exact absurd rfl hi
        · exact ⟨e, if_neg e⟩
      have z4 : S.1 3 = 0 ∨ ∀ i k, ¬ upn f b 0 i = 0 → upn f b 0 i = upn f b 0 k → i = k := by
        rcases h4 with h4 | h4
        · exact Or.inl h4
        · refine Or.inr (fun i k hi hk => ?_)
          have a := (z3 i hi).2
          have a' := (z3 k (by rw [← hk]; exact hi)).2
          exact h4 i k (by rw [← a]; exact hi) (by rw [← a, ← a']; exact hk)
      by_cases q : ∃ i, upn f b 0 i = c + 1
      · obtain ⟨i, hi⟩ := q
        have a := z3 i (by omega)
        refine Or.inr ⟨?_, ⟨z1, z2, fun k hk => ?_, z4⟩, i, hi⟩
        · rcases h4 with h4 | h4
          · exact h4
          · exact absurd (h4 i b (by rw [← a.2]; omega) (by rw [← a.2, hi, hb])) a.1
        · have a := z3 k hk
          rw [a.2]
          exact h3 k (by rw [← a.2]; exact hk)
      · refine Or.inl ⟨z1, z2, fun k hk => ?_, z4⟩
        have a := z3 k hk
        have b3 := h3 k (by rw [← a.2]; exact hk)
        rw [a.2]
        refine ⟨?_, b3.2⟩
        have b31 := b3.1
        have : ¬ f k = c + 1 := fun e => q ⟨k, by rw [a.2]; exact e⟩
        omega
    · funext i
      unfold upn
      by_cases e : i = b
      · rw [if_pos e, e, hb]
      · rw [if_neg e, if_neg e]
  · rintro ⟨b, hb7, ⟨h2, hjb, hg⟩, g, hW, rfl⟩
    have hcl : ∀ i, (clrB j b).testBit i = (j.testBit i && !decide (i = b)) := fun i => clr_tb' hj hb7
    have base : (∀ i, g i = 0 ↔ (clrB j b).testBit i = false) ∧ (∀ i, ¬ g i = 0 → g i ≤ c + 1 ∧ hbI who (nI (g i - 1)) = true ∧ gd S i (g i - 1) = true) := by
      rcases hW with hW | hW
      · exact ⟨hW.1, fun i hi => ⟨Nat.le_succ_of_le (hW.2.2.1 i hi).1, (hW.2.2.1 i hi).2⟩⟩
      · exact ⟨hW.2.1.1, hW.2.1.2.2.1⟩
    refine ⟨⟨fun i => ?_, h2, fun i hi => ?_, ?_⟩, b, by unfold upn; rw [if_pos rfl]⟩
    · unfold upn
      by_cases e : i = b
      · rw [if_pos e, e, hjb]
        simp
      · rw [if_neg e, base.1 i, hcl, decide_eq_false e]
        simp
    · unfold upn at hi ⊢
      by_cases e : i = b
      · rw [if_pos e, e]
        exact ⟨Nat.le_refl _, by rw [Nat.add_sub_cancel]; exact hw, by rw [Nat.add_sub_cancel]; exact hg⟩
      · rw [if_neg e] at hi ⊢
        exact base.2 i hi
    · rcases hW with hW | hW
      · rcases hW.2.2.2 with h4 | h4
        · exact Or.inl h4
        · refine Or.inr (fun i k hi hk => ?_)
          unfold upn at hi hk
          by_cases e : i = b
          · by_cases e2 : k = b
            · rw [e, e2]
            · rw [if_pos e, if_neg e2] at hk
              have := (hW.2.2.1 k (by omega)).1
              omega
          · rw [if_neg e] at hi hk
            by_cases e2 : k = b
            · rw [if_pos e2] at hk
              have := (hW.2.2.1 i hi).1
              omega
            · rw [if_neg e2] at hk
              exact h4 i k hi hk
      · exact Or.inl hW.1
theorem opF_tb {S : aS} {B c j b : Nat} (hj : j < 2 ^ B) : (opF (apS S) (gdN S B c B) j).testBit b = true ↔ apS S j = true ∧ j.testBit b = true ∧ gd S b c = true := by
  unfold opF
  by_cases q : apS S j = true
  · rw [if_pos q, Nat.testBit_and, gdN_tb]
    simp only [Bool.and_eq_true, decide_eq_true_eq]
    constructor
    · intro h
      exact ⟨q, h.1, h.2.2⟩
    · intro h
      exact ⟨h.2.1, Nat.lt_of_not_le (fun z => by rw [test_big hj z] at h; exact absurd h.2.1 (by decide)), h.2.2⟩
  · rw [if_neg q, Nat.zero_testBit]
    exact ⟨fun h => absurd h (by decide), fun h => absurd h.1 q⟩
