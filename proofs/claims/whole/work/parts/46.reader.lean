-- READER: tokens and numbers
def tokN (f : Nat → Int32) (z p : Nat) : Nat := if z ≤ p then 0 else if wi0 (f p) 97 122 then 1 else if wi0 (f p) 48 57 then 2 else if f p = 59 then 3 else 4
def skF (f : Nat → Int32) (z : Nat) : Nat → Nat → Nat
  | 0, p => p
  | m + 1, p => if f p = 32 then skF f z m (p + 1) else p
def enF (f : Nat → Int32) (z tk : Nat) : Nat → Nat → Nat
  | 0, p => p
  | m + 1, p => if tokN f z p = tk then enF f z tk m (p + 1) else p
abbrev aL : Type := Nat × Nat × Nat
def lexF (f : Nat → Int32) (z p : Nat) : aL := (if tokN f z (skF f z (z - p) p) = 0 then skF f z (z - p) p else if tokN f z (skF f z (z - p) p) = 1 ∨ tokN f z (skF f z (z - p) p) = 2 then enF f z (tokN f z (skF f z (z - p) p)) (z - (skF f z (z - p) p + 1)) (skF f z (z - p) p + 1) else skF f z (z - p) p + 1, tokN f z (skF f z (z - p) p), skF f z (z - p) p)
def RW (w : aW) (k : Nat) (f : Nat → Int32) (z : Nat) (L : aL) (fa : Int32) (n : Nat) : Prop := w k = .inr (3, [.ref (k + 1), .int (nI z), .int (nI L.1), .int (nI L.2.1), .int (nI L.2.2), .int fa]) ∧ w (k + 1) = ai 250 f ∧ k + 1 < n
def rFr (w w' : aW) (k : Nat) : Prop := ∀ j, ¬ j = k → w' j = w j
theorem RW.fr {w w' : aW} {k z n : Nat} {f : Nat → Int32} {L : aL} {fa : Int32} (h : RW w k f z L fa n) (hf : ∀ j, k ≤ j → j ≤ k + 1 → w' j = w j) : RW w' k f z L fa n := ⟨(hf _ (by omega) (by omega)).trans h.1, (hf _ (by omega) (by omega)).trans h.2.1, h.2.2⟩
theorem tok_lt (f : Nat → Int32) (z p : Nat) : tokN f z p ≤ 4 := by
  unfold tokN
  repeat' split
  all_goals omega
theorem sk_le {f : Nat → Int32} {z : Nat} : ∀ m p, p ≤ skF f z m p ∧ skF f z m p ≤ p + m
  | 0, p => ⟨Nat.le_refl _, Nat.le_refl _⟩
  | m + 1, p => by
    unfold skF
    split
    · have := sk_le (f := f) (z := z) m (p + 1)
      omega
    · omega
theorem en_le {f : Nat → Int32} {z tk : Nat} : ∀ m p, p ≤ enF f z tk m p ∧ enF f z tk m p ≤ p + m
  | 0, p => ⟨Nat.le_refl _, Nat.le_refl _⟩
  | m + 1, p => by
    unfold enF
    split
    · have := en_le (f := f) (z := z) (tk := tk) m (p + 1)
      omega
    · omega
theorem lex_le {f : Nat → Int32} {z p : Nat} (hp : p ≤ z) : (lexF f z p).2.2 ≤ (lexF f z p).1 ∧ (lexF f z p).1 ≤ z ∧ (lexF f z p).2.1 ≤ 4 := by
  have h1 := sk_le (f := f) (z := z) (z - p) p
  refine ⟨?_, ?_, tok_lt _ _ _⟩
  · show skF f z (z - p) p ≤ (lexF f z p).1
    unfold lexF
    dsimp only
    split
    · exact Nat.le_refl _
    · split
      · have := en_le (f := f) (z := z) (tk := tokN f z (skF f z (z - p) p)) (z - (skF f z (z - p) p + 1)) (skF f z (z - p) p + 1)
        omega
      · omega
  · unfold lexF
    dsimp only
    split
    · omega
    · rename_i h0
      have hlt : skF f z (z - p) p < z := by
        rcases Nat.lt_or_ge (skF f z (z - p) p) z with q | q
        · exact q
        · exact absurd (if_pos q) h0
      split
      · have := en_le (f := f) (z := z) (tk := tokN f z (skF f z (z - p) p)) (z - (skF f z (z - p) p + 1)) (skF f z (z - p) p + 1)
        omega
      · omega
section READER
variable {G : gE} {w : aW} {n k : Nat} {f : Nat → Int32} {z : Nat} {L : aL} {fa : Int32}
theorem c_R_tokenOf {p : Nat} (hR : RW w k f z L fa n) (hz : z ≤ 250) (hp : p ≤ 250) : Fn G 1 y_R_tokenOf [.ref k, .int (nI p)] w n (some (.int (nI (tokN f z p)))) w := by
  obtain ⟨g0, g1, hn⟩ := hR
  refine Fn.of k_R_tokenOf l_R_tokenOf rfl rfl ?_
  unfold tokN
  refine r_iload_n (i := 1) i_R_tokenOf_0 rfl rfl ?_
  refine r_aload_n (i := 0) i_R_tokenOf_1 rfl rfl ?_
  refine r_getf (ci := 3) (T := Fk3) (k := 1) o_R_tokenOf i_R_tokenOf_2 x_R_15 rfl (by decide) rfl (by repeat (first | assumption | exact upw_s | refine (upw_n (by omega)).trans ?_)) (by first | assumption | omega) (by rfl) ?_
  refine r_icmp_lt 10 i_R_tokenOf_5 (by decide) (fun h5 => ?_) (fun h5 => ?_)
  · skip
    have h5 : ¬ z ≤ p := fun q => absurd h5 (nI_nlt q (by omega))
    have q5 : p < 250 := by omega
    refine r_aload_n (i := 0) i_R_tokenOf_10 rfl rfl ?_
    refine r_getf (ci := 3) (T := Fk3) (k := 0) o_R_tokenOf i_R_tokenOf_11 x_R_11 rfl (by decide) rfl (by repeat (first | assumption | exact upw_s | refine (upw_n (by omega)).trans ?_)) (by first | assumption | omega) (by rfl) ?_
    refine r_iload_n (i := 1) i_R_tokenOf_14 rfl rfl ?_
    refine f_staticN o_R_tokenOf k_N_at s_N_at x_R_129 i_R_tokenOf_15 (c_N_at (by repeat (first | assumption | exact upw_s | refine (upw_n (by omega)).trans ?_)) (by omega) (by decide)) rfl rfl (by decide) (Nat.le_of_ble_eq_true rfl) ?_
    rw [atI_in q5 (by decide)]
    refine r_istore_2 i_R_tokenOf_18 (by rw [l_R_tokenOf]; decide) rfl ?_
    refine r_iload_n (i := 2) i_R_tokenOf_19 rfl rfl ?_
    refine r_bipush (v := (97 : Int32)) i_R_tokenOf_20 (by decide) ?_
    refine r_bipush (v := (122 : Int32)) i_R_tokenOf_22 (by decide) ?_
    refine f_staticN o_R_tokenOf k_N_isWithin s_N_isWithin x_R_125 i_R_tokenOf_24 (c_N_isWithin) rfl rfl (by decide) (Nat.le_of_ble_eq_true rfl) ?_
    refine r_if_eq 32 i_R_tokenOf_27 (by decide) (fun h27 => ?_) (fun h27 => ?_)
    · skip
      have h27 := bI_eq0.mp h27
      refine r_iload_n (i := 2) i_R_tokenOf_32 rfl rfl ?_
      refine r_bipush (v := (48 : Int32)) i_R_tokenOf_33 (by decide) ?_
      refine r_bipush (v := (57 : Int32)) i_R_tokenOf_35 (by decide) ?_
      refine f_staticN o_R_tokenOf k_N_isWithin s_N_isWithin x_R_125 i_R_tokenOf_37 (c_N_isWithin) rfl rfl (by decide) (Nat.le_of_ble_eq_true rfl) ?_
      refine r_if_eq 45 i_R_tokenOf_40 (by decide) (fun h40 => ?_) (fun h40 => ?_)
      · skip
        have h40 := bI_eq0.mp h40
        refine r_iload_n (i := 2) i_R_tokenOf_45 rfl rfl ?_
        refine r_bipush (v := (59 : Int32)) i_R_tokenOf_46 (by decide) ?_
        refine r_icmp_ne 55 i_R_tokenOf_48 (by decide) (fun h48 => ?_) (fun h48 => ?_)
        · skip
          refine r_iconst (v := (4 : Int32)) i_R_tokenOf_55 rfl ?_
          refine r_ireturn i_R_tokenOf_56 t_R_tokenOf rfl ?_
          exact ⟨by first | rw [if_pos h5]; done | (rw [if_neg h5]; simp [*]; done) | (rw [if_pos h5]; rfl) | (rw [if_neg h5]; simp [*]; rfl), rfl, rfl⟩
        · skip
          refine r_iconst (v := (3 : Int32)) i_R_tokenOf_51 rfl ?_
          refine r_goto 56 i_R_tokenOf_52 (by decide) ?_
          refine r_ireturn i_R_tokenOf_56 t_R_tokenOf rfl ?_
          exact ⟨by first | rw [if_pos h5]; done | (rw [if_neg h5]; simp [*]; done) | (rw [if_pos h5]; rfl) | (rw [if_neg h5]; simp [*]; rfl), rfl, rfl⟩
      · skip
        have h40 := bI_ne0.mp h40
        refine r_iconst (v := (2 : Int32)) i_R_tokenOf_43 rfl ?_
        refine r_ireturn i_R_tokenOf_44 t_R_tokenOf rfl ?_
        exact ⟨by first | rw [if_pos h5]; done | (rw [if_neg h5]; simp [*]; done) | (rw [if_pos h5]; rfl) | (rw [if_neg h5]; simp [*]; rfl), rfl, rfl⟩
    · skip
      have h27 := bI_ne0.mp h27
      refine r_iconst (v := (1 : Int32)) i_R_tokenOf_30 rfl ?_
      refine r_ireturn i_R_tokenOf_31 t_R_tokenOf rfl ?_
      exact ⟨by first | rw [if_pos h5]; done | (rw [if_neg h5]; simp [*]; done) | (rw [if_pos h5]; rfl) | (rw [if_neg h5]; simp [*]; rfl), rfl, rfl⟩
  · skip
    have h5 : z ≤ p := by
      rcases Nat.lt_or_ge p z with q | q
      · exact absurd (nI_lt q (by omega)) h5
      · exact q
    refine r_iconst (v := (0 : Int32)) i_R_tokenOf_8 rfl ?_
    refine r_ireturn i_R_tokenOf_9 t_R_tokenOf rfl ?_
    exact ⟨by first | rw [if_pos h5]; done | (rw [if_neg h5]; simp [*]; done) | (rw [if_pos h5]; rfl) | (rw [if_neg h5]; simp [*]; rfl), rfl, rfl⟩
theorem c_R_fail (hR : RW w k f z L fa n) : Mt G 0 y_R_fail [.ref k] w n 0 0 (fun r w' n' => r = none ∧ (RW w' k f z L (if fa = -1 then nI L.2.2 else fa) n ∧ rFr w w' k) ∧ n' = n) := by
  obtain ⟨g0, g1, hn⟩ := hR
  refine Mt.of k_R_fail l_R_fail (Nat.le_of_ble_eq_true rfl) rfl ?_
  refine r_aload_n (i := 0) i_R_fail_0 rfl rfl ?_
  refine r_getf (ci := 3) (T := Fk3) (k := 5) o_R_fail i_R_fail_1 x_R_28 rfl (by decide) rfl (by repeat (first | assumption | exact upw_s | refine (upw_n (by omega)).trans ?_)) (by first | assumption | omega) (by rfl) ?_
  refine r_iconst (v := (-1 : Int32)) i_R_fail_4 rfl ?_
  refine r_icmp_ne 16 i_R_fail_5 (by decide) (fun h5 => ?_) (fun h5 => ?_)
  · skip
    rw [if_neg h5]
    refine r_return i_R_fail_16 t_R_fail ?_
    first | exact ⟨rfl, ⟨⟨g0, g1, hn⟩, fun _ _ => rfl⟩, rfl⟩ | exact ⟨rfl, ⟨⟨(by repeat (first | assumption | exact upw_s | refine (upw_n (by omega)).trans ?_)), (by repeat (first | assumption | exact upw_s | refine (upw_n (by omega)).trans ?_)), hn⟩, fun j hj => upw_n hj⟩, rfl⟩
  · skip
    rw [if_pos h5]
    refine r_aload_n (i := 0) i_R_fail_8 rfl rfl ?_
    refine r_aload_n (i := 0) i_R_fail_9 rfl rfl ?_
    refine r_getf (ci := 3) (T := Fk3) (k := 4) o_R_fail i_R_fail_10 x_R_25 rfl (by decide) rfl (by repeat (first | assumption | exact upw_s | refine (upw_n (by omega)).trans ?_)) (by first | assumption | omega) (by rfl) ?_
    refine r_putf (ci := 3) (T := Fk3) (k := 5) o_R_fail i_R_fail_13 x_R_28 rfl (by decide) rfl rfl (ok3 5 (by decide)) rfl (by repeat (first | assumption | exact upw_s | refine (upw_n (by omega)).trans ?_)) (by first | assumption | omega) (by exact Nat.le_of_ble_eq_true rfl) ?_
    refine r_return i_R_fail_16 t_R_fail ?_
    first | exact ⟨rfl, ⟨⟨g0, g1, hn⟩, fun _ _ => rfl⟩, rfl⟩ | exact ⟨rfl, ⟨⟨(by repeat (first | assumption | exact upw_s | refine (upw_n (by omega)).trans ?_)), (by repeat (first | assumption | exact upw_s | refine (upw_n (by omega)).trans ?_)), hn⟩, fun j hj => upw_n hj⟩, rfl⟩
theorem c_R_step (hR : RW w k f z L fa n) (hz : z ≤ 250) (hp : L.1 ≤ z) : Mt G 2 y_R_step [.ref k] w n 0 0 (fun r w' n' => r = none ∧ (RW w' k f z (lexF f z L.1) fa n ∧ rFr w w' k) ∧ n' = n) := by
  have hend : ∀ s tk, tokN f z s = tk → (tk = 1 ∨ tk = 2) → ∀ m p, p + m = z → ∀ w1, RW w1 k f z (p, tk, s) fa n → rFr w w1 k → (lexF f z L.1) = (enF f z tk m p, tk, s) → Go G 2 y_R_step 78 [some (.ref k)] [] w1 n 0 0 (fun r w' n' => r = none ∧ (RW w' k f z (lexF f z L.1) fa n ∧ rFr w w' k) ∧ n' = n) := by
    intro s tk htk h12 m
    have htk4 : tk ≤ 4 := by rw [← htk]; exact tok_lt f z s
    induction m with
    | zero =>
      intro p hp w1 hR1 hF1 hlex
      have hR0 := hR1
      obtain ⟨g0, g1, hn⟩ : w1 k = .inr (3, [.ref (k + 1), .int (nI z), .int (nI p), .int (nI tk), .int (nI s), .int fa]) ∧ w1 (k + 1) = ai 250 f ∧ k + 1 < n := hR1
      have hlex : lexF f z L.1 = (p, tk, s) := hlex
      refine r_aload_n (i := 0) i_R_step_78 rfl rfl ?_
      refine r_getf (ci := 3) (T := Fk3) (k := 3) o_R_step i_R_step_79 x_R_22 rfl (by decide) rfl (by repeat (first | assumption | exact upw_s | refine (upw_n (by omega)).trans ?_)) (by first | assumption | omega) (by rfl) ?_
      refine r_iconst (v := (1 : Int32)) i_R_step_82 rfl ?_
      refine r_icmp_eq 94 i_R_step_83 (by decide) (fun h83 => ?_) (fun h83 => ?_)
      · skip
        refine r_aload_n (i := 0) i_R_step_94 rfl rfl ?_
        refine r_getf (ci := 3) (T := Fk3) (k := 2) o_R_step i_R_step_95 x_R_19 rfl (by decide) rfl (by repeat (first | assumption | exact upw_s | refine (upw_n (by omega)).trans ?_)) (by first | assumption | omega) (by rfl) ?_
        refine r_aload_n (i := 0) i_R_step_98 rfl rfl ?_
        refine r_getf (ci := 3) (T := Fk3) (k := 1) o_R_step i_R_step_99 x_R_15 rfl (by decide) rfl (by repeat (first | assumption | exact upw_s | refine (upw_n (by omega)).trans ?_)) (by first | assumption | omega) (by rfl) ?_
        refine r_icmp_ge 133 i_R_step_102 (by decide) (fun h102 => ?_) (fun h102 => (absurd (nI_le (by show z ≤ p; omega) (by omega)) h102))
        refine r_return i_R_step_133 t_R_step ?_
        exact ⟨rfl, ⟨by rw [hlex]; exact hR0, hF1⟩, rfl⟩
      · skip
        refine r_aload_n (i := 0) i_R_step_86 rfl rfl ?_
        refine r_getf (ci := 3) (T := Fk3) (k := 3) o_R_step i_R_step_87 x_R_22 rfl (by decide) rfl (by repeat (first | assumption | exact upw_s | refine (upw_n (by omega)).trans ?_)) (by first | assumption | omega) (by rfl) ?_
        refine r_iconst (v := (2 : Int32)) i_R_step_90 rfl ?_
        refine r_icmp_ne 133 i_R_step_91 (by decide) (fun h91 => (absurd ((nI_eq (b := 2) (by omega) (by decide)).mpr (h12.resolve_left (fun q => h83 ((nI_eq (b := 1) (by omega) (by decide)).mpr q)))) h91)) (fun h91 => ?_)
        refine r_aload_n (i := 0) i_R_step_94 rfl rfl ?_
        refine r_getf (ci := 3) (T := Fk3) (k := 2) o_R_step i_R_step_95 x_R_19 rfl (by decide) rfl (by repeat (first | assumption | exact upw_s | refine (upw_n (by omega)).trans ?_)) (by first | assumption | omega) (by rfl) ?_
        refine r_aload_n (i := 0) i_R_step_98 rfl rfl ?_
        refine r_getf (ci := 3) (T := Fk3) (k := 1) o_R_step i_R_step_99 x_R_15 rfl (by decide) rfl (by repeat (first | assumption | exact upw_s | refine (upw_n (by omega)).trans ?_)) (by first | assumption | omega) (by rfl) ?_
        refine r_icmp_ge 133 i_R_step_102 (by decide) (fun h102 => ?_) (fun h102 => (absurd (nI_le (by show z ≤ p; omega) (by omega)) h102))
        refine r_return i_R_step_133 t_R_step ?_
        exact ⟨rfl, ⟨by rw [hlex]; exact hR0, hF1⟩, rfl⟩
    | succ m ih =>
      intro p hp w1 hR1 hF1 hlex
      have hR0 := hR1
      obtain ⟨g0, g1, hn⟩ : w1 k = .inr (3, [.ref (k + 1), .int (nI z), .int (nI p), .int (nI tk), .int (nI s), .int fa]) ∧ w1 (k + 1) = ai 250 f ∧ k + 1 < n := hR1
      have e9 : enF f z tk (m + 1) p = if tokN f z p = tk then enF f z tk m (p + 1) else p := rfl
      rw [e9] at hlex
      refine r_aload_n (i := 0) i_R_step_78 rfl rfl ?_
      refine r_getf (ci := 3) (T := Fk3) (k := 3) o_R_step i_R_step_79 x_R_22 rfl (by decide) rfl (by repeat (first | assumption | exact upw_s | refine (upw_n (by omega)).trans ?_)) (by first | assumption | omega) (by rfl) ?_
      refine r_iconst (v := (1 : Int32)) i_R_step_82 rfl ?_
      refine r_icmp_eq 94 i_R_step_83 (by decide) (fun h83 => ?_) (fun h83 => ?_)
      · skip
        refine r_aload_n (i := 0) i_R_step_94 rfl rfl ?_
        refine r_getf (ci := 3) (T := Fk3) (k := 2) o_R_step i_R_step_95 x_R_19 rfl (by decide) rfl (by repeat (first | assumption | exact upw_s | refine (upw_n (by omega)).trans ?_)) (by first | assumption | omega) (by rfl) ?_
        refine r_aload_n (i := 0) i_R_step_98 rfl rfl ?_
        refine r_getf (ci := 3) (T := Fk3) (k := 1) o_R_step i_R_step_99 x_R_15 rfl (by decide) rfl (by repeat (first | assumption | exact upw_s | refine (upw_n (by omega)).trans ?_)) (by first | assumption | omega) (by rfl) ?_
        refine r_icmp_ge 133 i_R_step_102 (by decide) (fun h102 => (absurd h102 (nI_ge (by show p < z; omega) (by omega)))) (fun h102 => ?_)
        refine r_aload_n (i := 0) i_R_step_105 rfl rfl ?_
        refine r_aload_n (i := 0) i_R_step_106 rfl rfl ?_
        refine r_getf (ci := 3) (T := Fk3) (k := 2) o_R_step i_R_step_107 x_R_19 rfl (by decide) rfl (by repeat (first | assumption | exact upw_s | refine (upw_n (by omega)).trans ?_)) (by first | assumption | omega) (by rfl) ?_
        refine f_virtual o_R_step k_R_tokenOf v_R_tokenOf x_R_142 i_R_step_110 o_R_tokenOf (c_R_tokenOf hR0 hz (by show p ≤ 250; omega)) rfl (rcv_ob (by repeat (first | assumption | exact upw_s | refine (upw_n (by omega)).trans ?_)) rfl (by first | assumption | omega)) rfl (by decide) (Nat.le_of_ble_eq_true rfl) ?_
        refine r_aload_n (i := 0) i_R_step_113 rfl rfl ?_
        refine r_getf (ci := 3) (T := Fk3) (k := 3) o_R_step i_R_step_114 x_R_22 rfl (by decide) rfl (by repeat (first | assumption | exact upw_s | refine (upw_n (by omega)).trans ?_)) (by first | assumption | omega) (by rfl) ?_
        refine r_icmp_ne 133 i_R_step_117 (by decide) (fun h117 => ?_) (fun h117 => ?_)
        · skip
          have q117 : ¬ tokN f z p = tk := fun q => h117 (by rw [q])
          rw [if_neg q117] at hlex
          refine r_return i_R_step_133 t_R_step ?_
          exact ⟨rfl, ⟨by rw [hlex]; exact hR0, hF1⟩, rfl⟩
        · skip
          have q117 : tokN f z p = tk := (nI_eq (by have := tok_lt f z p; omega) (by omega)).mp h117
          rw [if_pos q117] at hlex
          refine r_aload_n (i := 0) i_R_step_120 rfl rfl ?_
          refine r_dup i_R_step_121 rfl ?_
          refine r_getf (ci := 3) (T := Fk3) (k := 2) o_R_step i_R_step_122 x_R_19 rfl (by decide) rfl (by repeat (first | assumption | exact upw_s | refine (upw_n (by omega)).trans ?_)) (by first | assumption | omega) (by rfl) ?_
          refine r_iconst (v := (1 : Int32)) i_R_step_125 rfl ?_
          refine r_iadd i_R_step_126 ?_
          refine r_putf (ci := 3) (T := Fk3) (k := 2) o_R_step i_R_step_127 x_R_19 rfl (by decide) rfl rfl (ok3 2 (by decide)) rfl (by repeat (first | assumption | exact upw_s | refine (upw_n (by omega)).trans ?_)) (by first | assumption | omega) (by exact Nat.le_of_ble_eq_true rfl) ?_
          refine r_goto 78 i_R_step_130 (by decide) ?_
          exact ih (p + 1) (by omega) _ ⟨(by show upw _ _ _ _ = .inr (3, [.ref (k + 1), .int (nI z), .int (nI (p + 1)), .int (nI tk), .int (nI s), .int fa]); rw [← nI_1]; exact upw_s), (by repeat (first | assumption | exact upw_s | refine (upw_n (by omega)).trans ?_)), hn⟩ (fun j hj => (upw_n hj).trans (hF1 j hj)) hlex
      · skip
        refine r_aload_n (i := 0) i_R_step_86 rfl rfl ?_
        refine r_getf (ci := 3) (T := Fk3) (k := 3) o_R_step i_R_step_87 x_R_22 rfl (by decide) rfl (by repeat (first | assumption | exact upw_s | refine (upw_n (by omega)).trans ?_)) (by first | assumption | omega) (by rfl) ?_
        refine r_iconst (v := (2 : Int32)) i_R_step_90 rfl ?_
        refine r_icmp_ne 133 i_R_step_91 (by decide) (fun h91 => (absurd ((nI_eq (b := 2) (by omega) (by decide)).mpr (h12.resolve_left (fun q => h83 ((nI_eq (b := 1) (by omega) (by decide)).mpr q)))) h91)) (fun h91 => ?_)
        refine r_aload_n (i := 0) i_R_step_94 rfl rfl ?_
        refine r_getf (ci := 3) (T := Fk3) (k := 2) o_R_step i_R_step_95 x_R_19 rfl (by decide) rfl (by repeat (first | assumption | exact upw_s | refine (upw_n (by omega)).trans ?_)) (by first | assumption | omega) (by rfl) ?_
        refine r_aload_n (i := 0) i_R_step_98 rfl rfl ?_
        refine r_getf (ci := 3) (T := Fk3) (k := 1) o_R_step i_R_step_99 x_R_15 rfl (by decide) rfl (by repeat (first | assumption | exact upw_s | refine (upw_n (by omega)).trans ?_)) (by first | assumption | omega) (by rfl) ?_
        refine r_icmp_ge 133 i_R_step_102 (by decide) (fun h102 => (absurd h102 (nI_ge (by show p < z; omega) (by omega)))) (fun h102 => ?_)
        refine r_aload_n (i := 0) i_R_step_105 rfl rfl ?_
        refine r_aload_n (i := 0) i_R_step_106 rfl rfl ?_
        refine r_getf (ci := 3) (T := Fk3) (k := 2) o_R_step i_R_step_107 x_R_19 rfl (by decide) rfl (by repeat (first | assumption | exact upw_s | refine (upw_n (by omega)).trans ?_)) (by first | assumption | omega) (by rfl) ?_
        refine f_virtual o_R_step k_R_tokenOf v_R_tokenOf x_R_142 i_R_step_110 o_R_tokenOf (c_R_tokenOf hR0 hz (by show p ≤ 250; omega)) rfl (rcv_ob (by repeat (first | assumption | exact upw_s | refine (upw_n (by omega)).trans ?_)) rfl (by first | assumption | omega)) rfl (by decide) (Nat.le_of_ble_eq_true rfl) ?_
        refine r_aload_n (i := 0) i_R_step_113 rfl rfl ?_
        refine r_getf (ci := 3) (T := Fk3) (k := 3) o_R_step i_R_step_114 x_R_22 rfl (by decide) rfl (by repeat (first | assumption | exact upw_s | refine (upw_n (by omega)).trans ?_)) (by first | assumption | omega) (by rfl) ?_
        refine r_icmp_ne 133 i_R_step_117 (by decide) (fun h117 => ?_) (fun h117 => ?_)
        · skip
          have q117 : ¬ tokN f z p = tk := fun q => h117 (by rw [q])
          rw [if_neg q117] at hlex
          refine r_return i_R_step_133 t_R_step ?_
          exact ⟨rfl, ⟨by rw [hlex]; exact hR0, hF1⟩, rfl⟩
        · skip
          have q117 : tokN f z p = tk := (nI_eq (by have := tok_lt f z p; omega) (by omega)).mp h117
          rw [if_pos q117] at hlex
          refine r_aload_n (i := 0) i_R_step_120 rfl rfl ?_
          refine r_dup i_R_step_121 rfl ?_
          refine r_getf (ci := 3) (T := Fk3) (k := 2) o_R_step i_R_step_122 x_R_19 rfl (by decide) rfl (by repeat (first | assumption | exact upw_s | refine (upw_n (by omega)).trans ?_)) (by first | assumption | omega) (by rfl) ?_
          refine r_iconst (v := (1 : Int32)) i_R_step_125 rfl ?_
          refine r_iadd i_R_step_126 ?_
          refine r_putf (ci := 3) (T := Fk3) (k := 2) o_R_step i_R_step_127 x_R_19 rfl (by decide) rfl rfl (ok3 2 (by decide)) rfl (by repeat (first | assumption | exact upw_s | refine (upw_n (by omega)).trans ?_)) (by first | assumption | omega) (by exact Nat.le_of_ble_eq_true rfl) ?_
          refine r_goto 78 i_R_step_130 (by decide) ?_
          exact ih (p + 1) (by omega) _ ⟨(by show upw _ _ _ _ = .inr (3, [.ref (k + 1), .int (nI z), .int (nI (p + 1)), .int (nI tk), .int (nI s), .int fa]); rw [← nI_1]; exact upw_s), (by repeat (first | assumption | exact upw_s | refine (upw_n (by omega)).trans ?_)), hn⟩ (fun j hj => (upw_n hj).trans (hF1 j hj)) hlex
  have hno : ∀ p tk s, ¬ (tk = 1 ∨ tk = 2) → tk ≤ 4 → ∀ w1, RW w1 k f z (p, tk, s) fa n → rFr w w1 k → lexF f z L.1 = (p, tk, s) → Go G 2 y_R_step 78 [some (.ref k)] [] w1 n 0 0 (fun r w' n' => r = none ∧ (RW w' k f z (lexF f z L.1) fa n ∧ rFr w w' k) ∧ n' = n) := by
    intro p tk s h12 htk4 w1 hR1 hF1 hlex
    have hR0 := hR1
    obtain ⟨g0, g1, hn⟩ : w1 k = .inr (3, [.ref (k + 1), .int (nI z), .int (nI p), .int (nI tk), .int (nI s), .int fa]) ∧ w1 (k + 1) = ai 250 f ∧ k + 1 < n := hR1
    refine r_aload_n (i := 0) i_R_step_78 rfl rfl ?_
    refine r_getf (ci := 3) (T := Fk3) (k := 3) o_R_step i_R_step_79 x_R_22 rfl (by decide) rfl (by repeat (first | assumption | exact upw_s | refine (upw_n (by omega)).trans ?_)) (by first | assumption | omega) (by rfl) ?_
    refine r_iconst (v := (1 : Int32)) i_R_step_82 rfl ?_
    refine r_icmp_eq 94 i_R_step_83 (by decide) (fun h83 => (absurd (Or.inl ((nI_eq (b := 1) (by omega) (by decide)).mp h83)) h12)) (fun h83 => ?_)
    refine r_aload_n (i := 0) i_R_step_86 rfl rfl ?_
    refine r_getf (ci := 3) (T := Fk3) (k := 3) o_R_step i_R_step_87 x_R_22 rfl (by decide) rfl (by repeat (first | assumption | exact upw_s | refine (upw_n (by omega)).trans ?_)) (by first | assumption | omega) (by rfl) ?_
    refine r_iconst (v := (2 : Int32)) i_R_step_90 rfl ?_
    refine r_icmp_ne 133 i_R_step_91 (by decide) (fun h91 => ?_) (fun h91 => (absurd (Or.inr ((nI_eq (b := 2) (by omega) (by decide)).mp h91)) h12))
    refine r_return i_R_step_133 t_R_step ?_
    exact ⟨rfl, ⟨by rw [hlex]; exact hR0, hF1⟩, rfl⟩
  have hmid : ∀ s, s ≤ z → s = skF f z (z - L.1) L.1 → ∀ L' w1, L'.1 = s → RW w1 k f z L' fa n → rFr w w1 k → Go G 2 y_R_step 40 [some (.ref k)] [] w1 n 0 0 (fun r w' n' => r = none ∧ (RW w' k f z (lexF f z L.1) fa n ∧ rFr w w' k) ∧ n' = n) := by
    intro s hs hsk L' w1 hL' hR1 hF1
    subst hL'
    have htk4 := tok_lt f z L'.1
    have hlex : lexF f z L.1 = (if tokN f z L'.1 = 0 then L'.1 else if tokN f z L'.1 = 1 ∨ tokN f z L'.1 = 2 then enF f z (tokN f z L'.1) (z - (L'.1 + 1)) (L'.1 + 1) else L'.1 + 1, tokN f z L'.1, L'.1) := by rw [hsk]; rfl
    obtain ⟨g0, g1, hn⟩ : w1 k = .inr (3, [.ref (k + 1), .int (nI z), .int (nI L'.1), .int (nI L'.2.1), .int (nI L'.2.2), .int fa]) ∧ w1 (k + 1) = ai 250 f ∧ k + 1 < n := hR1
    have hRs : RW (upw w1 k (.inr (3, [.ref (k + 1), .int (nI z), .int (nI L'.1), .int (nI L'.2.1), .int (nI L'.1), .int fa]))) k f z (L'.1, L'.2.1, L'.1) fa n := ⟨(by repeat (first | assumption | exact upw_s | refine (upw_n (by omega)).trans ?_)), (by repeat (first | assumption | exact upw_s | refine (upw_n (by omega)).trans ?_)), hn⟩
    refine r_aload_n (i := 0) i_R_step_40 rfl rfl ?_
    refine r_aload_n (i := 0) i_R_step_41 rfl rfl ?_
    refine r_getf (ci := 3) (T := Fk3) (k := 2) o_R_step i_R_step_42 x_R_19 rfl (by decide) rfl (by repeat (first | assumption | exact upw_s | refine (upw_n (by omega)).trans ?_)) (by first | assumption | omega) (by rfl) ?_
    refine r_putf (ci := 3) (T := Fk3) (k := 4) o_R_step i_R_step_45 x_R_25 rfl (by decide) rfl rfl (ok3 4 (by decide)) rfl (by repeat (first | assumption | exact upw_s | refine (upw_n (by omega)).trans ?_)) (by first | assumption | omega) (by exact Nat.le_of_ble_eq_true rfl) ?_
    refine r_aload_n (i := 0) i_R_step_48 rfl rfl ?_
    refine r_aload_n (i := 0) i_R_step_49 rfl rfl ?_
    refine r_aload_n (i := 0) i_R_step_50 rfl rfl ?_
    refine r_getf (ci := 3) (T := Fk3) (k := 2) o_R_step i_R_step_51 x_R_19 rfl (by decide) rfl (by repeat (first | assumption | exact upw_s | refine (upw_n (by omega)).trans ?_)) (by first | assumption | omega) (by rfl) ?_
    refine f_virtual o_R_step k_R_tokenOf v_R_tokenOf x_R_142 i_R_step_54 o_R_tokenOf (c_R_tokenOf hRs hz (by omega)) rfl (rcv_ob (by repeat (first | assumption | exact upw_s | refine (upw_n (by omega)).trans ?_)) rfl (by first | assumption | omega)) rfl (by decide) (Nat.le_of_ble_eq_true rfl) ?_
    refine r_putf (ci := 3) (T := Fk3) (k := 3) o_R_step i_R_step_57 x_R_22 rfl (by decide) rfl rfl (ok3 3 (by decide)) rfl (by repeat (first | assumption | exact upw_s | refine (upw_n (by omega)).trans ?_)) (by first | assumption | omega) (by exact Nat.le_of_ble_eq_true rfl) ?_
    refine r_aload_n (i := 0) i_R_step_60 rfl rfl ?_
    refine r_getf (ci := 3) (T := Fk3) (k := 3) o_R_step i_R_step_61 x_R_22 rfl (by decide) rfl (by repeat (first | assumption | exact upw_s | refine (upw_n (by omega)).trans ?_)) (by first | assumption | omega) (by rfl) ?_
    refine r_if_ne 68 i_R_step_64 (by decide) (fun h64 => ?_) (fun h64 => ?_)
    · skip
      have q64 : ¬ tokN f z L'.1 = 0 := fun q => h64 (by rw [q]; rfl)
      rw [if_neg q64] at hlex
      have hlt : L'.1 < z := by
        rcases Nat.lt_or_ge L'.1 z with q | q
        · exact q
        · exact absurd (if_pos q) q64
      refine r_aload_n (i := 0) i_R_step_68 rfl rfl ?_
      refine r_dup i_R_step_69 rfl ?_
      refine r_getf (ci := 3) (T := Fk3) (k := 2) o_R_step i_R_step_70 x_R_19 rfl (by decide) rfl (by repeat (first | assumption | exact upw_s | refine (upw_n (by omega)).trans ?_)) (by first | assumption | omega) (by rfl) ?_
      refine r_iconst (v := (1 : Int32)) i_R_step_73 rfl ?_
      refine r_iadd i_R_step_74 ?_
      refine r_putf (ci := 3) (T := Fk3) (k := 2) o_R_step i_R_step_75 x_R_19 rfl (by decide) rfl rfl (ok3 2 (by decide)) rfl (by repeat (first | assumption | exact upw_s | refine (upw_n (by omega)).trans ?_)) (by first | assumption | omega) (by exact Nat.le_of_ble_eq_true rfl) ?_
      by_cases h12 : tokN f z L'.1 = 1 ∨ tokN f z L'.1 = 2
      · rw [if_pos h12] at hlex
        exact hend L'.1 _ rfl h12 (z - (L'.1 + 1)) (L'.1 + 1) (by omega) _ ⟨(by show upw _ _ _ _ = .inr (3, [.ref (k + 1), .int (nI z), .int (nI (L'.1 + 1)), .int (nI (tokN f z L'.1)), .int (nI L'.1), .int fa]); rw [← nI_1]; exact upw_s), (by repeat (first | assumption | exact upw_s | refine (upw_n (by omega)).trans ?_)), hn⟩ (fun j hj => ((upw_n hj).trans ((upw_n hj).trans (upw_n hj))).trans (hF1 j hj)) hlex
      · rw [if_neg h12] at hlex
        exact hno _ _ _ h12 htk4 _ ⟨(by show upw _ _ _ _ = .inr (3, [.ref (k + 1), .int (nI z), .int (nI (L'.1 + 1)), .int (nI (tokN f z L'.1)), .int (nI L'.1), .int fa]); rw [← nI_1]; exact upw_s), (by repeat (first | assumption | exact upw_s | refine (upw_n (by omega)).trans ?_)), hn⟩ (fun j hj => ((upw_n hj).trans ((upw_n hj).trans (upw_n hj))).trans (hF1 j hj)) hlex
    · skip
      have q64 : tokN f z L'.1 = 0 := (nI_eq (b := 0) (by omega) (by decide)).mp h64
      rw [if_pos q64] at hlex
      refine r_return i_R_step_67 t_R_step ?_
      exact ⟨rfl, ⟨by rw [hlex]; exact ⟨(by repeat (first | assumption | exact upw_s | refine (upw_n (by omega)).trans ?_)), (by repeat (first | assumption | exact upw_s | refine (upw_n (by omega)).trans ?_)), hn⟩, fun j hj => ((upw_n hj).trans (upw_n hj)).trans (hF1 j hj)⟩, rfl⟩
  have hskip : ∀ m p, p + m = z → ∀ L' w1, L'.1 = p → skF f z (z - L.1) L.1 = skF f z m p → RW w1 k f z L' fa n → rFr w w1 k → Go G 2 y_R_step 0 [some (.ref k)] [] w1 n 0 0 (fun r w' n' => r = none ∧ (RW w' k f z (lexF f z L.1) fa n ∧ rFr w w' k) ∧ n' = n) := by
    intro m
    induction m with
    | zero =>
      intro p hp9 L' w1 hL' hsk hR1 hF1
      subst hL'
      have hR0 := hR1
      obtain ⟨g0, g1, hn⟩ : w1 k = .inr (3, [.ref (k + 1), .int (nI z), .int (nI L'.1), .int (nI L'.2.1), .int (nI L'.2.2), .int fa]) ∧ w1 (k + 1) = ai 250 f ∧ k + 1 < n := hR1
      refine r_aload_n (i := 0) i_R_step_0 rfl rfl ?_
      refine r_getf (ci := 3) (T := Fk3) (k := 2) o_R_step i_R_step_1 x_R_19 rfl (by decide) rfl (by repeat (first | assumption | exact upw_s | refine (upw_n (by omega)).trans ?_)) (by first | assumption | omega) (by rfl) ?_
      refine r_aload_n (i := 0) i_R_step_4 rfl rfl ?_
      refine r_getf (ci := 3) (T := Fk3) (k := 1) o_R_step i_R_step_5 x_R_15 rfl (by decide) rfl (by repeat (first | assumption | exact upw_s | refine (upw_n (by omega)).trans ?_)) (by first | assumption | omega) (by rfl) ?_
      refine r_icmp_ge 40 i_R_step_8 (by decide) (fun h8 => ?_) (fun h8 => (absurd (nI_le (by omega) (by omega)) h8))
      exact hmid L'.1 (by omega) hsk.symm L' w1 rfl hR0 hF1
    | succ m ih =>
      intro p hp9 L' w1 hL' hsk hR1 hF1
      subst hL'
      have hR0 := hR1
      obtain ⟨g0, g1, hn⟩ : w1 k = .inr (3, [.ref (k + 1), .int (nI z), .int (nI L'.1), .int (nI L'.2.1), .int (nI L'.2.2), .int fa]) ∧ w1 (k + 1) = ai 250 f ∧ k + 1 < n := hR1
      have e9 : skF f z (m + 1) L'.1 = if f L'.1 = 32 then skF f z m (L'.1 + 1) else L'.1 := rfl
      rw [e9] at hsk
      refine r_aload_n (i := 0) i_R_step_0 rfl rfl ?_
      refine r_getf (ci := 3) (T := Fk3) (k := 2) o_R_step i_R_step_1 x_R_19 rfl (by decide) rfl (by repeat (first | assumption | exact upw_s | refine (upw_n (by omega)).trans ?_)) (by first | assumption | omega) (by rfl) ?_
      refine r_aload_n (i := 0) i_R_step_4 rfl rfl ?_
      refine r_getf (ci := 3) (T := Fk3) (k := 1) o_R_step i_R_step_5 x_R_15 rfl (by decide) rfl (by repeat (first | assumption | exact upw_s | refine (upw_n (by omega)).trans ?_)) (by first | assumption | omega) (by rfl) ?_
      refine r_icmp_ge 40 i_R_step_8 (by decide) (fun h8 => (absurd h8 (nI_ge (by omega) (by omega)))) (fun h8 => ?_)
      refine r_aload_n (i := 0) i_R_step_11 rfl rfl ?_
      refine r_getf (ci := 3) (T := Fk3) (k := 0) o_R_step i_R_step_12 x_R_11 rfl (by decide) rfl (by repeat (first | assumption | exact upw_s | refine (upw_n (by omega)).trans ?_)) (by first | assumption | omega) (by rfl) ?_
      refine r_aload_n (i := 0) i_R_step_15 rfl rfl ?_
      refine r_getf (ci := 3) (T := Fk3) (k := 2) o_R_step i_R_step_16 x_R_19 rfl (by decide) rfl (by repeat (first | assumption | exact upw_s | refine (upw_n (by omega)).trans ?_)) (by first | assumption | omega) (by rfl) ?_
      refine f_staticN o_R_step k_N_at s_N_at x_R_129 i_R_step_19 (c_N_at (by repeat (first | assumption | exact upw_s | refine (upw_n (by omega)).trans ?_)) (by omega) (by decide)) rfl rfl (by decide) (Nat.le_of_ble_eq_true rfl) ?_
      rw [atI_in (show L'.1 < 250 by omega) (by decide)]
      refine r_bipush (v := (32 : Int32)) i_R_step_22 (by decide) ?_
      refine r_icmp_ne 40 i_R_step_24 (by decide) (fun h24 => ?_) (fun h24 => ?_)
      · skip
        rw [if_neg h24] at hsk
        exact hmid L'.1 (by omega) hsk.symm L' w1 rfl hR0 hF1
      · skip
        rw [if_pos h24] at hsk
        refine r_aload_n (i := 0) i_R_step_27 rfl rfl ?_
        refine r_dup i_R_step_28 rfl ?_
        refine r_getf (ci := 3) (T := Fk3) (k := 2) o_R_step i_R_step_29 x_R_19 rfl (by decide) rfl (by repeat (first | assumption | exact upw_s | refine (upw_n (by omega)).trans ?_)) (by first | assumption | omega) (by rfl) ?_
        refine r_iconst (v := (1 : Int32)) i_R_step_32 rfl ?_
        refine r_iadd i_R_step_33 ?_
        refine r_putf (ci := 3) (T := Fk3) (k := 2) o_R_step i_R_step_34 x_R_19 rfl (by decide) rfl rfl (ok3 2 (by decide)) rfl (by repeat (first | assumption | exact upw_s | refine (upw_n (by omega)).trans ?_)) (by first | assumption | omega) (by exact Nat.le_of_ble_eq_true rfl) ?_
        refine r_goto 0 i_R_step_37 (by decide) ?_
        exact ih (L'.1 + 1) (by omega) (L'.1 + 1, L'.2.1, L'.2.2) _ rfl hsk ⟨(by show upw _ _ _ _ = .inr (3, [.ref (k + 1), .int (nI z), .int (nI (L'.1 + 1)), .int (nI L'.2.1), .int (nI L'.2.2), .int fa]); rw [← nI_1]; exact upw_s), (by repeat (first | assumption | exact upw_s | refine (upw_n (by omega)).trans ?_)), hn⟩ (fun j hj => (upw_n hj).trans (hF1 j hj))
  refine Mt.of k_R_step l_R_step (Nat.le_of_ble_eq_true rfl) rfl ?_
  exact hskip (z - L.1) L.1 (by omega) L w rfl rfl hR (fun _ _ => rfl)
end READER
