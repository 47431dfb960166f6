-- THE REFERENCE: dares, deters, letters
def dtM (M : aM) (P B : Nat) : Nat → Nat → Int32
  | 0, _ => -1
  | m + 1, f => if lpF (dbB M (nI f) P) B 0 0 = 0 then nI f else dtM M P B m (f + 1)
def bitF (x : Int32) : Nat → Int32
  | 0 => 0
  | k + 1 => bitF x k + ((x >>> (nI k &&& 31)) &&& 1)
section MDET
variable {G : gE} {w : aW} {o n : Nat} {M : aM}
theorem c_M_isLetter {x : Int32} : Fn G 0 y_M_isLetter [.int x] w n (some (.int (bI (wi0 x 97 122)))) w := by
  refine Fn.of k_M_isLetter l_M_isLetter rfl rfl ?_
  refine r_iload_n (i := 0) i_M_isLetter_0 rfl rfl ?_
  refine r_bipush (v := (97 : Int32)) i_M_isLetter_1 (by decide) ?_
  refine r_icmp_lt 16 i_M_isLetter_3 (by decide) (fun h3 => ?_) (fun h3 => ?_)
  · skip
    refine r_iconst (v := (0 : Int32)) i_M_isLetter_16 rfl ?_
    refine r_ireturn i_M_isLetter_17 t_M_isLetter (by first | rfl | exact nar_bI _) ?_
    exact ⟨by simp [bI, wi0, *], rfl, rfl⟩
  · skip
    refine r_iload_n (i := 0) i_M_isLetter_6 rfl rfl ?_
    refine r_bipush (v := (122 : Int32)) i_M_isLetter_7 (by decide) ?_
    refine r_icmp_gt 16 i_M_isLetter_9 (by decide) (fun h9 => ?_) (fun h9 => ?_)
    · skip
      refine r_iconst (v := (0 : Int32)) i_M_isLetter_16 rfl ?_
      refine r_ireturn i_M_isLetter_17 t_M_isLetter (by first | rfl | exact nar_bI _) ?_
      exact ⟨by simp [bI, wi0, *], rfl, rfl⟩
    · skip
      refine r_iconst (v := (1 : Int32)) i_M_isLetter_12 rfl ?_
      refine r_goto 17 i_M_isLetter_13 (by decide) ?_
      refine r_ireturn i_M_isLetter_17 t_M_isLetter (by first | rfl | exact nar_bI _) ?_
      exact ⟨by simp [bI, wi0, *], rfl, rfl⟩
theorem c_M_isDigit {x : Int32} : Fn G 0 y_M_isDigit [.int x] w n (some (.int (bI (wi0 x 48 57)))) w := by
  refine Fn.of k_M_isDigit l_M_isDigit rfl rfl ?_
  refine r_iload_n (i := 0) i_M_isDigit_0 rfl rfl ?_
  refine r_bipush (v := (48 : Int32)) i_M_isDigit_1 (by decide) ?_
  refine r_icmp_lt 16 i_M_isDigit_3 (by decide) (fun h3 => ?_) (fun h3 => ?_)
  · skip
    refine r_iconst (v := (0 : Int32)) i_M_isDigit_16 rfl ?_
    refine r_ireturn i_M_isDigit_17 t_M_isDigit (by first | rfl | exact nar_bI _) ?_
    exact ⟨by simp [bI, wi0, *], rfl, rfl⟩
  · skip
    refine r_iload_n (i := 0) i_M_isDigit_6 rfl rfl ?_
    refine r_bipush (v := (57 : Int32)) i_M_isDigit_7 (by decide) ?_
    refine r_icmp_gt 16 i_M_isDigit_9 (by decide) (fun h9 => ?_) (fun h9 => ?_)
    · skip
      refine r_iconst (v := (0 : Int32)) i_M_isDigit_16 rfl ?_
      refine r_ireturn i_M_isDigit_17 t_M_isDigit (by first | rfl | exact nar_bI _) ?_
      exact ⟨by simp [bI, wi0, *], rfl, rfl⟩
    · skip
      refine r_iconst (v := (1 : Int32)) i_M_isDigit_12 rfl ?_
      refine r_goto 17 i_M_isDigit_13 (by decide) ?_
      refine r_ireturn i_M_isDigit_17 t_M_isDigit (by first | rfl | exact nar_bI _) ?_
      exact ⟨by simp [bI, wi0, *], rfl, rfl⟩
theorem c_M_wrong (h : MW w o M n) : Mm G 0 y_M_wrong [.ref o] w o n (0, mS M 26 (M.1 24)) := by
  obtain ⟨m0, mA', mL', m4, m20, m28, mn'⟩ := id h
  refine Mm.of k_M_wrong l_M_wrong rfl rfl ?_
  refine r_aload_n (i := 0) i_M_wrong_0 rfl rfl ?_
  refine r_aload_n (i := 0) i_M_wrong_1 rfl rfl ?_
  refine r_getf (ci := 6) (T := Fk6) (k := 24) o_M_wrong i_M_wrong_2 x_M_138 rfl (by decide) rfl (by repeat (first | assumption | exact upw_s | refine (upw_n (by omega)).trans ?_)) (by first | assumption | omega) (by rfl) ?_
  refine r_putf (ci := 6) (T := Fk6) (k := 26) o_M_wrong i_M_wrong_5 x_M_154 rfl (by decide) rfl rfl (ok6 26 (by decide)) rfl (by repeat (first | assumption | exact upw_s | refine (upw_n (by omega)).trans ?_)) (by first | assumption | omega) (by exact Nat.le_of_ble_eq_true rfl) ?_
  refine r_iconst (v := (0 : Int32)) i_M_wrong_8 rfl ?_
  refine r_ireturn i_M_wrong_9 t_M_wrong (by first | rfl | exact nar_bI _) ?_
  exact ⟨rfl, ⟨h.obj (M' := mS M 26 (M.1 24)) rfl rfl, fun j hj => upw_n (by omega)⟩, rfl⟩
theorem c_M_dares {P B : Nat} (h : MW w o M n) (hP : M.1 10 = nI P) (hP7 : P ≤ 7) (hB : M.1 13 = nI B) (hB7 : B ≤ 7) : Fn G 4 y_M_dares [.ref o] w n (some (.int (lpF (dbB M (M.2.1 36 3) P) B 0 0))) w := by
  obtain ⟨m0, mA', mL', m4, m20, m28, mn'⟩ := id h
  obtain ⟨i0, i1, i2, i3⟩ := v4
  have a36 : w (o + 36) = ai 4 (M.2.1 36) := mA' 36 rfl
  refine Fn.of k_M_dares l_M_dares rfl rfl ?_
  refine r_aload_n (i := 0) i_M_dares_0 rfl rfl ?_
  refine r_aload_n (i := 0) i_M_dares_1 rfl rfl ?_
  refine r_getf (ci := 6) (T := Fk6) (k := 16) o_M_dares i_M_dares_2 x_M_54 rfl (by decide) rfl (by repeat (first | assumption | exact upw_s | refine (upw_n (by omega)).trans ?_)) (by first | assumption | omega) (by rfl) ?_
  refine r_iconst (v := (3 : Int32)) i_M_dares_5 rfl ?_
  refine r_iald i_M_dares_6 (by repeat (first | assumption | exact upw_s | refine (upw_n (by omega)).trans ?_)) (by first | assumption | omega) (by assumption) ?_
  refine f_virtual o_M_dares k_M_daresBy v_M_daresBy x_M_329 i_M_dares_7 o_M_daresBy (c_M_daresBy h hP hP7 hB hB7) rfl (rcv_ob (by repeat (first | assumption | exact upw_s | refine (upw_n (by omega)).trans ?_)) rfl (by first | assumption | omega)) rfl (by decide) (Nat.le_of_ble_eq_true rfl) ?_
  refine r_ireturn i_M_dares_10 t_M_dares rfl ?_
  exact ⟨rfl, rfl, rfl⟩
theorem c_M_deters {P B : Nat} (h : MW w o M n) (hP : M.1 10 = nI P) (hP7 : P ≤ 7) (hB : M.1 13 = nI B) (hB7 : B ≤ 7) : Fn G 4 y_M_deters [.ref o] w n (some (.int (dtM M P B 1000 0))) w := by
  obtain ⟨m0, mA', mL', m4, m20, m28, mn'⟩ := id h
  refine Fn.of k_M_deters l_M_deters rfl rfl ?_
  have hloop : ∀ m f, f + m = 1000 → Go G 4 y_M_deters 2 [some (.ref o), some (.int (nI f))] [] w n 0 0 (fun r1 w1 n1 => r1 = some (.int (dtM M P B m f)) ∧ w1 = w ∧ n1 = n) := by
    intro m
    induction m with
    | zero =>
      intro f hf
      have hf : f = 1000 := by omega
      subst hf
      refine r_iload_n (i := 1) i_M_deters_2 rfl rfl ?_
      refine r_sipush (v := (999 : Int32)) i_M_deters_3 (by decide) ?_
      refine r_icmp_gt 25 i_M_deters_6 (by decide) (fun h6 => ?_) (fun h6 => (absurd (by decide) h6))
      refine r_iconst (v := (-1 : Int32)) i_M_deters_25 rfl ?_
      refine r_ireturn i_M_deters_26 t_M_deters rfl ?_
      exact ⟨rfl, rfl, rfl⟩
    | succ m ih =>
      intro f hf
      have ih' := ih (f + 1) (by omega)
      have e7 : dtM M P B (m + 1) f = if lpF (dbB M (nI f) P) B 0 0 = 0 then nI f else dtM M P B m (f + 1) := rfl
      have hc := c_M_daresBy (G := G) (f := nI f) h hP hP7 hB hB7
      rw [e7]
      generalize lpF (dbB M (nI f) P) B 0 0 = v at *
      refine r_iload_n (i := 1) i_M_deters_2 rfl rfl ?_
      refine r_sipush (v := (999 : Int32)) i_M_deters_3 (by decide) ?_
      refine r_icmp_gt 25 i_M_deters_6 (by decide) (fun h6 => (absurd h6 (nI_nlt (a := 999) (b := f) (by omega) (by omega)))) (fun h6 => ?_)
      refine r_aload_n (i := 0) i_M_deters_9 rfl rfl ?_
      refine r_iload_n (i := 1) i_M_deters_10 rfl rfl ?_
      refine f_virtual o_M_deters k_M_daresBy v_M_daresBy x_M_329 i_M_deters_11 o_M_daresBy (hc) rfl (rcv_ob (by repeat (first | assumption | exact upw_s | refine (upw_n (by omega)).trans ?_)) rfl (by first | assumption | omega)) rfl (by decide) (Nat.le_of_ble_eq_true rfl) ?_
      refine r_if_ne 19 i_M_deters_14 (by decide) (fun h14 => ?_) (fun h14 => ?_)
      · skip
        rw [if_neg h14]
        refine r_iinc_1 (v := (1 : Int32)) i_M_deters_19 rfl (by rw [l_M_deters]; decide) rfl ?_
        refine r_goto 2 i_M_deters_22 (by decide) ?_
        rw [nI_1]
        exact ih'
      · skip
        rw [if_pos h14]
        refine r_iload_n (i := 1) i_M_deters_17 rfl rfl ?_
        refine r_ireturn i_M_deters_18 t_M_deters rfl ?_
        exact ⟨rfl, rfl, rfl⟩
  refine r_iconst (v := (0 : Int32)) i_M_deters_0 rfl ?_
  refine r_istore_1 i_M_deters_1 (by rw [l_M_deters]; decide) rfl ?_
  exact hloop 1000 0 (by omega)
theorem c_M_bits {x : Int32} : Fn G 0 y_M_bits [.int x] w n (some (.int (bitF x 8))) w := by
  refine Fn.of k_M_bits l_M_bits rfl rfl ?_
  have hloop : ∀ m k, k + m = 8 → Go G 0 y_M_bits 4 [some (.int x), some (.int (bitF x k)), some (.int (nI k))] [] w n 0 0 (fun r1 w1 n1 => r1 = some (.int (bitF x 8)) ∧ w1 = w ∧ n1 = n) := by
    intro m
    induction m with
    | zero =>
      intro k hk
      have hk : k = 8 := by omega
      subst hk
      refine r_iload_n (i := 2) i_M_bits_4 rfl rfl ?_
      refine r_bipush (v := (8 : Int32)) i_M_bits_5 (by decide) ?_
      refine r_icmp_ge 24 i_M_bits_7 (by decide) (fun h7 => ?_) (fun h7 => (absurd (by decide) h7))
      refine r_iload_n (i := 1) i_M_bits_24 rfl rfl ?_
      refine r_ireturn i_M_bits_25 t_M_bits rfl ?_
      exact ⟨rfl, rfl, rfl⟩
    | succ m ih =>
      intro k hk
      have ih' := ih (k + 1) (by omega)
      refine r_iload_n (i := 2) i_M_bits_4 rfl rfl ?_
      refine r_bipush (v := (8 : Int32)) i_M_bits_5 (by decide) ?_
      refine r_icmp_ge 24 i_M_bits_7 (by decide) (fun h7 => (absurd h7 (nI_ge (b := 8) (by omega) (by decide)))) (fun h7 => ?_)
      refine r_iload_n (i := 1) i_M_bits_10 rfl rfl ?_
      refine r_iload_n (i := 0) i_M_bits_11 rfl rfl ?_
      refine r_iload_n (i := 2) i_M_bits_12 rfl rfl ?_
      refine r_ishr i_M_bits_13 ?_
      refine r_iconst (v := (1 : Int32)) i_M_bits_14 rfl ?_
      refine r_iand i_M_bits_15 ?_
      refine r_iadd i_M_bits_16 ?_
      refine r_istore_1 i_M_bits_17 (by rw [l_M_bits]; decide) rfl ?_
      refine r_iinc_2 (v := (1 : Int32)) i_M_bits_18 rfl (by rw [l_M_bits]; decide) rfl ?_
      refine r_goto 4 i_M_bits_21 (by decide) ?_
      rw [nI_1]
      exact ih'
  refine r_iconst (v := (0 : Int32)) i_M_bits_0 rfl ?_
  refine r_istore_1 i_M_bits_1 (by rw [l_M_bits]; decide) rfl ?_
  refine r_iconst (v := (0 : Int32)) i_M_bits_2 rfl ?_
  refine r_istore_2 i_M_bits_3 (by rw [l_M_bits]; decide) rfl ?_
  exact hloop 8 0 (by omega)
end MDET
