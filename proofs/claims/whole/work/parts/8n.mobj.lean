-- THE REFERENCE: new, what is taken from another
theorem mnaW_o {w : aW} {n N : Nat} {a c : aC} : mnaW w n N a c n = a := if_pos rfl
theorem mnaW_i {w : aW} {n N k : Nat} {a c : aC} (h1 : n < k) (h2 : k ≤ n + N) : mnaW w n N a c k = c := by
  unfold mnaW
  rw [if_neg (by omega), if_pos ⟨h1, h2⟩]
theorem mnaW_n {w : aW} {n N k : Nat} {a c : aC} (h : k < n ∨ n + N < k) : mnaW w n N a c k = w k := by
  unfold mnaW
  rw [if_neg (by omega), if_neg (by omega)]
def M0 : aM := (fun k => if k = 19 then 1 else 0, fun j => if j = 36 then upd (upd (upd (upd (fun _ => 0) 0 1) 1 1) 2 5) 3 50 else fun _ => 0, fun _ _ => 0, .null, .null)
def rowsT (M K : aM) (k : Nat) : aM := (M.1, fun j => if (21 ≤ j ∧ j < 21 + k) ∨ (29 ≤ j ∧ j < 29 + k) then K.2.1 j else M.2.1 j, M.2.2)
def tf1 (M K : aM) : aM := mS (mA (mA (mS M 10 (K.1 10)) 18 (K.2.1 18)) 19 (K.2.1 19)) 13 (K.1 13)
def tfM (M K : aM) : aM := mS (mS (mS (mA (rowsT (tf1 M K) K 7) 36 (K.2.1 36)) 17 (K.1 17)) 18 (K.1 18)) 19 (K.1 19)
section MOBJ
variable {G : gE} {w : aW} {o n : Nat} {M K : aM}
theorem c_M_over {a b len : Nat} {f g : Nat → Int32} (hw : w a = .inl (0, (len, .inl f))) (hv : w b = .inl (0, (len, .inl g))) (hab : a ≠ b) (ha : a < n) (hb : b < n) (hl : len < 2 ^ 31) : Fn G 0 y_M_over [.ref a, .ref b] w n none (upw w b (.inl (0, (len, .inl f)))) := by
  refine Fn.of k_M_over l_M_over rfl rfl ?_
  have hloop : ∀ m k : Nat, k + m = len → Go G 0 y_M_over 2 [some (.ref a), some (.ref b), some (.int (nI k))] [] (upw w b (.inl (0, (len, .inl (fun j => if j < k then f j else g j))))) n 0 0 (fun r1 w1 n1 => r1 = none ∧ w1 = upw w b (.inl (0, (len, .inl f))) ∧ n1 = n) := by
    intro m
    induction m with
    | zero =>
      intro k hk
      have hwa : upw w b (.inl (0, (len, .inl (fun j => if j < k then f j else g j)))) a = .inl (0, (len, .inl f)) := (upw_n hab).trans hw
      refine r_iload_n (i := 2) i_M_over_2 rfl rfl ?_
      refine r_aload_n (i := 0) i_M_over_3 rfl rfl ?_
      refine r_alen i_M_over_4 (by repeat (first | assumption | exact upw_s | refine (upw_n (by omega)).trans ?_)) (by decide) (by first | assumption | omega) ?_
      refine r_icmp_ge 20 i_M_over_5 (by decide) (fun h5 => ?_) (fun h5 => (absurd (nI_le (by omega) (by omega)) h5))
      refine r_norm (w' := upw w b (.inl (0, (len, .inl f)))) (fun q hq => ?_) ?_
      · by_cases e : q = b
        · subst e; rw [upw_s, upw_s]; exact Or.inr (Or.inl ⟨0, len, _, _, rfl, rfl, fun i hi => if_pos (by omega)⟩)
        · rw [upw_n e, upw_n e]; exact Or.inl rfl
      refine r_return i_M_over_20 t_M_over ?_
      exact ⟨rfl, rfl, rfl⟩
    | succ m ih =>
      intro k hk
      have hwa : upw w b (.inl (0, (len, .inl (fun j => if j < k then f j else g j)))) a = .inl (0, (len, .inl f)) := (upw_n hab).trans hw
      have hwb : upw w b (.inl (0, (len, .inl (fun j => if j < k then f j else g j)))) b = .inl (0, (len, .inl (fun j => if j < k then f j else g j))) := upw_s
      have hin : vp_in (nI k) len := vp_in_nI (by omega) hl
      have hc : (nI k).toNatClampNeg = k := nI_clamp (by omega)
      refine r_iload_n (i := 2) i_M_over_2 rfl rfl ?_
      refine r_aload_n (i := 0) i_M_over_3 rfl rfl ?_
      refine r_alen i_M_over_4 (by assumption) (by decide) (by first | assumption | omega) ?_
      refine r_icmp_ge 20 i_M_over_5 (by decide) (fun h5 => (absurd h5 (nI_ge (by omega) hl))) (fun h5 => ?_)
      refine r_aload_n (i := 1) i_M_over_8 rfl rfl ?_
      refine r_iload_n (i := 2) i_M_over_9 rfl rfl ?_
      refine r_aload_n (i := 0) i_M_over_10 rfl rfl ?_
      refine r_iload_n (i := 2) i_M_over_11 rfl rfl ?_
      refine r_iald i_M_over_12 (by assumption) (by first | assumption | omega) (by assumption) ?_
      refine r_iast i_M_over_13 (by assumption) (by first | assumption | omega) (by assumption) ?_
      refine r_iinc_2 (v := (1 : Int32)) i_M_over_14 rfl (by rw [l_M_over]; decide) rfl ?_
      refine r_goto 2 i_M_over_17 (by decide) ?_
      rw [hc, nI_1]
      have e9 : upw (upw w b (.inl (0, (len, .inl (fun j => if j < k then f j else g j))))) b (.inl (0, (len, .inl (upd (fun j => if j < k then f j else g j) k (f k))))) = upw w b (.inl (0, (len, .inl (fun j => if j < k + 1 then f j else g j)))) := by
        funext q
        by_cases e : q = b
        · subst e; rw [upw_s, upw_s]; refine congrArg (fun z => (.inl (0, (len, .inl z)) : aC)) (funext fun j => ?_); unfold upd; by_cases e1 : j = k <;> by_cases e2 : j < k <;> simp [e1, e2] <;> omega
        · rw [upw_n e, upw_n e, upw_n e]
      rw [e9]
      exact ih (k + 1) (by omega)
  refine r_iconst (v := (0 : Int32)) i_M_over_0 rfl ?_
  refine r_istore_2 i_M_over_1 (by rw [l_M_over]; decide) rfl ?_
  have h0 := hloop len 0 (by omega)
  have e0 : upw w b (.inl (0, (len, .inl (fun j => if j < 0 then f j else g j)))) = w := by
    funext q
    by_cases e : q = b
    · subst e; rw [upw_s, hv]; simp
    · rw [upw_n e]
  rw [e0] at h0
  exact h0
theorem rowsT_0 : rowsT M K 0 = M := by
  refine Prod.ext rfl (Prod.ext (funext fun j => ?_) rfl)
  exact if_neg (by omega)
theorem rowsT_s {k : Nat} (hk : k < 7) : mA (mA (rowsT M K k) (21 + k) (K.2.1 (21 + k))) (29 + k) (K.2.1 (29 + k)) = rowsT M K (k + 1) := by
  refine Prod.ext rfl (Prod.ext (funext fun j => ?_) rfl)
  show (if j = 29 + k then K.2.1 (29 + k) else if j = 21 + k then K.2.1 (21 + k) else if (21 ≤ j ∧ j < 21 + k) ∨ (29 ≤ j ∧ j < 29 + k) then K.2.1 j else M.2.1 j) = if (21 ≤ j ∧ j < 21 + (k + 1)) ∨ (29 ≤ j ∧ j < 29 + (k + 1)) then K.2.1 j else M.2.1 j
  by_cases e1 : j = 29 + k
  · rw [if_pos e1, if_pos (by omega), e1]
  · rw [if_neg e1]
    by_cases e2 : j = 21 + k
    · rw [if_pos e2, if_pos (by omega), e2]
    · rw [if_neg e2]
      by_cases e3 : (21 ≤ j ∧ j < 21 + k) ∨ (29 ≤ j ∧ j < 29 + k)
      · rw [if_pos e3, if_pos (by omega)]
      · rw [if_neg e3, if_neg (by omega)]
theorem c_M_takeFrom {q : Nat} (h : MW w o M n) (hK : MW w q K n) (hd : o + 40 < q ∨ q + 40 < o) : Mv G 1 y_M_takeFrom [.ref o, .ref q] w o n (tfM M K) := by
  refine Mv.of k_M_takeFrom l_M_takeFrom rfl rfl ?_
  have hq9 : q + 40 < n := hK.2.2.2.2.2.2
  have ho9 : o + 40 < n := h.2.2.2.2.2.2
  have hKf : ∀ w1, mFr w w1 o → MW w1 q K n := fun w1 hF => hK.fr (fun j q1 q2 => hF j (by omega))
  have tail : ∀ N : aM, ∀ w1, MW w1 o N n → mFr w w1 o → Go G 1 y_M_takeFrom 82 [some (.ref o), some (.ref q), some (.int 7)] [] w1 n 0 0 (fun r w' n' => r = none ∧ (MW w' o (mS (mS (mS (mA N 36 (K.2.1 36)) 17 (K.1 17)) 18 (K.1 18)) 19 (K.1 19)) n ∧ mFr w w' o) ∧ n' = n) := by
    intro N w1 h1 hF
    have k1 := hKf w1 hF
    have h2 := h1.arr (j := 36) (f := K.2.1 36) rfl
    have F2 := hF.up (j := o + 36) (c := ai 4 (K.2.1 36)) (by omega) (by omega)
    have h3 := h2.obj (M' := mS (mA N 36 (K.2.1 36)) 17 (K.1 17)) rfl rfl
    have F3 := F2.up (j := o) (c := .inr (6, mob o (mS (mA N 36 (K.2.1 36)) 17 (K.1 17)))) (by omega) (by omega)
    have h4 := h3.obj (M' := mS (mS (mA N 36 (K.2.1 36)) 17 (K.1 17)) 18 (K.1 18)) rfl rfl
    have F4 := F3.up (j := o) (c := .inr (6, mob o (mS (mS (mA N 36 (K.2.1 36)) 17 (K.1 17)) 18 (K.1 18)))) (by omega) (by omega)
    have h5 := h4.obj (M' := mS (mS (mS (mA N 36 (K.2.1 36)) 17 (K.1 17)) 18 (K.1 18)) 19 (K.1 19)) rfl rfl
    have F5 := F4.up (j := o) (c := .inr (6, mob o (mS (mS (mS (mA N 36 (K.2.1 36)) 17 (K.1 17)) 18 (K.1 18)) 19 (K.1 19)))) (by omega) (by omega)
    have b0 := k1.1
    have b36 : w1 (q + 36) = ai 4 (K.2.1 36) := k1.2.1 36 rfl
    have a36 : w1 (o + 36) = ai 4 (N.2.1 36) := h1.2.1 36 rfl
    have m0 := h1.1
    have b2 := (hKf _ F2).1
    have b3 := (hKf _ F3).1
    have b4 := (hKf _ F4).1
    have m2 := h2.1
    have m3 := h3.1
    have m4 := h4.1
    refine r_aload_n (i := 1) i_M_takeFrom_82 rfl rfl ?_
    refine r_getf (ci := 6) (T := Fk6) (k := 16) o_M_takeFrom i_M_takeFrom_83 x_M_54 rfl (by decide) rfl (by repeat (first | assumption | exact upw_s | refine (upw_n (by omega)).trans ?_)) (by first | assumption | omega) (by rfl) ?_
    refine r_aload_n (i := 0) i_M_takeFrom_86 rfl rfl ?_
    refine r_getf (ci := 6) (T := Fk6) (k := 16) o_M_takeFrom i_M_takeFrom_87 x_M_54 rfl (by decide) rfl (by repeat (first | assumption | exact upw_s | refine (upw_n (by omega)).trans ?_)) (by first | assumption | omega) (by rfl) ?_
    refine f_static o_M_takeFrom k_M_over s_M_over x_M_349 i_M_takeFrom_90 (c_M_over b36 a36 (by omega) (by omega) (by omega) (by decide)) rfl rfl (by decide) (Nat.le_of_ble_eq_true rfl) ?_
    refine r_aload_n (i := 0) i_M_takeFrom_93 rfl rfl ?_
    refine r_aload_n (i := 1) i_M_takeFrom_94 rfl rfl ?_
    refine r_getf (ci := 6) (T := Fk6) (k := 17) o_M_takeFrom i_M_takeFrom_95 x_M_279 rfl (by decide) rfl (by repeat (first | assumption | exact upw_s | refine (upw_n (by omega)).trans ?_)) (by first | assumption | omega) (by rfl) ?_
    refine r_putf (ci := 6) (T := Fk6) (k := 17) o_M_takeFrom i_M_takeFrom_98 x_M_279 rfl (by decide) rfl rfl (ok6 17 (by decide)) rfl (by repeat (first | assumption | exact upw_s | refine (upw_n (by omega)).trans ?_)) (by first | assumption | omega) (by exact Nat.le_of_ble_eq_true rfl) ?_
    refine r_aload_n (i := 0) i_M_takeFrom_101 rfl rfl ?_
    refine r_aload_n (i := 1) i_M_takeFrom_102 rfl rfl ?_
    refine r_getf (ci := 6) (T := Fk6) (k := 18) o_M_takeFrom i_M_takeFrom_103 x_M_282 rfl (by decide) rfl (by repeat (first | assumption | exact upw_s | refine (upw_n (by omega)).trans ?_)) (by first | assumption | omega) (by rfl) ?_
    refine r_putf (ci := 6) (T := Fk6) (k := 18) o_M_takeFrom i_M_takeFrom_106 x_M_282 rfl (by decide) rfl rfl (ok6 18 (by decide)) rfl (by repeat (first | assumption | exact upw_s | refine (upw_n (by omega)).trans ?_)) (by first | assumption | omega) (by exact Nat.le_of_ble_eq_true rfl) ?_
    refine r_aload_n (i := 0) i_M_takeFrom_109 rfl rfl ?_
    refine r_aload_n (i := 1) i_M_takeFrom_110 rfl rfl ?_
    refine r_getf (ci := 6) (T := Fk6) (k := 19) o_M_takeFrom i_M_takeFrom_111 x_M_57 rfl (by decide) rfl (by repeat (first | assumption | exact upw_s | refine (upw_n (by omega)).trans ?_)) (by first | assumption | omega) (by rfl) ?_
    refine r_putf (ci := 6) (T := Fk6) (k := 19) o_M_takeFrom i_M_takeFrom_114 x_M_57 rfl (by decide) rfl rfl (ok6 19 (by decide)) rfl (by repeat (first | assumption | exact upw_s | refine (upw_n (by omega)).trans ?_)) (by first | assumption | omega) (by exact Nat.le_of_ble_eq_true rfl) ?_
    refine r_return i_M_takeFrom_117 t_M_takeFrom ?_
    exact ⟨rfl, ⟨h5, F5⟩, rfl⟩
  have hloop : ∀ N : aM, ∀ r k, k + r = 7 → ∀ w1, MW w1 o (rowsT N K k) n → mFr w w1 o → Go G 1 y_M_takeFrom 40 [some (.ref o), some (.ref q), some (.int (nI k))] [] w1 n 0 0 (fun r w' n' => r = none ∧ (MW w' o (mS (mS (mS (mA (rowsT N K 7) 36 (K.2.1 36)) 17 (K.1 17)) 18 (K.1 18)) 19 (K.1 19)) n ∧ mFr w w' o) ∧ n' = n) := by
    intro N r
    induction r with
    | zero =>
      intro k hk w1 h1 hF
      have hk : k = 7 := by omega
      subst hk
      refine r_iload_n (i := 2) i_M_takeFrom_40 rfl rfl ?_
      refine r_bipush (v := (7 : Int32)) i_M_takeFrom_41 (by decide) ?_
      refine r_icmp_ge 82 i_M_takeFrom_43 (by decide) (fun h43 => ?_) (fun h43 => (absurd (by decide) h43))
      exact tail _ w1 h1 hF
    | succ r ih =>
      intro k hk w1 h1 hF
      have ih' := ih (k + 1) (by omega)
      rw [← rowsT_s (by omega)] at ih'
      generalize rowsT N K k = N1 at *
      have k1 := hKf w1 hF
      obtain ⟨r1, r2, r3, r4, r5⟩ := row_of h1 (show k < 7 by omega)
      obtain ⟨s1, s2, s3, s4, s5⟩ := row_of k1 (show k < 7 by omega)
      have h2 := h1.rof (f := K.2.1 (21 + k)) (show k < 7 by omega)
      have F2 := hF.up (j := o + 21 + k) (c := ai 5 (K.2.1 (21 + k))) (by omega) (by omega)
      have h3 := h2.rlo (f := K.2.1 (29 + k)) (show k < 7 by omega)
      have F3 := F2.up (j := o + 29 + k) (c := ai 7 (K.2.1 (29 + k))) (by omega) (by omega)
      have k2 := hKf _ F2
      obtain ⟨t1, t2, t3, t4, t5⟩ := row_of h2 (show k < 7 by omega)
      obtain ⟨u1, u2, u3, u4, u5⟩ := row_of k2 (show k < 7 by omega)
      have m0 := h1.1
      have b0 := k1.1
      have m20 := h1.2.2.2.2.1
      have b20 := k1.2.2.2.2.1
      have n0 := h2.1
      have c0 := k2.1
      have n28 := h2.2.2.2.2.2.1
      have c28 := k2.2.2.2.2.2.1
      refine r_iload_n (i := 2) i_M_takeFrom_40 rfl rfl ?_
      refine r_bipush (v := (7 : Int32)) i_M_takeFrom_41 (by decide) ?_
      refine r_icmp_ge 82 i_M_takeFrom_43 (by decide) (fun h43 => (absurd h43 (nI_ge (b := 7) (by omega) (by decide)))) (fun h43 => ?_)
      refine r_aload_n (i := 1) i_M_takeFrom_46 rfl rfl ?_
      refine r_getf (ci := 6) (T := Fk6) (k := 14) o_M_takeFrom i_M_takeFrom_47 x_M_48 rfl (by decide) rfl (by repeat (first | assumption | exact upw_s | refine (upw_n (by omega)).trans ?_)) (by first | assumption | omega) (by rfl) ?_
      refine r_iload_n (i := 2) i_M_takeFrom_50 rfl rfl ?_
      refine r_aald i_M_takeFrom_51 (by repeat (first | assumption | exact upw_s | refine (upw_n (by omega)).trans ?_)) (by decide) (by first | assumption | omega) (by assumption) (by first | exact r3 | exact s3 | exact t4 | exact u4) ?_
      refine r_aload_n (i := 0) i_M_takeFrom_52 rfl rfl ?_
      refine r_getf (ci := 6) (T := Fk6) (k := 14) o_M_takeFrom i_M_takeFrom_53 x_M_48 rfl (by decide) rfl (by repeat (first | assumption | exact upw_s | refine (upw_n (by omega)).trans ?_)) (by first | assumption | omega) (by rfl) ?_
      refine r_iload_n (i := 2) i_M_takeFrom_56 rfl rfl ?_
      refine r_aald i_M_takeFrom_57 (by repeat (first | assumption | exact upw_s | refine (upw_n (by omega)).trans ?_)) (by decide) (by first | assumption | omega) (by assumption) (by first | exact r3 | exact s3 | exact t4 | exact u4) ?_
      refine f_static o_M_takeFrom k_M_over s_M_over x_M_349 i_M_takeFrom_58 (c_M_over s1 r1 (by omega) (by omega) (by omega) (by decide)) rfl rfl (by decide) (Nat.le_of_ble_eq_true rfl) ?_
      refine r_aload_n (i := 1) i_M_takeFrom_61 rfl rfl ?_
      refine r_getf (ci := 6) (T := Fk6) (k := 15) o_M_takeFrom i_M_takeFrom_62 x_M_51 rfl (by decide) rfl (by repeat (first | assumption | exact upw_s | refine (upw_n (by omega)).trans ?_)) (by first | assumption | omega) (by rfl) ?_
      refine r_iload_n (i := 2) i_M_takeFrom_65 rfl rfl ?_
      refine r_aald i_M_takeFrom_66 (by repeat (first | assumption | exact upw_s | refine (upw_n (by omega)).trans ?_)) (by decide) (by first | assumption | omega) (by assumption) (by first | exact r3 | exact s3 | exact t4 | exact u4) ?_
      refine r_aload_n (i := 0) i_M_takeFrom_67 rfl rfl ?_
      refine r_getf (ci := 6) (T := Fk6) (k := 15) o_M_takeFrom i_M_takeFrom_68 x_M_51 rfl (by decide) rfl (by repeat (first | assumption | exact upw_s | refine (upw_n (by omega)).trans ?_)) (by first | assumption | omega) (by rfl) ?_
      refine r_iload_n (i := 2) i_M_takeFrom_71 rfl rfl ?_
      refine r_aald i_M_takeFrom_72 (by repeat (first | assumption | exact upw_s | refine (upw_n (by omega)).trans ?_)) (by decide) (by first | assumption | omega) (by assumption) (by first | exact r3 | exact s3 | exact t4 | exact u4) ?_
      refine f_static o_M_takeFrom k_M_over s_M_over x_M_349 i_M_takeFrom_73 (c_M_over u2 t2 (by omega) (by omega) (by omega) (by decide)) rfl rfl (by decide) (Nat.le_of_ble_eq_true rfl) ?_
      refine r_iinc_2 (v := (1 : Int32)) i_M_takeFrom_76 rfl (by rw [l_M_takeFrom]; decide) rfl ?_
      refine r_goto 40 i_M_takeFrom_79 (by decide) ?_
      rw [nI_1]
      exact ih' _ h3 F3
  have h1 := h.obj (M' := mS M 10 (K.1 10)) rfl rfl
  have F1 := (mFr.rf (w := w) (o := o)).up (j := o) (c := .inr (6, mob o (mS M 10 (K.1 10)))) (by omega) (by omega)
  have h2 := h1.arr (j := 18) (f := K.2.1 18) rfl
  have F2 := F1.up (j := o + 18) (c := ai 7 (K.2.1 18)) (by omega) (by omega)
  have h3 := h2.arr (j := 19) (f := K.2.1 19) rfl
  have F3 := F2.up (j := o + 19) (c := ai 7 (K.2.1 19)) (by omega) (by omega)
  have h4 := h3.obj (M' := tf1 M K) rfl rfl
  have F4 := F3.up (j := o) (c := .inr (6, mob o (tf1 M K))) (by omega) (by omega)
  have m0 := h.1
  have b0 := hK.1
  have b1 := (hKf _ F1).1
  have m1 := h1.1
  have b18 : _ = ai 7 (K.2.1 18) := (hKf _ F1).2.1 18 rfl
  have a18 : _ = ai 7 (M.2.1 18) := h1.2.1 18 rfl
  have b2 := (hKf _ F2).1
  have m2 := h2.1
  have b19 : _ = ai 7 (K.2.1 19) := (hKf _ F2).2.1 19 rfl
  have a19 : _ = ai 7 (M.2.1 19) := h2.2.1 19 rfl
  have b3 := (hKf _ F3).1
  have m3 := h3.1
  refine r_aload_n (i := 0) i_M_takeFrom_0 rfl rfl ?_
  refine r_aload_n (i := 1) i_M_takeFrom_1 rfl rfl ?_
  refine r_getf (ci := 6) (T := Fk6) (k := 10) o_M_takeFrom i_M_takeFrom_2 x_M_73 rfl (by decide) rfl (by repeat (first | assumption | exact upw_s | refine (upw_n (by omega)).trans ?_)) (by first | assumption | omega) (by rfl) ?_
  refine r_putf (ci := 6) (T := Fk6) (k := 10) o_M_takeFrom i_M_takeFrom_5 x_M_73 rfl (by decide) rfl rfl (ok6 10 (by decide)) rfl (by repeat (first | assumption | exact upw_s | refine (upw_n (by omega)).trans ?_)) (by first | assumption | omega) (by exact Nat.le_of_ble_eq_true rfl) ?_
  refine r_aload_n (i := 1) i_M_takeFrom_8 rfl rfl ?_
  refine r_getf (ci := 6) (T := Fk6) (k := 11) o_M_takeFrom i_M_takeFrom_9 x_M_40 rfl (by decide) rfl (by repeat (first | assumption | exact upw_s | refine (upw_n (by omega)).trans ?_)) (by first | assumption | omega) (by rfl) ?_
  refine r_aload_n (i := 0) i_M_takeFrom_12 rfl rfl ?_
  refine r_getf (ci := 6) (T := Fk6) (k := 11) o_M_takeFrom i_M_takeFrom_13 x_M_40 rfl (by decide) rfl (by repeat (first | assumption | exact upw_s | refine (upw_n (by omega)).trans ?_)) (by first | assumption | omega) (by rfl) ?_
  refine f_static o_M_takeFrom k_M_over s_M_over x_M_349 i_M_takeFrom_16 (c_M_over b18 a18 (by omega) (by omega) (by omega) (by decide)) rfl rfl (by decide) (Nat.le_of_ble_eq_true rfl) ?_
  refine r_aload_n (i := 1) i_M_takeFrom_19 rfl rfl ?_
  refine r_getf (ci := 6) (T := Fk6) (k := 12) o_M_takeFrom i_M_takeFrom_20 x_M_43 rfl (by decide) rfl (by repeat (first | assumption | exact upw_s | refine (upw_n (by omega)).trans ?_)) (by first | assumption | omega) (by rfl) ?_
  refine r_aload_n (i := 0) i_M_takeFrom_23 rfl rfl ?_
  refine r_getf (ci := 6) (T := Fk6) (k := 12) o_M_takeFrom i_M_takeFrom_24 x_M_43 rfl (by decide) rfl (by repeat (first | assumption | exact upw_s | refine (upw_n (by omega)).trans ?_)) (by first | assumption | omega) (by rfl) ?_
  refine f_static o_M_takeFrom k_M_over s_M_over x_M_349 i_M_takeFrom_27 (c_M_over b19 a19 (by omega) (by omega) (by omega) (by decide)) rfl rfl (by decide) (Nat.le_of_ble_eq_true rfl) ?_
  refine r_aload_n (i := 0) i_M_takeFrom_30 rfl rfl ?_
  refine r_aload_n (i := 1) i_M_takeFrom_31 rfl rfl ?_
  refine r_getf (ci := 6) (T := Fk6) (k := 13) o_M_takeFrom i_M_takeFrom_32 x_M_80 rfl (by decide) rfl (by repeat (first | assumption | exact upw_s | refine (upw_n (by omega)).trans ?_)) (by first | assumption | omega) (by rfl) ?_
  refine r_putf (ci := 6) (T := Fk6) (k := 13) o_M_takeFrom i_M_takeFrom_35 x_M_80 rfl (by decide) rfl rfl (ok6 13 (by decide)) rfl (by repeat (first | assumption | exact upw_s | refine (upw_n (by omega)).trans ?_)) (by first | assumption | omega) (by exact Nat.le_of_ble_eq_true rfl) ?_
  refine r_iconst (v := (0 : Int32)) i_M_takeFrom_38 rfl ?_
  refine r_istore_2 i_M_takeFrom_39 (by rw [l_M_takeFrom]; decide) rfl ?_
  refine hloop (tf1 M K) 7 0 (by omega) _ ?_ F4
  rw [rowsT_0]
  exact h4
end MOBJ
