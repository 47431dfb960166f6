-- THE CLASS'S OWN SMALL HELPERS
section SMALL
variable {G : gE} {w : aW} {n : Nat}
def lt0 (v c : Int32) : Bool := decide (¬ v < 0 ∧ ¬ c ≤ v)
def wi0 (v lo hi : Int32) : Bool := decide (¬ v < lo ∧ ¬ hi < v)
theorem c_N_isBelow {v c : Int32} : Fn G 0 y_N_isBelow [.int v, .int c] w n (some (.int (bI (lt0 v c)))) w := by
  refine Fn.of k_N_isBelow l_N_isBelow rfl rfl ?_
  refine r_iload_n (i := 0) i_N_isBelow_0 rfl rfl ?_
  refine r_if_lt 13 i_N_isBelow_1 (by decide) (fun h1 => ?_) (fun h1 => ?_)
  · skip
    refine r_iconst (v := (0 : Int32)) i_N_isBelow_13 rfl ?_
    refine r_ireturn i_N_isBelow_14 t_N_isBelow (by first | rfl | exact nar_bI _) ?_
    exact ⟨by simp [bI, lt0, *], rfl, rfl⟩
  · skip
    refine r_iload_n (i := 0) i_N_isBelow_4 rfl rfl ?_
    refine r_iload_n (i := 1) i_N_isBelow_5 rfl rfl ?_
    refine r_icmp_ge 13 i_N_isBelow_6 (by decide) (fun h6 => ?_) (fun h6 => ?_)
    · skip
      refine r_iconst (v := (0 : Int32)) i_N_isBelow_13 rfl ?_
      refine r_ireturn i_N_isBelow_14 t_N_isBelow (by first | rfl | exact nar_bI _) ?_
      exact ⟨by simp [bI, lt0, *], rfl, rfl⟩
    · skip
      refine r_iconst (v := (1 : Int32)) i_N_isBelow_9 rfl ?_
      refine r_goto 14 i_N_isBelow_10 (by decide) ?_
      refine r_ireturn i_N_isBelow_14 t_N_isBelow (by first | rfl | exact nar_bI _) ?_
      exact ⟨by simp [bI, lt0, *], rfl, rfl⟩
theorem c_N_isWithin {v lo hi : Int32} : Fn G 0 y_N_isWithin [.int v, .int lo, .int hi] w n (some (.int (bI (wi0 v lo hi)))) w := by
  refine Fn.of k_N_isWithin l_N_isWithin rfl rfl ?_
  refine r_iload_n (i := 0) i_N_isWithin_0 rfl rfl ?_
  refine r_iload_n (i := 1) i_N_isWithin_1 rfl rfl ?_
  refine r_icmp_lt 14 i_N_isWithin_2 (by decide) (fun h2 => ?_) (fun h2 => ?_)
  · skip
    refine r_iconst (v := (0 : Int32)) i_N_isWithin_14 rfl ?_
    refine r_ireturn i_N_isWithin_15 t_N_isWithin (by first | rfl | exact nar_bI _) ?_
    exact ⟨by simp [bI, wi0, *], rfl, rfl⟩
  · skip
    refine r_iload_n (i := 0) i_N_isWithin_5 rfl rfl ?_
    refine r_iload_n (i := 2) i_N_isWithin_6 rfl rfl ?_
    refine r_icmp_gt 14 i_N_isWithin_7 (by decide) (fun h7 => ?_) (fun h7 => ?_)
    · skip
      refine r_iconst (v := (0 : Int32)) i_N_isWithin_14 rfl ?_
      refine r_ireturn i_N_isWithin_15 t_N_isWithin (by first | rfl | exact nar_bI _) ?_
      exact ⟨by simp [bI, wi0, *], rfl, rfl⟩
    · skip
      refine r_iconst (v := (1 : Int32)) i_N_isWithin_10 rfl ?_
      refine r_goto 15 i_N_isWithin_11 (by decide) ?_
      refine r_ireturn i_N_isWithin_15 t_N_isWithin (by first | rfl | exact nar_bI _) ?_
      exact ⟨by simp [bI, wi0, *], rfl, rfl⟩
def hbI (x k : Int32) : Bool := lt0 k 32 && decide ((x >>> (k &&& 31)) &&& 1 = 1)
theorem c_N_hasBit {v k : Int32} : Fn G 1 y_N_hasBit [.int v, .int k] w n (some (.int (bI (hbI v k)))) w := by
  refine Fn.of k_N_hasBit l_N_hasBit rfl rfl ?_
  refine r_iload_n (i := 1) i_N_hasBit_0 rfl rfl ?_
  refine r_bipush (v := (32 : Int32)) i_N_hasBit_1 (by decide) ?_
  refine f_static o_N_hasBit k_N_isBelow s_N_isBelow x_N_58 i_N_hasBit_3 (c_N_isBelow) rfl rfl (by decide) (Nat.le_of_ble_eq_true rfl) ?_
  refine r_if_eq 22 i_N_hasBit_6 (by decide) (fun h6 => ?_) (fun h6 => ?_)
  · skip
    refine r_iconst (v := (0 : Int32)) i_N_hasBit_22 rfl ?_
    refine r_ireturn i_N_hasBit_23 t_N_hasBit (by first | rfl | exact nar_bI _) ?_
    exact ⟨by simp_all [bI, hbI, bI_eq0, bI_ne0], rfl, rfl⟩
  · skip
    refine r_iload_n (i := 0) i_N_hasBit_9 rfl rfl ?_
    refine r_iload_n (i := 1) i_N_hasBit_10 rfl rfl ?_
    refine r_ishr i_N_hasBit_11 ?_
    refine r_iconst (v := (1 : Int32)) i_N_hasBit_12 rfl ?_
    refine r_iand i_N_hasBit_13 ?_
    refine r_iconst (v := (1 : Int32)) i_N_hasBit_14 rfl ?_
    refine r_icmp_ne 22 i_N_hasBit_15 (by decide) (fun h15 => ?_) (fun h15 => ?_)
    · skip
      refine r_iconst (v := (0 : Int32)) i_N_hasBit_22 rfl ?_
      refine r_ireturn i_N_hasBit_23 t_N_hasBit (by first | rfl | exact nar_bI _) ?_
      exact ⟨by simp_all [bI, hbI, bI_eq0, bI_ne0], rfl, rfl⟩
    · skip
      refine r_iconst (v := (1 : Int32)) i_N_hasBit_18 rfl ?_
      refine r_goto 23 i_N_hasBit_19 (by decide) ?_
      refine r_ireturn i_N_hasBit_23 t_N_hasBit (by first | rfl | exact nar_bI _) ?_
      exact ⟨by simp_all [bI, hbI, bI_eq0, bI_ne0], rfl, rfl⟩
theorem c_N_at {a len : Nat} {f : Nat → Int32} {i : Int32} (hw : w a = .inl (0, (len, .inl f))) (ha : a < n) (hl : len < 2 ^ 31) : Fn G 0 y_N_at [.ref a, .int i] w n (some (.int (atI f len i))) w := by
  refine Fn.of k_N_at l_N_at rfl rfl ?_
  refine r_iload_n (i := 1) i_N_at_0 rfl rfl ?_
  refine r_if_lt 16 i_N_at_1 (by decide) (fun h1 => ?_) (fun h1 => ?_)
  · skip
    refine r_iconst (v := (0 : Int32)) i_N_at_16 rfl ?_
    refine r_ireturn i_N_at_17 t_N_at rfl ?_
    exact ⟨by simp_all [atI], rfl, rfl⟩
  · skip
    refine r_iload_n (i := 1) i_N_at_4 rfl rfl ?_
    refine r_aload_n (i := 0) i_N_at_5 rfl rfl ?_
    refine r_alen i_N_at_6 (by assumption) (by decide) (by first | assumption | omega) ?_
    refine r_icmp_ge 16 i_N_at_7 (by decide) (fun h7 => ?_) (fun h7 => ?_)
    · skip
      refine r_iconst (v := (0 : Int32)) i_N_at_16 rfl ?_
      refine r_ireturn i_N_at_17 t_N_at rfl ?_
      exact ⟨by simp_all [atI], rfl, rfl⟩
    · skip
      refine r_aload_n (i := 0) i_N_at_10 rfl rfl ?_
      refine r_iload_n (i := 1) i_N_at_11 rfl rfl ?_
      refine r_iald i_N_at_12 (by assumption) (by first | assumption | omega) (vp_of h1 h7 hl) ?_
      refine r_goto 17 i_N_at_13 (by decide) ?_
      refine r_ireturn i_N_at_17 t_N_at rfl ?_
      exact ⟨by simp_all [atI], rfl, rfl⟩
theorem c_N_put {a len : Nat} {f : Nat → Int32} {i v : Int32} (hw : w a = .inl (0, (len, .inl f))) (ha : a < n) (hl : len < 2 ^ 31) : Fn G 0 y_N_put [.ref a, .int i, .int v] w n none (puI w a len f i v) := by
  refine Fn.of k_N_put l_N_put rfl rfl ?_
  refine r_iload_n (i := 1) i_N_put_0 rfl rfl ?_
  refine r_if_lt 14 i_N_put_1 (by decide) (fun h1 => ?_) (fun h1 => ?_)
  · skip
    refine r_return i_N_put_14 t_N_put ?_
    exact ⟨rfl, by simp_all [puI], rfl⟩
  · skip
    refine r_iload_n (i := 1) i_N_put_4 rfl rfl ?_
    refine r_aload_n (i := 0) i_N_put_5 rfl rfl ?_
    refine r_alen i_N_put_6 (by assumption) (by decide) (by first | assumption | omega) ?_
    refine r_icmp_ge 14 i_N_put_7 (by decide) (fun h7 => ?_) (fun h7 => ?_)
    · skip
      refine r_return i_N_put_14 t_N_put ?_
      exact ⟨rfl, by simp_all [puI], rfl⟩
    · skip
      refine r_aload_n (i := 0) i_N_put_10 rfl rfl ?_
      refine r_iload_n (i := 1) i_N_put_11 rfl rfl ?_
      refine r_iload_n (i := 2) i_N_put_12 rfl rfl ?_
      refine r_iast i_N_put_13 (by assumption) (by first | assumption | omega) (vp_of h1 h7 hl) ?_
      refine r_return i_N_put_14 t_N_put ?_
      exact ⟨rfl, by simp_all [puI], rfl⟩
theorem c_N_copyAll {a b len : Nat} {f g : Nat → Int32} (hw : w a = .inl (0, (len, .inl f))) (hv : w b = .inl (0, (len, .inl g))) (hab : a ≠ b) (ha : a < n) (hb : b < n) (hl : len < 2 ^ 31) : Fn G 0 y_N_copyAll [.ref a, .ref b] w n none (upw w b (.inl (0, (len, .inl f)))) := by
  refine Fn.of k_N_copyAll l_N_copyAll rfl rfl ?_
  have hloop : ∀ m k : Nat, k + m = len → Go G 0 y_N_copyAll 2 [some (.ref a), some (.ref b), some (.int (nI k))] [] (upw w b (.inl (0, (len, .inl (fun j => if j < k then f j else g j))))) n 0 0 (fun r1 w1 n1 => r1 = none ∧ w1 = upw w b (.inl (0, (len, .inl f))) ∧ n1 = n) := by
    intro m
    induction m with
    | zero =>
      intro k hk
      have hwa : upw w b (.inl (0, (len, .inl (fun j => if j < k then f j else g j)))) a = .inl (0, (len, .inl f)) := (upw_n hab).trans hw
      refine r_iload_n (i := 2) i_N_copyAll_2 rfl rfl ?_
      refine r_aload_n (i := 0) i_N_copyAll_3 rfl rfl ?_
      refine r_alen i_N_copyAll_4 (by assumption) (by decide) (by first | assumption | omega) ?_
      refine r_icmp_ge 26 i_N_copyAll_5 (by decide) (fun h5 => ?_) (fun h5 => (absurd (nI_le (by omega) (by omega)) h5))
      refine r_norm (w' := upw w b (.inl (0, (len, .inl f)))) (fun q hq => ?_) ?_
      · by_cases e : q = b
        · subst e; rw [upw_s, upw_s]; exact Or.inr (Or.inl ⟨0, len, _, _, rfl, rfl, fun i hi => if_pos (by omega)⟩)
        · rw [upw_n e, upw_n e]; exact Or.inl rfl
      refine r_return i_N_copyAll_26 t_N_copyAll ?_
      exact ⟨rfl, rfl, rfl⟩
    | succ m ih =>
      intro k hk
      have hwa : upw w b (.inl (0, (len, .inl (fun j => if j < k then f j else g j)))) a = .inl (0, (len, .inl f)) := (upw_n hab).trans hw
      have hwb : upw w b (.inl (0, (len, .inl (fun j => if j < k then f j else g j)))) b = .inl (0, (len, .inl (fun j => if j < k then f j else g j))) := upw_s
      have hin : vp_in (nI k) len := vp_in_nI (by omega) hl
      have hc : (nI k).toNatClampNeg = k := nI_clamp (by omega)
      refine r_iload_n (i := 2) i_N_copyAll_2 rfl rfl ?_
      refine r_aload_n (i := 0) i_N_copyAll_3 rfl rfl ?_
      refine r_alen i_N_copyAll_4 (by assumption) (by decide) (by first | assumption | omega) ?_
      refine r_icmp_ge 26 i_N_copyAll_5 (by decide) (fun h5 => (absurd h5 (nI_ge (by omega) hl))) (fun h5 => ?_)
      refine r_iload_n (i := 2) i_N_copyAll_8 rfl rfl ?_
      refine r_aload_n (i := 1) i_N_copyAll_9 rfl rfl ?_
      refine r_alen i_N_copyAll_10 (by assumption) (by decide) (by first | assumption | omega) ?_
      refine r_icmp_ge 26 i_N_copyAll_11 (by decide) (fun h11 => (absurd h11 (nI_ge (by omega) hl))) (fun h11 => ?_)
      refine r_aload_n (i := 1) i_N_copyAll_14 rfl rfl ?_
      refine r_iload_n (i := 2) i_N_copyAll_15 rfl rfl ?_
      refine r_aload_n (i := 0) i_N_copyAll_16 rfl rfl ?_
      refine r_iload_n (i := 2) i_N_copyAll_17 rfl rfl ?_
      refine r_iald i_N_copyAll_18 (by assumption) (by first | assumption | omega) (by assumption) ?_
      refine r_iast i_N_copyAll_19 (by assumption) (by first | assumption | omega) (by assumption) ?_
      refine r_iinc_2 (v := (1 : Int32)) i_N_copyAll_20 rfl (by rw [l_N_copyAll]; decide) rfl ?_
      refine r_goto 2 i_N_copyAll_23 (by decide) ?_
      rw [hc, nI_1]
      have e9 : upw (upw w b (.inl (0, (len, .inl (fun j => if j < k then f j else g j))))) b (.inl (0, (len, .inl (upd (fun j => if j < k then f j else g j) k (f k))))) = upw w b (.inl (0, (len, .inl (fun j => if j < k + 1 then f j else g j)))) := by
        funext q
        by_cases e : q = b
        · subst e; rw [upw_s, upw_s]; refine congrArg (fun z => (.inl (0, (len, .inl z)) : aC)) (funext fun j => ?_); unfold upd; by_cases e1 : j = k <;> by_cases e2 : j < k <;> simp [e1, e2] <;> omega
        · rw [upw_n e, upw_n e, upw_n e]
      rw [e9]
      exact ih (k + 1) (by omega)
  refine r_iconst (v := (0 : Int32)) i_N_copyAll_0 rfl ?_
  refine r_istore_2 i_N_copyAll_1 (by rw [l_N_copyAll]; decide) rfl ?_
  have h0 := hloop len 0 (by omega)
  have e0 : upw w b (.inl (0, (len, .inl (fun j => if j < 0 then f j else g j)))) = w := by
    funext q
    by_cases e : q = b
    · subst e; rw [upw_s, hv]; simp
    · rw [upw_n e]
  rw [e0] at h0
  exact h0
end SMALL
