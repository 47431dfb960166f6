-- THE REFERENCE: the rule that goes round, all rules
def rdM (M : aM) (b : Nat) (x : Int32) (a P : Nat) : Nat → Nat → Int32
  | 0, _ => -1
  | m + 1, i => if mayM M b ((a + i) % P) x = true then nI ((a + i) % P) else rdM M b x a P m (i + 1)
theorem rem_tab : ∀ s, s < 107 → ∀ P, P < 8 → 0 < P → nI s - nI s / nI P * nI P = nI (s % P) := by decide +kernel
def namM (M : aM) (P kd : Nat) (a : Nat) (b : Nat) (x : Int32) : Int32 := if kd = 1 then mildM M b x P else if kd = 2 then swM M b P (nI a) x else if kd = 3 then pkF (fun t => mayM M b t x) (fun t i => decide (M.2.1 18 i < M.2.1 18 t)) P else if kd = 4 then pkF (fun t => mayM M b t x) (fun t i => decide (M.2.1 (29 + b) i < M.2.1 (29 + b) t)) P else if kd = 5 then chM M b P (nI a) x else rdM M b x a P P 0
section MROUND
variable {G : gE} {w : aW} {o n : Nat} {M : aM}
theorem c_M_names6 {b P a : Nat} {x : Int32} (h : MW w o M n) (hb : b < 7) (hP : M.1 10 = nI P) (hP7 : P ≤ 7) (ha : a ≤ 99) : Fn G 4 y_M_names [.ref o, .int 6, .int (nI a), .int (nI b), .int x] w n (some (.int (rdM M b x a P P 0))) w := by
  obtain ⟨m0, mA', mL', m4, m20, m28, mn'⟩ := id h
  refine Fn.of k_M_names l_M_names rfl rfl ?_
  have hloop : ∀ m i, i + m = P → ∀ z : Option Value, Go G 4 y_M_names 250 [some (.ref o), some (.int 6), some (.int (nI a)), some (.int (nI b)), some (.int x), some (.int (-1)), some (.int (nI i)), z] [] w n 0 0 (fun r1 w1 n1 => r1 = some (.int (rdM M b x a P m i)) ∧ w1 = w ∧ n1 = n) := by
    intro m
    induction m with
    | zero =>
      intro i hi z
      have hi : i = P := by omega
      subst hi
      refine r_iload (i := 6) i_M_names_250 rfl ?_
      refine r_aload_n (i := 0) i_M_names_252 rfl rfl ?_
      refine r_getf (ci := 6) (T := Fk6) (k := 10) o_M_names i_M_names_253 x_M_73 rfl (by decide) rfl (by repeat (first | assumption | exact upw_s | refine (upw_n (by omega)).trans ?_)) (by first | assumption | omega) (by rfl) ?_
      refine r_icmp_ge 291 i_M_names_256 (by decide) (fun h256 => ?_) (fun h256 => (absurd (by rw [hP]; exact nI_le (Nat.le_refl _) (by omega)) h256))
      refine r_iconst (v := (-1 : Int32)) i_M_names_291 rfl ?_
      refine r_ireturn i_M_names_292 t_M_names rfl ?_
      exact ⟨rfl, rfl, rfl⟩
    | succ m ih =>
      intro i hi z
      have ih' := ih (i + 1) (by omega)
      have e7 : rdM M b x a P (m + 1) i = if mayM M b ((a + i) % P) x = true then nI ((a + i) % P) else rdM M b x a P m (i + 1) := rfl
      have hmod : (a + i) % P < 7 := Nat.lt_of_lt_of_le (Nat.mod_lt _ (by omega)) hP7
      have hne : ¬ M.1 10 = 0 := by
        rw [hP]
        intro q
        have := (nI_eq (a := P) (b := 0) (by omega) (by decide)).mp q
        omega
      rw [e7]
      refine r_iload (i := 6) i_M_names_250 rfl ?_
      refine r_aload_n (i := 0) i_M_names_252 rfl rfl ?_
      refine r_getf (ci := 6) (T := Fk6) (k := 10) o_M_names i_M_names_253 x_M_73 rfl (by decide) rfl (by repeat (first | assumption | exact upw_s | refine (upw_n (by omega)).trans ?_)) (by first | assumption | omega) (by rfl) ?_
      refine r_icmp_ge 291 i_M_names_256 (by decide) (fun h256 => (absurd h256 (by rw [hP]; exact nI_ge (by omega) (by omega)))) (fun h256 => ?_)
      refine r_iload_n (i := 2) i_M_names_259 rfl rfl ?_
      refine r_iload (i := 6) i_M_names_260 rfl ?_
      refine r_iadd i_M_names_262 ?_
      refine r_aload_n (i := 0) i_M_names_263 rfl rfl ?_
      refine r_getf (ci := 6) (T := Fk6) (k := 10) o_M_names i_M_names_264 x_M_73 rfl (by decide) rfl (by repeat (first | assumption | exact upw_s | refine (upw_n (by omega)).trans ?_)) (by first | assumption | omega) (by rfl) ?_
      refine r_irem i_M_names_267 hne ?_
      rw [hP, nI_add, rem_tab (a + i) (by omega) P (by omega) (by omega)]
      refine r_istore_7 i_M_names_268 (by rw [l_M_names]; decide) rfl ?_
      refine r_aload_n (i := 0) i_M_names_270 rfl rfl ?_
      refine r_iload_n (i := 3) i_M_names_271 rfl rfl ?_
      refine r_iload (i := 7) i_M_names_272 rfl ?_
      refine r_iload (i := 4) i_M_names_274 rfl ?_
      refine f_virtual o_M_names k_M_may v_M_may x_M_255 i_M_names_276 o_M_may (c_M_may h hb hmod) rfl (rcv_ob (by repeat (first | assumption | exact upw_s | refine (upw_n (by omega)).trans ?_)) rfl (by first | assumption | omega)) rfl (by decide) (Nat.le_of_ble_eq_true rfl) ?_
      refine r_if_eq 285 i_M_names_279 (by decide) (fun h279 => ?_) (fun h279 => ?_)
      · skip
        have h279 := bI_eq0.mp h279
        rw [if_neg (by rw [h279]; decide)]
        refine r_iinc_6 (v := (1 : Int32)) i_M_names_285 rfl (by rw [l_M_names]; decide) rfl ?_
        refine r_goto 250 i_M_names_288 (by decide) ?_
        rw [nI_1]
        exact ih' _
      · skip
        have h279 := bI_ne0.mp h279
        rw [if_pos h279]
        refine r_iload (i := 7) i_M_names_282 rfl ?_
        refine r_ireturn i_M_names_284 t_M_names rfl ?_
        exact ⟨rfl, rfl, rfl⟩
  refine r_iconst (v := (-1 : Int32)) i_M_names_0 rfl ?_
  refine r_istore_5 i_M_names_1 (by rw [l_M_names]; decide) rfl ?_
  refine r_iload_n (i := 1) i_M_names_3 rfl rfl ?_
  refine r_tableOut 247 i_M_names_4 (by decide) (by decide) ?_
  refine r_iconst (v := (0 : Int32)) i_M_names_247 rfl ?_
  refine r_istore_6 i_M_names_248 (by rw [l_M_names]; decide) rfl ?_
  exact hloop P 0 (by omega) none
theorem c_M_names {b P a kd : Nat} {x : Int32} (h : MW w o M n) (hb : b < 7) (hP : M.1 10 = nI P) (hP7 : P ≤ 7) (ha : a ≤ 99) (h1 : 1 ≤ kd) (h6 : kd ≤ 6) : Fn G 4 y_M_names [.ref o, .int (nI kd), .int (nI a), .int (nI b), .int x] w n (some (.int (namM M P kd a b x))) w := by
  rcases (show kd = 1 ∨ kd = 2 ∨ kd = 3 ∨ kd = 4 ∨ kd = 5 ∨ kd = 6 by omega) with rfl | rfl | rfl | rfl | rfl | rfl
  · exact c_M_names1 h hb hP hP7
  · exact c_M_names2 h hb hP hP7
  · exact c_M_names3 h hb hP hP7
  · exact c_M_names4 h hb hP hP7
  · exact c_M_names5 h hb hP hP7
  · exact c_M_names6 h hb hP hP7 ha
end MROUND
