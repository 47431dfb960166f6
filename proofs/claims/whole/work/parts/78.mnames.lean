-- THE REFERENCE: whom a rule names (1 to 5)
section MNAMES
variable {G : gE} {w : aW} {o n : Nat} {M : aM}
theorem c_M_names1 {b P : Nat} {a x : Int32} (h : MW w o M n) (hb : b < 7) (hP : M.1 10 = nI P) (hP7 : P ≤ 7) : Fn G 4 y_M_names [.ref o, .int 1, .int a, .int (nI b), .int x] w n (some (.int (mildM M b x P))) w := by
  obtain ⟨m0, mA', mL', m4, m20, m28, mn'⟩ := id h
  refine Fn.of k_M_names l_M_names rfl rfl ?_
  refine r_iconst (v := (-1 : Int32)) i_M_names_0 rfl ?_
  refine r_istore_5 i_M_names_1 (by rw [l_M_names]; decide) rfl ?_
  refine r_iload_n (i := 1) i_M_names_3 rfl rfl ?_
  refine r_tableIn 40 i_M_names_4 (by decide) (by decide) (by rfl) (by decide) ?_
  refine r_aload_n (i := 0) i_M_names_40 rfl rfl ?_
  refine r_iload_n (i := 3) i_M_names_41 rfl rfl ?_
  refine r_iload (i := 4) i_M_names_42 rfl ?_
  refine f_virtual o_M_names k_M_mildest v_M_mildest x_M_258 i_M_names_44 o_M_mildest (c_M_mildest h hb hP hP7) rfl (rcv_ob (by repeat (first | assumption | exact upw_s | refine (upw_n (by omega)).trans ?_)) rfl (by first | assumption | omega)) rfl (by decide) (Nat.le_of_ble_eq_true rfl) ?_
  refine r_ireturn i_M_names_47 t_M_names rfl ?_
  exact ⟨rfl, rfl, rfl⟩
def swM (M : aM) (b P : Nat) (a x : Int32) : Int32 := if (lt0 a (nI P) && mayM M b a.toNatClampNeg x) = true then a else mildM M b x P
theorem c_M_names2 {b P : Nat} {a x : Int32} (h : MW w o M n) (hb : b < 7) (hP : M.1 10 = nI P) (hP7 : P ≤ 7) : Fn G 4 y_M_names [.ref o, .int 2, .int a, .int (nI b), .int x] w n (some (.int (swM M b P a x))) w := by
  obtain ⟨m0, mA', mL', m4, m20, m28, mn'⟩ := id h
  refine Fn.of k_M_names l_M_names rfl rfl ?_
  unfold swM
  refine r_iconst (v := (-1 : Int32)) i_M_names_0 rfl ?_
  refine r_istore_5 i_M_names_1 (by rw [l_M_names]; decide) rfl ?_
  refine r_iload_n (i := 1) i_M_names_3 rfl rfl ?_
  refine r_tableIn 48 i_M_names_4 (by decide) (by decide) (by rfl) (by decide) ?_
  refine r_aload_n (i := 0) i_M_names_48 rfl rfl ?_
  refine r_iload_n (i := 2) i_M_names_49 rfl rfl ?_
  refine r_i2l i_M_names_50 ?_
  refine f_virtual o_M_names k_M_isOne v_M_isOne x_M_112 i_M_names_51 o_M_isOne (c_M_isOne h) rfl (rcv_ob (by repeat (first | assumption | exact upw_s | refine (upw_n (by omega)).trans ?_)) rfl (by first | assumption | omega)) rfl (by decide) (Nat.le_of_ble_eq_true rfl) ?_
  rw [hP, in_lt (by omega)]
  refine r_if_eq 72 i_M_names_54 (by decide) (fun h54 => ?_) (fun h54 => ?_)
  · skip
    rw [bI_eq0.mp h54]
    refine r_aload_n (i := 0) i_M_names_72 rfl rfl ?_
    refine r_iload_n (i := 3) i_M_names_73 rfl rfl ?_
    refine r_iload (i := 4) i_M_names_74 rfl ?_
    refine f_virtual o_M_names k_M_mildest v_M_mildest x_M_258 i_M_names_76 o_M_mildest (c_M_mildest h hb hP hP7) rfl (rcv_ob (by repeat (first | assumption | exact upw_s | refine (upw_n (by omega)).trans ?_)) rfl (by first | assumption | omega)) rfl (by decide) (Nat.le_of_ble_eq_true rfl) ?_
    refine r_ireturn i_M_names_79 t_M_names rfl ?_
    exact ⟨rfl, rfl, rfl⟩
  · skip
    have h54 := bI_ne0.mp h54
    rw [h54]
    obtain ⟨a, ha, rfl⟩ := lt0_of (by omega) h54
    rw [nI_clamp (by omega)]
    refine r_aload_n (i := 0) i_M_names_57 rfl rfl ?_
    refine r_iload_n (i := 3) i_M_names_58 rfl rfl ?_
    refine r_iload_n (i := 2) i_M_names_59 rfl rfl ?_
    refine r_iload (i := 4) i_M_names_60 rfl ?_
    refine f_virtual o_M_names k_M_may v_M_may x_M_255 i_M_names_62 o_M_may (c_M_may h hb (by omega)) rfl (rcv_ob (by repeat (first | assumption | exact upw_s | refine (upw_n (by omega)).trans ?_)) rfl (by first | assumption | omega)) rfl (by decide) (Nat.le_of_ble_eq_true rfl) ?_
    refine r_if_eq 72 i_M_names_65 (by decide) (fun h65 => ?_) (fun h65 => ?_)
    · skip
      rw [bI_eq0.mp h65]
      refine r_aload_n (i := 0) i_M_names_72 rfl rfl ?_
      refine r_iload_n (i := 3) i_M_names_73 rfl rfl ?_
      refine r_iload (i := 4) i_M_names_74 rfl ?_
      refine f_virtual o_M_names k_M_mildest v_M_mildest x_M_258 i_M_names_76 o_M_mildest (c_M_mildest h hb hP hP7) rfl (rcv_ob (by repeat (first | assumption | exact upw_s | refine (upw_n (by omega)).trans ?_)) rfl (by first | assumption | omega)) rfl (by decide) (Nat.le_of_ble_eq_true rfl) ?_
      refine r_ireturn i_M_names_79 t_M_names rfl ?_
      exact ⟨rfl, rfl, rfl⟩
    · skip
      rw [bI_ne0.mp h65]
      refine r_iload_n (i := 2) i_M_names_68 rfl rfl ?_
      refine r_goto 79 i_M_names_69 (by decide) ?_
      refine r_ireturn i_M_names_79 t_M_names rfl ?_
      exact ⟨rfl, rfl, rfl⟩
def chM (M : aM) (b P : Nat) (a x : Int32) : Int32 := if mildM M b x P = -1 then mildM M b x P else if valN (tM M) b (mildM M b x P).toNatClampNeg < a then -1 else mildM M b x P
theorem c_M_names5 {b P : Nat} {a x : Int32} (h : MW w o M n) (hb : b < 7) (hP : M.1 10 = nI P) (hP7 : P ≤ 7) : Fn G 4 y_M_names [.ref o, .int 5, .int a, .int (nI b), .int x] w n (some (.int (chM M b P a x))) w := by
  obtain ⟨m0, mA', mL', m4, m20, m28, mn'⟩ := id h
  refine Fn.of k_M_names l_M_names rfl rfl ?_
  unfold chM
  have hml := c_M_mildest (G := G) (x := x) h hb hP hP7
  have hc : mildM M b x P = -1 ∨ ∃ i, i < P ∧ mildM M b x P = nI i := by
    rcases pkF_cases (fun t => mayM M b t x) (ltM M b) P with e | ⟨i, hi, -, e⟩
    · exact Or.inl e
    · exact Or.inr ⟨i, hi, e⟩
  generalize mildM M b x P = p at *
  refine r_iconst (v := (-1 : Int32)) i_M_names_0 rfl ?_
  refine r_istore_5 i_M_names_1 (by rw [l_M_names]; decide) rfl ?_
  refine r_iload_n (i := 1) i_M_names_3 rfl rfl ?_
  refine r_tableIn 214 i_M_names_4 (by decide) (by decide) (by rfl) (by decide) ?_
  refine r_aload_n (i := 0) i_M_names_214 rfl rfl ?_
  refine r_iload_n (i := 3) i_M_names_215 rfl rfl ?_
  refine r_iload (i := 4) i_M_names_216 rfl ?_
  refine f_virtual o_M_names k_M_mildest v_M_mildest x_M_258 i_M_names_218 o_M_mildest (hml) rfl (rcv_ob (by repeat (first | assumption | exact upw_s | refine (upw_n (by omega)).trans ?_)) rfl (by first | assumption | omega)) rfl (by decide) (Nat.le_of_ble_eq_true rfl) ?_
  refine r_istore_5 i_M_names_221 (by rw [l_M_names]; decide) rfl ?_
  refine r_iload (i := 5) i_M_names_223 rfl ?_
  refine r_iconst (v := (-1 : Int32)) i_M_names_225 rfl ?_
  refine r_icmp_eq 244 i_M_names_226 (by decide) (fun h226 => ?_) (fun h226 => ?_)
  · skip
    rw [if_pos h226]
    refine r_iload (i := 5) i_M_names_244 rfl ?_
    refine r_ireturn i_M_names_246 t_M_names rfl ?_
    exact ⟨rfl, rfl, rfl⟩
  · skip
    rw [if_neg h226]
    obtain ⟨i, hi, rfl⟩ := hc.resolve_left h226
    rw [nI_clamp (by omega)]
    refine r_aload_n (i := 0) i_M_names_229 rfl rfl ?_
    refine r_iload_n (i := 3) i_M_names_230 rfl rfl ?_
    refine r_iload (i := 5) i_M_names_231 rfl ?_
    refine f_virtual o_M_names k_M_valueOf v_M_valueOf x_M_251 i_M_names_233 o_M_valueOf (c_M_valueOf h hb (by omega)) rfl (rcv_ob (by repeat (first | assumption | exact upw_s | refine (upw_n (by omega)).trans ?_)) rfl (by first | assumption | omega)) rfl (by decide) (Nat.le_of_ble_eq_true rfl) ?_
    refine r_iload_n (i := 2) i_M_names_236 rfl rfl ?_
    refine r_icmp_ge 244 i_M_names_237 (by decide) (fun h237 => ?_) (fun h237 => ?_)
    · skip
      rw [if_neg (Int32.not_lt.mpr h237)]
      refine r_iload (i := 5) i_M_names_244 rfl ?_
      refine r_ireturn i_M_names_246 t_M_names rfl ?_
      exact ⟨rfl, rfl, rfl⟩
    · skip
      rw [if_pos (Int32.not_le.mp h237)]
      refine r_iconst (v := (-1 : Int32)) i_M_names_240 rfl ?_
      refine r_goto 246 i_M_names_241 (by decide) ?_
      refine r_ireturn i_M_names_246 t_M_names rfl ?_
      exact ⟨rfl, rfl, rfl⟩
theorem c_M_names3 {b P : Nat} {a x : Int32} (h : MW w o M n) (hb : b < 7) (hP : M.1 10 = nI P) (hP7 : P ≤ 7) : Fn G 4 y_M_names [.ref o, .int 3, .int a, .int (nI b), .int x] w n (some (.int (pkF (fun t => mayM M b t x) (fun t i => decide (M.2.1 18 i < M.2.1 18 t)) P))) w := by
  obtain ⟨m0, mA', mL', m4, m20, m28, mn'⟩ := id h
  obtain ⟨r1, r2, r3, r4, r5⟩ := row_of h hb
  have a18 : w (o + 18) = ai 7 (M.2.1 18) := mA' 18 rfl
  refine Fn.of k_M_names l_M_names rfl rfl ?_
  have hloop : ∀ m t, t + m = P → Go G 4 y_M_names 83 [some (.ref o), some (.int 3), some (.int a), some (.int (nI b)), some (.int x), some (.int (pkF (fun t => mayM M b t x) (fun t i => decide (M.2.1 18 i < M.2.1 18 t)) t)), some (.int (nI t)), none] [] w n 0 0 (fun r1 w1 n1 => r1 = some (.int (pkF (fun t => mayM M b t x) (fun t i => decide (M.2.1 18 i < M.2.1 18 t)) P)) ∧ w1 = w ∧ n1 = n) := by
    intro m
    induction m with
    | zero =>
      intro t ht
      have ht : t = P := by omega
      subst ht
      refine r_iload (i := 6) i_M_names_83 rfl ?_
      refine r_aload_n (i := 0) i_M_names_85 rfl rfl ?_
      refine r_getf (ci := 6) (T := Fk6) (k := 10) o_M_names i_M_names_86 x_M_73 rfl (by decide) rfl (by repeat (first | assumption | exact upw_s | refine (upw_n (by omega)).trans ?_)) (by first | assumption | omega) (by rfl) ?_
      refine r_icmp_ge 142 i_M_names_89 (by decide) (fun h89 => ?_) (fun h89 => (absurd (by rw [hP]; exact nI_le (Nat.le_refl _) (by omega)) h89))
      refine r_iload (i := 5) i_M_names_142 rfl ?_
      refine r_ireturn i_M_names_144 t_M_names rfl ?_
      exact ⟨rfl, rfl, rfl⟩
    | succ m ih =>
      intro t ht
      have ih' := ih (t + 1) (by omega)
      have hc := pkF_cases (fun t => mayM M b t x) (fun t i => decide (M.2.1 18 i < M.2.1 18 t)) t
      have e7 : pkF (fun t => mayM M b t x) (fun t i => decide (M.2.1 18 i < M.2.1 18 t)) (t + 1) = if mayM M b t x && (decide (pkF (fun t => mayM M b t x) (fun t i => decide (M.2.1 18 i < M.2.1 18 t)) t = -1) || decide (M.2.1 18 (pkF (fun t => mayM M b t x) (fun t i => decide (M.2.1 18 i < M.2.1 18 t)) t).toNatClampNeg < M.2.1 18 t)) then nI t else pkF (fun t => mayM M b t x) (fun t i => decide (M.2.1 18 i < M.2.1 18 t)) t := rfl
      rw [e7] at ih'
      generalize pkF (fun t => mayM M b t x) (fun t i => decide (M.2.1 18 i < M.2.1 18 t)) t = p at *
      have it : vp_in (nI t) 7 := vp_in_nI (by omega) (by decide)
      refine r_iload (i := 6) i_M_names_83 rfl ?_
      refine r_aload_n (i := 0) i_M_names_85 rfl rfl ?_
      refine r_getf (ci := 6) (T := Fk6) (k := 10) o_M_names i_M_names_86 x_M_73 rfl (by decide) rfl (by repeat (first | assumption | exact upw_s | refine (upw_n (by omega)).trans ?_)) (by first | assumption | omega) (by rfl) ?_
      refine r_icmp_ge 142 i_M_names_89 (by decide) (fun h89 => (absurd h89 (by rw [hP]; exact nI_ge (by omega) (by omega)))) (fun h89 => ?_)
      refine r_aload_n (i := 0) i_M_names_92 rfl rfl ?_
      refine r_iload_n (i := 3) i_M_names_93 rfl rfl ?_
      refine r_iload (i := 6) i_M_names_94 rfl ?_
      refine r_iload (i := 4) i_M_names_96 rfl ?_
      refine f_virtual o_M_names k_M_may v_M_may x_M_255 i_M_names_98 o_M_may (c_M_may h hb (by omega)) rfl (rcv_ob (by repeat (first | assumption | exact upw_s | refine (upw_n (by omega)).trans ?_)) rfl (by first | assumption | omega)) rfl (by decide) (Nat.le_of_ble_eq_true rfl) ?_
      refine r_if_eq 132 i_M_names_101 (by decide) (fun h101 => ?_) (fun h101 => ?_)
      · skip
        have h101 := bI_eq0.mp h101
        rw [h101, Bool.false_and, if_neg (by decide)] at ih'
        refine r_iload (i := 5) i_M_names_132 rfl ?_
        refine r_istore_5 i_M_names_134 (by rw [l_M_names]; decide) rfl ?_
        refine r_iinc_6 (v := (1 : Int32)) i_M_names_136 rfl (by rw [l_M_names]; decide) rfl ?_
        refine r_goto 83 i_M_names_139 (by decide) ?_
        rw [nI_1]
        exact ih'
      · skip
        have h101 := bI_ne0.mp h101
        rw [h101, Bool.true_and] at ih'
        refine r_iload (i := 5) i_M_names_104 rfl ?_
        refine r_iconst (v := (-1 : Int32)) i_M_names_106 rfl ?_
        refine r_icmp_eq 127 i_M_names_107 (by decide) (fun h107 => ?_) (fun h107 => ?_)
        · skip
          rw [decide_eq_true h107, Bool.true_or, if_pos rfl] at ih'
          refine r_iload (i := 6) i_M_names_127 rfl ?_
          refine r_goto 134 i_M_names_129 (by decide) ?_
          refine r_istore_5 i_M_names_134 (by rw [l_M_names]; decide) rfl ?_
          refine r_iinc_6 (v := (1 : Int32)) i_M_names_136 rfl (by rw [l_M_names]; decide) rfl ?_
          refine r_goto 83 i_M_names_139 (by decide) ?_
          rw [nI_1]
          exact ih'
        · skip
          rw [decide_eq_false h107, Bool.false_or] at ih'
          obtain ⟨i, hi, -, rfl⟩ := hc.resolve_left h107
          have ii : vp_in (nI i) 7 := vp_in_nI (by omega) (by decide)
          rw [nI_clamp (by omega)] at ih'
          refine r_aload_n (i := 0) i_M_names_110 rfl rfl ?_
          refine r_getf (ci := 6) (T := Fk6) (k := 11) o_M_names i_M_names_111 x_M_40 rfl (by decide) rfl (by repeat (first | assumption | exact upw_s | refine (upw_n (by omega)).trans ?_)) (by first | assumption | omega) (by rfl) ?_
          refine r_iload (i := 6) i_M_names_114 rfl ?_
          refine r_iald i_M_names_116 (by repeat (first | assumption | exact upw_s | refine (upw_n (by omega)).trans ?_)) (by first | assumption | omega) (by assumption) ?_
          refine r_aload_n (i := 0) i_M_names_117 rfl rfl ?_
          refine r_getf (ci := 6) (T := Fk6) (k := 11) o_M_names i_M_names_118 x_M_40 rfl (by decide) rfl (by repeat (first | assumption | exact upw_s | refine (upw_n (by omega)).trans ?_)) (by first | assumption | omega) (by rfl) ?_
          refine r_iload (i := 5) i_M_names_121 rfl ?_
          refine r_iald i_M_names_123 (by repeat (first | assumption | exact upw_s | refine (upw_n (by omega)).trans ?_)) (by first | assumption | omega) (by assumption) ?_
          rw [nI_clamp (by omega), nI_clamp (by omega)]
          refine r_icmp_le 132 i_M_names_124 (by decide) (fun h124 => ?_) (fun h124 => ?_)
          · skip
            rw [if_neg (fun q => absurd (of_decide_eq_true q) (Int32.not_lt.mpr h124))] at ih'
            refine r_iload (i := 5) i_M_names_132 rfl ?_
            refine r_istore_5 i_M_names_134 (by rw [l_M_names]; decide) rfl ?_
            refine r_iinc_6 (v := (1 : Int32)) i_M_names_136 rfl (by rw [l_M_names]; decide) rfl ?_
            refine r_goto 83 i_M_names_139 (by decide) ?_
            rw [nI_1]
            exact ih'
          · skip
            rw [if_pos (decide_eq_true (Int32.not_le.mp h124))] at ih'
            refine r_iload (i := 6) i_M_names_127 rfl ?_
            refine r_goto 134 i_M_names_129 (by decide) ?_
            refine r_istore_5 i_M_names_134 (by rw [l_M_names]; decide) rfl ?_
            refine r_iinc_6 (v := (1 : Int32)) i_M_names_136 rfl (by rw [l_M_names]; decide) rfl ?_
            refine r_goto 83 i_M_names_139 (by decide) ?_
            rw [nI_1]
            exact ih'
  refine r_iconst (v := (-1 : Int32)) i_M_names_0 rfl ?_
  refine r_istore_5 i_M_names_1 (by rw [l_M_names]; decide) rfl ?_
  refine r_iload_n (i := 1) i_M_names_3 rfl rfl ?_
  refine r_tableIn 80 i_M_names_4 (by decide) (by decide) (by rfl) (by decide) ?_
  refine r_iconst (v := (0 : Int32)) i_M_names_80 rfl ?_
  refine r_istore_6 i_M_names_81 (by rw [l_M_names]; decide) rfl ?_
  exact hloop P 0 (by omega)
theorem c_M_names4 {b P : Nat} {a x : Int32} (h : MW w o M n) (hb : b < 7) (hP : M.1 10 = nI P) (hP7 : P ≤ 7) : Fn G 4 y_M_names [.ref o, .int 4, .int a, .int (nI b), .int x] w n (some (.int (pkF (fun t => mayM M b t x) (fun t i => decide (M.2.1 (29 + b) i < M.2.1 (29 + b) t)) P))) w := by
  obtain ⟨m0, mA', mL', m4, m20, m28, mn'⟩ := id h
  obtain ⟨r1, r2, r3, r4, r5⟩ := row_of h hb
  have a18 : w (o + 18) = ai 7 (M.2.1 18) := mA' 18 rfl
  refine Fn.of k_M_names l_M_names rfl rfl ?_
  have hloop : ∀ m t, t + m = P → Go G 4 y_M_names 148 [some (.ref o), some (.int 4), some (.int a), some (.int (nI b)), some (.int x), some (.int (pkF (fun t => mayM M b t x) (fun t i => decide (M.2.1 (29 + b) i < M.2.1 (29 + b) t)) t)), some (.int (nI t)), none] [] w n 0 0 (fun r1 w1 n1 => r1 = some (.int (pkF (fun t => mayM M b t x) (fun t i => decide (M.2.1 (29 + b) i < M.2.1 (29 + b) t)) P)) ∧ w1 = w ∧ n1 = n) := by
    intro m
    induction m with
    | zero =>
      intro t ht
      have ht : t = P := by omega
      subst ht
      refine r_iload (i := 6) i_M_names_148 rfl ?_
      refine r_aload_n (i := 0) i_M_names_150 rfl rfl ?_
      refine r_getf (ci := 6) (T := Fk6) (k := 10) o_M_names i_M_names_151 x_M_73 rfl (by decide) rfl (by repeat (first | assumption | exact upw_s | refine (upw_n (by omega)).trans ?_)) (by first | assumption | omega) (by rfl) ?_
      refine r_icmp_ge 211 i_M_names_154 (by decide) (fun h154 => ?_) (fun h154 => (absurd (by rw [hP]; exact nI_le (Nat.le_refl _) (by omega)) h154))
      refine r_iload (i := 5) i_M_names_211 rfl ?_
      refine r_ireturn i_M_names_213 t_M_names rfl ?_
      exact ⟨rfl, rfl, rfl⟩
    | succ m ih =>
      intro t ht
      have ih' := ih (t + 1) (by omega)
      have hc := pkF_cases (fun t => mayM M b t x) (fun t i => decide (M.2.1 (29 + b) i < M.2.1 (29 + b) t)) t
      have e7 : pkF (fun t => mayM M b t x) (fun t i => decide (M.2.1 (29 + b) i < M.2.1 (29 + b) t)) (t + 1) = if mayM M b t x && (decide (pkF (fun t => mayM M b t x) (fun t i => decide (M.2.1 (29 + b) i < M.2.1 (29 + b) t)) t = -1) || decide (M.2.1 (29 + b) (pkF (fun t => mayM M b t x) (fun t i => decide (M.2.1 (29 + b) i < M.2.1 (29 + b) t)) t).toNatClampNeg < M.2.1 (29 + b) t)) then nI t else pkF (fun t => mayM M b t x) (fun t i => decide (M.2.1 (29 + b) i < M.2.1 (29 + b) t)) t := rfl
      rw [e7] at ih'
      generalize pkF (fun t => mayM M b t x) (fun t i => decide (M.2.1 (29 + b) i < M.2.1 (29 + b) t)) t = p at *
      have it : vp_in (nI t) 7 := vp_in_nI (by omega) (by decide)
      refine r_iload (i := 6) i_M_names_148 rfl ?_
      refine r_aload_n (i := 0) i_M_names_150 rfl rfl ?_
      refine r_getf (ci := 6) (T := Fk6) (k := 10) o_M_names i_M_names_151 x_M_73 rfl (by decide) rfl (by repeat (first | assumption | exact upw_s | refine (upw_n (by omega)).trans ?_)) (by first | assumption | omega) (by rfl) ?_
      refine r_icmp_ge 211 i_M_names_154 (by decide) (fun h154 => (absurd h154 (by rw [hP]; exact nI_ge (by omega) (by omega)))) (fun h154 => ?_)
      refine r_aload_n (i := 0) i_M_names_157 rfl rfl ?_
      refine r_iload_n (i := 3) i_M_names_158 rfl rfl ?_
      refine r_iload (i := 6) i_M_names_159 rfl ?_
      refine r_iload (i := 4) i_M_names_161 rfl ?_
      refine f_virtual o_M_names k_M_may v_M_may x_M_255 i_M_names_163 o_M_may (c_M_may h hb (by omega)) rfl (rcv_ob (by repeat (first | assumption | exact upw_s | refine (upw_n (by omega)).trans ?_)) rfl (by first | assumption | omega)) rfl (by decide) (Nat.le_of_ble_eq_true rfl) ?_
      refine r_if_eq 201 i_M_names_166 (by decide) (fun h166 => ?_) (fun h166 => ?_)
      · skip
        have h166 := bI_eq0.mp h166
        rw [h166, Bool.false_and, if_neg (by decide)] at ih'
        refine r_iload (i := 5) i_M_names_201 rfl ?_
        refine r_istore_5 i_M_names_203 (by rw [l_M_names]; decide) rfl ?_
        refine r_iinc_6 (v := (1 : Int32)) i_M_names_205 rfl (by rw [l_M_names]; decide) rfl ?_
        refine r_goto 148 i_M_names_208 (by decide) ?_
        rw [nI_1]
        exact ih'
      · skip
        have h166 := bI_ne0.mp h166
        rw [h166, Bool.true_and] at ih'
        refine r_iload (i := 5) i_M_names_169 rfl ?_
        refine r_iconst (v := (-1 : Int32)) i_M_names_171 rfl ?_
        refine r_icmp_eq 196 i_M_names_172 (by decide) (fun h172 => ?_) (fun h172 => ?_)
        · skip
          rw [decide_eq_true h172, Bool.true_or, if_pos rfl] at ih'
          refine r_iload (i := 6) i_M_names_196 rfl ?_
          refine r_goto 203 i_M_names_198 (by decide) ?_
          refine r_istore_5 i_M_names_203 (by rw [l_M_names]; decide) rfl ?_
          refine r_iinc_6 (v := (1 : Int32)) i_M_names_205 rfl (by rw [l_M_names]; decide) rfl ?_
          refine r_goto 148 i_M_names_208 (by decide) ?_
          rw [nI_1]
          exact ih'
        · skip
          rw [decide_eq_false h172, Bool.false_or] at ih'
          obtain ⟨i, hi, -, rfl⟩ := hc.resolve_left h172
          have ii : vp_in (nI i) 7 := vp_in_nI (by omega) (by decide)
          rw [nI_clamp (by omega)] at ih'
          refine r_aload_n (i := 0) i_M_names_175 rfl rfl ?_
          refine r_getf (ci := 6) (T := Fk6) (k := 15) o_M_names i_M_names_176 x_M_51 rfl (by decide) rfl (by repeat (first | assumption | exact upw_s | refine (upw_n (by omega)).trans ?_)) (by first | assumption | omega) (by rfl) ?_
          refine r_iload_n (i := 3) i_M_names_179 rfl rfl ?_
          refine r_aald i_M_names_180 (by repeat (first | assumption | exact upw_s | refine (upw_n (by omega)).trans ?_)) (by decide) (by first | assumption | omega) (by assumption) r4 ?_
          refine r_iload (i := 6) i_M_names_181 rfl ?_
          refine r_iald i_M_names_183 (by repeat (first | assumption | exact upw_s | refine (upw_n (by omega)).trans ?_)) (by first | assumption | omega) (by assumption) ?_
          refine r_aload_n (i := 0) i_M_names_184 rfl rfl ?_
          refine r_getf (ci := 6) (T := Fk6) (k := 15) o_M_names i_M_names_185 x_M_51 rfl (by decide) rfl (by repeat (first | assumption | exact upw_s | refine (upw_n (by omega)).trans ?_)) (by first | assumption | omega) (by rfl) ?_
          refine r_iload_n (i := 3) i_M_names_188 rfl rfl ?_
          refine r_aald i_M_names_189 (by repeat (first | assumption | exact upw_s | refine (upw_n (by omega)).trans ?_)) (by decide) (by first | assumption | omega) (by assumption) r4 ?_
          refine r_iload (i := 5) i_M_names_190 rfl ?_
          refine r_iald i_M_names_192 (by repeat (first | assumption | exact upw_s | refine (upw_n (by omega)).trans ?_)) (by first | assumption | omega) (by assumption) ?_
          rw [nI_clamp (by omega), nI_clamp (by omega)]
          refine r_icmp_le 201 i_M_names_193 (by decide) (fun h193 => ?_) (fun h193 => ?_)
          · skip
            rw [if_neg (fun q => absurd (of_decide_eq_true q) (Int32.not_lt.mpr h193))] at ih'
            refine r_iload (i := 5) i_M_names_201 rfl ?_
            refine r_istore_5 i_M_names_203 (by rw [l_M_names]; decide) rfl ?_
            refine r_iinc_6 (v := (1 : Int32)) i_M_names_205 rfl (by rw [l_M_names]; decide) rfl ?_
            refine r_goto 148 i_M_names_208 (by decide) ?_
            rw [nI_1]
            exact ih'
          · skip
            rw [if_pos (decide_eq_true (Int32.not_le.mp h193))] at ih'
            refine r_iload (i := 6) i_M_names_196 rfl ?_
            refine r_goto 203 i_M_names_198 (by decide) ?_
            refine r_istore_5 i_M_names_203 (by rw [l_M_names]; decide) rfl ?_
            refine r_iinc_6 (v := (1 : Int32)) i_M_names_205 rfl (by rw [l_M_names]; decide) rfl ?_
            refine r_goto 148 i_M_names_208 (by decide) ?_
            rw [nI_1]
            exact ih'
  refine r_iconst (v := (-1 : Int32)) i_M_names_0 rfl ?_
  refine r_istore_5 i_M_names_1 (by rw [l_M_names]; decide) rfl ?_
  refine r_iload_n (i := 1) i_M_names_3 rfl rfl ?_
  refine r_tableIn 145 i_M_names_4 (by decide) (by decide) (by rfl) (by decide) ?_
  refine r_iconst (v := (0 : Int32)) i_M_names_145 rfl ?_
  refine r_istore_6 i_M_names_146 (by rw [l_M_names]; decide) rfl ?_
  exact hloop P 0 (by omega)
end MNAMES
