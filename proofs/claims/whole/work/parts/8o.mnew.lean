-- THE REFERENCE: new; image, back, fresh
theorem upw_e {w : aW} {a k : Nat} {c : aC} (h : k = a) : upw w a c k = c := if_pos h
theorem mnaW_e {w : aW} {n N k : Nat} {a c : aC} (h : k = n) : mnaW w n N a c k = a := if_pos h
def M00 : aM := (fun k => if k = 19 then 1 else 0, fun _ _ => 0, fun _ _ => 0, .null, .null)
section MNEW
variable {G : gE} {w : aW} {o n : Nat} {M K : aM}
theorem init_163 {w1 : aW} (h1 : MW w1 o M00 n) (hF : mFr w w1 o) {bc bs : Nat} : Go G 1 y_M_init 163 [some (.ref o)] [] w1 n bc bs (fun r w' n' => r = none ∧ (MW w' o M0 n ∧ mFr w w' o) ∧ n' = n) := by
  obtain ⟨j0, j1, j2, j3⟩ := v4
  have h2 := (((h1.arr (j := 36) (f := upd (fun _ => 0) 0 1) rfl).arr (j := 36) (f := upd (upd (fun _ => 0) 0 1) 1 1) rfl).arr (j := 36) (f := upd (upd (upd (fun _ => 0) 0 1) 1 1) 2 5) rfl).arr (j := 36) (f := upd (upd (upd (upd (fun _ => 0) 0 1) 1 1) 2 5) 3 50) rfl
  rw [mA_A, mA_A, mA_A] at h2
  obtain ⟨m0, mA', mL', m4, m20, m28, mn'⟩ := id h1
  have a36 : w1 (o + 36) = ai 4 (fun _ => 0) := mA' 36 rfl
  refine r_aload_n (i := 0) i_M_init_163 rfl rfl ?_
  refine r_getf (ci := 6) (T := Fk6) (k := 16) o_M_init i_M_init_164 x_M_54 rfl (by decide) rfl (by repeat (first | assumption | exact upw_s | refine (upw_n (by omega)).trans ?_)) (by first | assumption | omega) (by rfl) ?_
  refine r_iconst (v := (0 : Int32)) i_M_init_167 rfl ?_
  refine r_iconst (v := (1 : Int32)) i_M_init_168 rfl ?_
  refine r_iast i_M_init_169 (by repeat (first | assumption | exact upw_s | refine (upw_n (by omega)).trans ?_)) (by first | assumption | omega) j0 ?_
  refine r_aload_n (i := 0) i_M_init_170 rfl rfl ?_
  refine r_getf (ci := 6) (T := Fk6) (k := 16) o_M_init i_M_init_171 x_M_54 rfl (by decide) rfl (by repeat (first | assumption | exact upw_s | refine (upw_n (by omega)).trans ?_)) (by first | assumption | omega) (by rfl) ?_
  refine r_iconst (v := (1 : Int32)) i_M_init_174 rfl ?_
  refine r_iconst (v := (1 : Int32)) i_M_init_175 rfl ?_
  refine r_iast i_M_init_176 (by repeat (first | assumption | exact upw_s | refine (upw_n (by omega)).trans ?_)) (by first | assumption | omega) j1 ?_
  refine r_aload_n (i := 0) i_M_init_177 rfl rfl ?_
  refine r_getf (ci := 6) (T := Fk6) (k := 16) o_M_init i_M_init_178 x_M_54 rfl (by decide) rfl (by repeat (first | assumption | exact upw_s | refine (upw_n (by omega)).trans ?_)) (by first | assumption | omega) (by rfl) ?_
  refine r_iconst (v := (2 : Int32)) i_M_init_181 rfl ?_
  refine r_iconst (v := (5 : Int32)) i_M_init_182 rfl ?_
  refine r_iast i_M_init_183 (by repeat (first | assumption | exact upw_s | refine (upw_n (by omega)).trans ?_)) (by first | assumption | omega) j2 ?_
  refine r_aload_n (i := 0) i_M_init_184 rfl rfl ?_
  refine r_getf (ci := 6) (T := Fk6) (k := 16) o_M_init i_M_init_185 x_M_54 rfl (by decide) rfl (by repeat (first | assumption | exact upw_s | refine (upw_n (by omega)).trans ?_)) (by first | assumption | omega) (by rfl) ?_
  refine r_iconst (v := (3 : Int32)) i_M_init_188 rfl ?_
  refine r_bipush (v := (50 : Int32)) i_M_init_189 (by decide) ?_
  refine r_iast i_M_init_191 (by repeat (first | assumption | exact upw_s | refine (upw_n (by omega)).trans ?_)) (by first | assumption | omega) j3 ?_
  refine r_return i_M_init_192 t_M_init ?_
  exact ⟨rfl, ⟨h2, (((hF.up (by omega) (by omega)).up (by omega) (by omega)).up (by omega) (by omega)).up (by omega) (by omega)⟩, rfl⟩
set_option maxHeartbeats 4000000 in
theorem c_M_init (hw : w o = .inr (6, dfl tk6 33)) (ht : o + 41 < gB) : Mt G 1 y_M_init [.ref o] w (o + 1) 40 807 (fun r w' n' => r = none ∧ (MW w' o M0 (o + 41) ∧ mFr w w' o) ∧ n' = o + 41) := by
  refine Mt.of k_M_init l_M_init (Nat.le_of_ble_eq_true rfl) rfl ?_
  refine r_aload_n (i := 0) i_M_init_0 rfl rfl ?_
  refine r_objInit o_M_init x_M_1 i_M_init_1 (by decide) (Nat.le_of_ble_eq_true rfl) ?_
  refine r_aload_n (i := 0) i_M_init_4 rfl rfl ?_
  refine r_bipush (v := (8 : Int32)) i_M_init_5 (by decide) ?_
  refine r_newa i_M_init_7 (at9 := .int) (t := 0) (len := 8) (x := (8, .inl (fun _ => 0))) (Or.inl ⟨rfl, rfl⟩) rfl (by decide) ⟨rfl, rfl⟩ (by omega) (by omega) (by omega) ?_
  refine r_putfF (ci := 6) (T := Fk6) (k := 0) o_M_init (by decide +kernel) i_M_init_9 x_M_7 rfl (by decide) rfl rfl rfl (ok6 0 (by decide)) (by rfl) (by repeat (first | assumption | exact upw_e (by omega) | exact mnaW_e (by omega) | exact mnaW_i (by omega) (by omega) | refine (upw_n (by omega)).trans ?_ | refine (mnaW_n (by omega)).trans ?_)) (by first | assumption | omega) (by exact Nat.le_of_ble_eq_true rfl) ?_
  refine r_aload_n (i := 0) i_M_init_12 rfl rfl ?_
  refine r_bipush (v := (8 : Int32)) i_M_init_13 (by decide) ?_
  refine r_newa i_M_init_15 (at9 := .int) (t := 0) (len := 8) (x := (8, .inl (fun _ => 0))) (Or.inl ⟨rfl, rfl⟩) rfl (by decide) ⟨rfl, rfl⟩ (by omega) (by omega) (by omega) ?_
  refine r_putfF (ci := 6) (T := Fk6) (k := 1) o_M_init (by decide +kernel) i_M_init_17 x_M_13 rfl (by decide) rfl rfl rfl (ok6 1 (by decide)) (by rfl) (by repeat (first | assumption | exact upw_e (by omega) | exact mnaW_e (by omega) | exact mnaW_i (by omega) (by omega) | refine (upw_n (by omega)).trans ?_ | refine (mnaW_n (by omega)).trans ?_)) (by first | assumption | omega) (by exact Nat.le_of_ble_eq_true rfl) ?_
  refine r_aload_n (i := 0) i_M_init_20 rfl rfl ?_
  refine r_bipush (v := (8 : Int32)) i_M_init_21 (by decide) ?_
  refine r_newa i_M_init_23 (at9 := .int) (t := 0) (len := 8) (x := (8, .inl (fun _ => 0))) (Or.inl ⟨rfl, rfl⟩) rfl (by decide) ⟨rfl, rfl⟩ (by omega) (by omega) (by omega) ?_
  refine r_putfF (ci := 6) (T := Fk6) (k := 2) o_M_init (by decide +kernel) i_M_init_25 x_M_16 rfl (by decide) rfl rfl rfl (ok6 2 (by decide)) (by rfl) (by repeat (first | assumption | exact upw_e (by omega) | exact mnaW_e (by omega) | exact mnaW_i (by omega) (by omega) | refine (upw_n (by omega)).trans ?_ | refine (mnaW_n (by omega)).trans ?_)) (by first | assumption | omega) (by exact Nat.le_of_ble_eq_true rfl) ?_
  refine r_aload_n (i := 0) i_M_init_28 rfl rfl ?_
  refine r_bipush (v := (8 : Int32)) i_M_init_29 (by decide) ?_
  refine r_bipush (v := (40 : Int32)) i_M_init_31 (by decide) ?_
  refine r_mna (own := "NeedsALoserModel") (idx := 19) (N := 8) (K := 40) (t := 1) (ty := .long) (inn := (40, .inr (.inl (fun _ => 0)))) o_M_init i_M_init_33 x_M_19 (Or.inr ⟨rfl, rfl, rfl⟩) (by decide) (by decide) (by omega) (by omega) (by omega) ?_
  refine r_putfF (ci := 6) (T := Fk6) (k := 3) o_M_init (by decide +kernel) i_M_init_37 x_M_21 rfl (by decide) rfl rfl rfl (ok6 3 (by decide)) (by rfl) (by repeat (first | assumption | exact upw_e (by omega) | exact mnaW_e (by omega) | exact mnaW_i (by omega) (by omega) | refine (upw_n (by omega)).trans ?_ | refine (mnaW_n (by omega)).trans ?_)) (by first | assumption | omega) (by exact Nat.le_of_ble_eq_true rfl) ?_
  refine r_aload_n (i := 0) i_M_init_40 rfl rfl ?_
  refine r_bipush (v := (40 : Int32)) i_M_init_41 (by decide) ?_
  refine r_newa i_M_init_43 (at9 := .long) (t := 1) (len := 40) (x := (40, .inr (.inl (fun _ => 0)))) (Or.inr (Or.inl ⟨rfl, rfl⟩)) rfl (by decide) ⟨rfl, rfl⟩ (by omega) (by omega) (by omega) ?_
  refine r_putfF (ci := 6) (T := Fk6) (k := 4) o_M_init (by decide +kernel) i_M_init_45 x_M_24 rfl (by decide) rfl rfl rfl (ok6 4 (by decide)) (by rfl) (by repeat (first | assumption | exact upw_e (by omega) | exact mnaW_e (by omega) | exact mnaW_i (by omega) (by omega) | refine (upw_n (by omega)).trans ?_ | refine (mnaW_n (by omega)).trans ?_)) (by first | assumption | omega) (by exact Nat.le_of_ble_eq_true rfl) ?_
  refine r_aload_n (i := 0) i_M_init_48 rfl rfl ?_
  refine r_bipush (v := (8 : Int32)) i_M_init_49 (by decide) ?_
  refine r_newa i_M_init_51 (at9 := .int) (t := 0) (len := 8) (x := (8, .inl (fun _ => 0))) (Or.inl ⟨rfl, rfl⟩) rfl (by decide) ⟨rfl, rfl⟩ (by omega) (by omega) (by omega) ?_
  refine r_putfF (ci := 6) (T := Fk6) (k := 5) o_M_init (by decide +kernel) i_M_init_53 x_M_28 rfl (by decide) rfl rfl rfl (ok6 5 (by decide)) (by rfl) (by repeat (first | assumption | exact upw_e (by omega) | exact mnaW_e (by omega) | exact mnaW_i (by omega) (by omega) | refine (upw_n (by omega)).trans ?_ | refine (mnaW_n (by omega)).trans ?_)) (by first | assumption | omega) (by exact Nat.le_of_ble_eq_true rfl) ?_
  refine r_aload_n (i := 0) i_M_init_56 rfl rfl ?_
  refine r_bipush (v := (8 : Int32)) i_M_init_57 (by decide) ?_
  refine r_newa i_M_init_59 (at9 := .int) (t := 0) (len := 8) (x := (8, .inl (fun _ => 0))) (Or.inl ⟨rfl, rfl⟩) rfl (by decide) ⟨rfl, rfl⟩ (by omega) (by omega) (by omega) ?_
  refine r_putfF (ci := 6) (T := Fk6) (k := 6) o_M_init (by decide +kernel) i_M_init_61 x_M_31 rfl (by decide) rfl rfl rfl (ok6 6 (by decide)) (by rfl) (by repeat (first | assumption | exact upw_e (by omega) | exact mnaW_e (by omega) | exact mnaW_i (by omega) (by omega) | refine (upw_n (by omega)).trans ?_ | refine (mnaW_n (by omega)).trans ?_)) (by first | assumption | omega) (by exact Nat.le_of_ble_eq_true rfl) ?_
  refine r_aload_n (i := 0) i_M_init_64 rfl rfl ?_
  refine r_sipush (v := (250 : Int32)) i_M_init_65 (by decide) ?_
  refine r_newa i_M_init_68 (at9 := .int) (t := 0) (len := 250) (x := (250, .inl (fun _ => 0))) (Or.inl ⟨rfl, rfl⟩) rfl (by decide) ⟨rfl, rfl⟩ (by omega) (by omega) (by omega) ?_
  refine r_putfF (ci := 6) (T := Fk6) (k := 7) o_M_init (by decide +kernel) i_M_init_70 x_M_34 rfl (by decide) rfl rfl rfl (ok6 7 (by decide)) (by rfl) (by repeat (first | assumption | exact upw_e (by omega) | exact mnaW_e (by omega) | exact mnaW_i (by omega) (by omega) | refine (upw_n (by omega)).trans ?_ | refine (mnaW_n (by omega)).trans ?_)) (by first | assumption | omega) (by exact Nat.le_of_ble_eq_true rfl) ?_
  refine r_aload_n (i := 0) i_M_init_73 rfl rfl ?_
  refine r_bipush (v := (8 : Int32)) i_M_init_74 (by decide) ?_
  refine r_newa i_M_init_76 (at9 := .int) (t := 0) (len := 8) (x := (8, .inl (fun _ => 0))) (Or.inl ⟨rfl, rfl⟩) rfl (by decide) ⟨rfl, rfl⟩ (by omega) (by omega) (by omega) ?_
  refine r_putfF (ci := 6) (T := Fk6) (k := 9) o_M_init (by decide +kernel) i_M_init_78 x_M_37 rfl (by decide) rfl rfl rfl (ok6 9 (by decide)) (by rfl) (by repeat (first | assumption | exact upw_e (by omega) | exact mnaW_e (by omega) | exact mnaW_i (by omega) (by omega) | refine (upw_n (by omega)).trans ?_ | refine (mnaW_n (by omega)).trans ?_)) (by first | assumption | omega) (by exact Nat.le_of_ble_eq_true rfl) ?_
  refine r_aload_n (i := 0) i_M_init_81 rfl rfl ?_
  refine r_bipush (v := (7 : Int32)) i_M_init_82 (by decide) ?_
  refine r_newa i_M_init_84 (at9 := .int) (t := 0) (len := 7) (x := (7, .inl (fun _ => 0))) (Or.inl ⟨rfl, rfl⟩) rfl (by decide) ⟨rfl, rfl⟩ (by omega) (by omega) (by omega) ?_
  refine r_putfF (ci := 6) (T := Fk6) (k := 11) o_M_init (by decide +kernel) i_M_init_86 x_M_40 rfl (by decide) rfl rfl rfl (ok6 11 (by decide)) (by rfl) (by repeat (first | assumption | exact upw_e (by omega) | exact mnaW_e (by omega) | exact mnaW_i (by omega) (by omega) | refine (upw_n (by omega)).trans ?_ | refine (mnaW_n (by omega)).trans ?_)) (by first | assumption | omega) (by exact Nat.le_of_ble_eq_true rfl) ?_
  refine r_aload_n (i := 0) i_M_init_89 rfl rfl ?_
  refine r_bipush (v := (7 : Int32)) i_M_init_90 (by decide) ?_
  refine r_newa i_M_init_92 (at9 := .int) (t := 0) (len := 7) (x := (7, .inl (fun _ => 0))) (Or.inl ⟨rfl, rfl⟩) rfl (by decide) ⟨rfl, rfl⟩ (by omega) (by omega) (by omega) ?_
  refine r_putfF (ci := 6) (T := Fk6) (k := 12) o_M_init (by decide +kernel) i_M_init_94 x_M_43 rfl (by decide) rfl rfl rfl (ok6 12 (by decide)) (by rfl) (by repeat (first | assumption | exact upw_e (by omega) | exact mnaW_e (by omega) | exact mnaW_i (by omega) (by omega) | refine (upw_n (by omega)).trans ?_ | refine (mnaW_n (by omega)).trans ?_)) (by first | assumption | omega) (by exact Nat.le_of_ble_eq_true rfl) ?_
  refine r_aload_n (i := 0) i_M_init_97 rfl rfl ?_
  refine r_bipush (v := (7 : Int32)) i_M_init_98 (by decide) ?_
  refine r_iconst (v := (5 : Int32)) i_M_init_100 rfl ?_
  refine r_mna (own := "NeedsALoserModel") (idx := 46) (N := 7) (K := 5) (t := 0) (ty := .int) (inn := (5, .inl (fun _ => 0))) o_M_init i_M_init_101 x_M_46 (Or.inl ⟨rfl, rfl, rfl⟩) (by decide) (by decide) (by omega) (by omega) (by omega) ?_
  refine r_putfF (ci := 6) (T := Fk6) (k := 14) o_M_init (by decide +kernel) i_M_init_105 x_M_48 rfl (by decide) rfl rfl rfl (ok6 14 (by decide)) (by rfl) (by repeat (first | assumption | exact upw_e (by omega) | exact mnaW_e (by omega) | exact mnaW_i (by omega) (by omega) | refine (upw_n (by omega)).trans ?_ | refine (mnaW_n (by omega)).trans ?_)) (by first | assumption | omega) (by exact Nat.le_of_ble_eq_true rfl) ?_
  refine r_aload_n (i := 0) i_M_init_108 rfl rfl ?_
  refine r_bipush (v := (7 : Int32)) i_M_init_109 (by decide) ?_
  refine r_bipush (v := (7 : Int32)) i_M_init_111 (by decide) ?_
  refine r_mna (own := "NeedsALoserModel") (idx := 46) (N := 7) (K := 7) (t := 0) (ty := .int) (inn := (7, .inl (fun _ => 0))) o_M_init i_M_init_113 x_M_46 (Or.inl ⟨rfl, rfl, rfl⟩) (by decide) (by decide) (by omega) (by omega) (by omega) ?_
  refine r_putfF (ci := 6) (T := Fk6) (k := 15) o_M_init (by decide +kernel) i_M_init_117 x_M_51 rfl (by decide) rfl rfl rfl (ok6 15 (by decide)) (by rfl) (by repeat (first | assumption | exact upw_e (by omega) | exact mnaW_e (by omega) | exact mnaW_i (by omega) (by omega) | refine (upw_n (by omega)).trans ?_ | refine (mnaW_n (by omega)).trans ?_)) (by first | assumption | omega) (by exact Nat.le_of_ble_eq_true rfl) ?_
  refine r_aload_n (i := 0) i_M_init_120 rfl rfl ?_
  refine r_iconst (v := (4 : Int32)) i_M_init_121 rfl ?_
  refine r_newa i_M_init_122 (at9 := .int) (t := 0) (len := 4) (x := (4, .inl (fun _ => 0))) (Or.inl ⟨rfl, rfl⟩) rfl (by decide) ⟨rfl, rfl⟩ (by omega) (by omega) (by omega) ?_
  refine r_putfF (ci := 6) (T := Fk6) (k := 16) o_M_init (by decide +kernel) i_M_init_124 x_M_54 rfl (by decide) rfl rfl rfl (ok6 16 (by decide)) (by rfl) (by repeat (first | assumption | exact upw_e (by omega) | exact mnaW_e (by omega) | exact mnaW_i (by omega) (by omega) | refine (upw_n (by omega)).trans ?_ | refine (mnaW_n (by omega)).trans ?_)) (by first | assumption | omega) (by exact Nat.le_of_ble_eq_true rfl) ?_
  refine r_aload_n (i := 0) i_M_init_127 rfl rfl ?_
  refine r_iconst (v := (1 : Int32)) i_M_init_128 rfl ?_
  refine r_putf (ci := 6) (T := Fk6) (k := 19) o_M_init i_M_init_129 x_M_57 rfl (by decide) rfl rfl (ok6 19 (by decide)) (by rfl) (by repeat (first | assumption | exact upw_e (by omega) | exact mnaW_e (by omega) | exact mnaW_i (by omega) (by omega) | refine (upw_n (by omega)).trans ?_ | refine (mnaW_n (by omega)).trans ?_)) (by first | assumption | omega) (by exact Nat.le_of_ble_eq_true rfl) ?_
  refine r_aload_n (i := 0) i_M_init_132 rfl rfl ?_
  refine r_iconst (v := (4 : Int32)) i_M_init_133 rfl ?_
  refine r_newa i_M_init_134 (at9 := .int) (t := 0) (len := 4) (x := (4, .inl (fun _ => 0))) (Or.inl ⟨rfl, rfl⟩) rfl (by decide) ⟨rfl, rfl⟩ (by omega) (by omega) (by omega) ?_
  refine r_putfF (ci := 6) (T := Fk6) (k := 27) o_M_init (by decide +kernel) i_M_init_136 x_M_61 rfl (by decide) rfl rfl rfl (ok6 27 (by decide)) (by rfl) (by repeat (first | assumption | exact upw_e (by omega) | exact mnaW_e (by omega) | exact mnaW_i (by omega) (by omega) | refine (upw_n (by omega)).trans ?_ | refine (mnaW_n (by omega)).trans ?_)) (by first | assumption | omega) (by exact Nat.le_of_ble_eq_true rfl) ?_
  refine r_aload_n (i := 0) i_M_init_139 rfl rfl ?_
  refine r_bipush (v := (7 : Int32)) i_M_init_140 (by decide) ?_
  refine r_newa i_M_init_142 (at9 := .int) (t := 0) (len := 7) (x := (7, .inl (fun _ => 0))) (Or.inl ⟨rfl, rfl⟩) rfl (by decide) ⟨rfl, rfl⟩ (by omega) (by omega) (by omega) ?_
  refine r_putfF (ci := 6) (T := Fk6) (k := 29) o_M_init (by decide +kernel) i_M_init_144 x_M_64 rfl (by decide) rfl rfl rfl (ok6 29 (by decide)) (by rfl) (by repeat (first | assumption | exact upw_e (by omega) | exact mnaW_e (by omega) | exact mnaW_i (by omega) (by omega) | refine (upw_n (by omega)).trans ?_ | refine (mnaW_n (by omega)).trans ?_)) (by first | assumption | omega) (by exact Nat.le_of_ble_eq_true rfl) ?_
  refine r_aload_n (i := 0) i_M_init_147 rfl rfl ?_
  refine r_bipush (v := (7 : Int32)) i_M_init_148 (by decide) ?_
  refine r_newa i_M_init_150 (at9 := .int) (t := 0) (len := 7) (x := (7, .inl (fun _ => 0))) (Or.inl ⟨rfl, rfl⟩) rfl (by decide) ⟨rfl, rfl⟩ (by omega) (by omega) (by omega) ?_
  refine r_putfF (ci := 6) (T := Fk6) (k := 30) o_M_init (by decide +kernel) i_M_init_152 x_M_67 rfl (by decide) rfl rfl rfl (ok6 30 (by decide)) (by rfl) (by repeat (first | assumption | exact upw_e (by omega) | exact mnaW_e (by omega) | exact mnaW_i (by omega) (by omega) | refine (upw_n (by omega)).trans ?_ | refine (mnaW_n (by omega)).trans ?_)) (by first | assumption | omega) (by exact Nat.le_of_ble_eq_true rfl) ?_
  refine r_aload_n (i := 0) i_M_init_155 rfl rfl ?_
  refine r_bipush (v := (7 : Int32)) i_M_init_156 (by decide) ?_
  refine r_newa i_M_init_158 (at9 := .int) (t := 0) (len := 7) (x := (7, .inl (fun _ => 0))) (Or.inl ⟨rfl, rfl⟩) rfl (by decide) ⟨rfl, rfl⟩ (by omega) (by omega) (by omega) ?_
  refine r_putfF (ci := 6) (T := Fk6) (k := 31) o_M_init (by decide +kernel) i_M_init_160 x_M_70 rfl (by decide) rfl rfl rfl (ok6 31 (by decide)) (by rfl) (by repeat (first | assumption | exact upw_e (by omega) | exact mnaW_e (by omega) | exact mnaW_i (by omega) (by omega) | refine (upw_n (by omega)).trans ?_ | refine (mnaW_n (by omega)).trans ?_)) (by first | assumption | omega) (by exact Nat.le_of_ble_eq_true rfl) ?_
  refine init_163 (n := o + 41) ⟨(by repeat (first | assumption | exact upw_e (by omega) | exact mnaW_e (by omega) | exact mnaW_i (by omega) (by omega) | refine (upw_n (by omega)).trans ?_ | refine (mnaW_n (by omega)).trans ?_)), fun j hj => ?_, fun j q1 q2 => ?_, (by repeat (first | assumption | exact upw_e (by omega) | exact mnaW_e (by omega) | exact mnaW_i (by omega) (by omega) | refine (upw_n (by omega)).trans ?_ | refine (mnaW_n (by omega)).trans ?_)), (by repeat (first | assumption | exact upw_e (by omega) | exact mnaW_e (by omega) | exact mnaW_i (by omega) (by omega) | refine (upw_n (by omega)).trans ?_ | refine (mnaW_n (by omega)).trans ?_)), (by repeat (first | assumption | exact upw_e (by omega) | exact mnaW_e (by omega) | exact mnaW_i (by omega) (by omega) | refine (upw_n (by omega)).trans ?_ | refine (mnaW_n (by omega)).trans ?_)), by omega⟩ (fun j hj => ?_)
  · unfold isI at hj
    simp only [Bool.and_eq_true, decide_eq_true_eq, Bool.not_eq_true', decide_eq_false_iff_not] at hj
    have hc : (21 ≤ j ∧ j ≤ 27) ∨ (29 ≤ j ∧ j ≤ 35) ∨ j = 1 ∨ j = 2 ∨ j = 3 ∨ j = 14 ∨ j = 15 ∨ j = 16 ∨ j = 17 ∨ j = 18 ∨ j = 19 ∨ j = 36 ∨ j = 37 ∨ j = 38 ∨ j = 39 ∨ j = 40 := by omega
    rcases hc with h | h | rfl | rfl | rfl | rfl | rfl | rfl | rfl | rfl | rfl | rfl | rfl | rfl | rfl | rfl
    · have e1 : lenM j = 5 := by have := lenM5 (b := j - 21) (by omega); rwa [show 21 + (j - 21) = j by omega] at this
      have e2 : M00.2.1 j = fun _ => 0 := rfl
      rw [e1, e2]
      exact (by repeat (first | assumption | exact upw_e (by omega) | exact mnaW_e (by omega) | exact mnaW_i (by omega) (by omega) | refine (upw_n (by omega)).trans ?_ | refine (mnaW_n (by omega)).trans ?_))
    · have e1 : lenM j = 7 := by have := lenM7 (b := j - 29) (by omega); rwa [show 29 + (j - 29) = j by omega] at this
      have e2 : M00.2.1 j = fun _ => 0 := rfl
      rw [e1, e2]
      exact (by repeat (first | assumption | exact upw_e (by omega) | exact mnaW_e (by omega) | exact mnaW_i (by omega) (by omega) | refine (upw_n (by omega)).trans ?_ | refine (mnaW_n (by omega)).trans ?_))
    all_goals exact (by repeat (first | assumption | exact upw_e (by omega) | exact mnaW_e (by omega) | exact mnaW_i (by omega) (by omega) | refine (upw_n (by omega)).trans ?_ | refine (mnaW_n (by omega)).trans ?_))
  · have hc : (5 ≤ j ∧ j ≤ 12) ∨ j = 13 := by omega
    rcases hc with h | rfl
    · exact (by repeat (first | assumption | exact upw_e (by omega) | exact mnaW_e (by omega) | exact mnaW_i (by omega) (by omega) | refine (upw_n (by omega)).trans ?_ | refine (mnaW_n (by omega)).trans ?_))
    · exact (by repeat (first | assumption | exact upw_e (by omega) | exact mnaW_e (by omega) | exact mnaW_i (by omega) (by omega) | refine (upw_n (by omega)).trans ?_ | refine (mnaW_n (by omega)).trans ?_))
  · exact (by (repeat (first | refine (upw_n (by omega)).trans ?_ | refine (mnaW_n (by omega)).trans ?_)); rfl)
end MNEW
