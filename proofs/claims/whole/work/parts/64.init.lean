-- CONSTRUCTORS
def S0 : aS := (fun k => if k = 2 then 1 else if k = 3 then 1 else if k = 4 then 5 else if k = 5 then 50 else if k = 6 then 1 else 0, fun _ _ => 0)
def X0 : aH := (fun _ => -1, fun _ => 0, fun _ => 0, fun _ => 0)
def Z0 : aZ := (fun _ => 0, fun _ => 0, fun _ => 0, fun _ => 0, fun _ => 0)
def dfl (ty : Nat → FieldType) (N : Nat) : List Value := (List.range N).map (fun k => defaultValue (ty k))
section INIT
variable {G : gE} {w : aW} {n t : Nat}
theorem c_T_init (hw : w t = .inr (1, dfl tk1 17)) (ht : t + 9 < gB) : Mt G 1 y_T_init [.ref t] w (t + 1) 8 98 (fun r w' n' => r = none ∧ (TW w' t S0 (t + 9) ∧ ∀ j, (j < t ∨ t + 8 < j) → w' j = w j) ∧ n' = t + 9) := by
  refine Mt.of k_T_init l_T_init (Nat.le_of_ble_eq_true rfl) rfl ?_
  refine r_aload_n (i := 0) i_T_init_0 rfl rfl ?_
  refine r_objInit o_T_init x_T_3 i_T_init_1 (by decide) (Nat.le_of_ble_eq_true rfl) ?_
  refine r_aload_n (i := 0) i_T_init_4 rfl rfl ?_
  refine r_iconst (v := (0 : Int32)) i_T_init_5 rfl ?_
  refine r_putf (ci := 1) (T := Fk1) (k := 0) o_T_init i_T_init_6 x_T_9 rfl (by decide) rfl rfl (ok1 0 (by decide)) (by rfl) (by repeat (first | assumption | exact upw_s | refine (upw_n (by omega)).trans ?_)) (by first | assumption | omega) (by exact Nat.le_of_ble_eq_true rfl) ?_
  refine r_aload_n (i := 0) i_T_init_9 rfl rfl ?_
  refine r_iconst (v := (0 : Int32)) i_T_init_10 rfl ?_
  refine r_putf (ci := 1) (T := Fk1) (k := 1) o_T_init i_T_init_11 x_T_15 rfl (by decide) rfl rfl (ok1 1 (by decide)) (by rfl) (by repeat (first | assumption | exact upw_s | refine (upw_n (by omega)).trans ?_)) (by first | assumption | omega) (by exact Nat.le_of_ble_eq_true rfl) ?_
  refine r_aload_n (i := 0) i_T_init_14 rfl rfl ?_
  refine r_iconst (v := (1 : Int32)) i_T_init_15 rfl ?_
  refine r_putf (ci := 1) (T := Fk1) (k := 2) o_T_init i_T_init_16 x_T_18 rfl (by decide) rfl rfl (ok1 2 (by decide)) (by rfl) (by repeat (first | assumption | exact upw_s | refine (upw_n (by omega)).trans ?_)) (by first | assumption | omega) (by exact Nat.le_of_ble_eq_true rfl) ?_
  refine r_aload_n (i := 0) i_T_init_19 rfl rfl ?_
  refine r_iconst (v := (1 : Int32)) i_T_init_20 rfl ?_
  refine r_putf (ci := 1) (T := Fk1) (k := 3) o_T_init i_T_init_21 x_T_21 rfl (by decide) rfl rfl (ok1 3 (by decide)) (by rfl) (by repeat (first | assumption | exact upw_s | refine (upw_n (by omega)).trans ?_)) (by first | assumption | omega) (by exact Nat.le_of_ble_eq_true rfl) ?_
  refine r_aload_n (i := 0) i_T_init_24 rfl rfl ?_
  refine r_iconst (v := (5 : Int32)) i_T_init_25 rfl ?_
  refine r_putf (ci := 1) (T := Fk1) (k := 4) o_T_init i_T_init_26 x_T_24 rfl (by decide) rfl rfl (ok1 4 (by decide)) (by rfl) (by repeat (first | assumption | exact upw_s | refine (upw_n (by omega)).trans ?_)) (by first | assumption | omega) (by exact Nat.le_of_ble_eq_true rfl) ?_
  refine r_aload_n (i := 0) i_T_init_29 rfl rfl ?_
  refine r_bipush (v := (50 : Int32)) i_T_init_30 (by decide) ?_
  refine r_putf (ci := 1) (T := Fk1) (k := 5) o_T_init i_T_init_32 x_T_27 rfl (by decide) rfl rfl (ok1 5 (by decide)) (by rfl) (by repeat (first | assumption | exact upw_s | refine (upw_n (by omega)).trans ?_)) (by first | assumption | omega) (by exact Nat.le_of_ble_eq_true rfl) ?_
  refine r_aload_n (i := 0) i_T_init_35 rfl rfl ?_
  refine r_iconst (v := (1 : Int32)) i_T_init_36 rfl ?_
  refine r_putf (ci := 1) (T := Fk1) (k := 6) o_T_init i_T_init_37 x_T_30 rfl (by decide) rfl rfl (ok1 6 (by decide)) (by rfl) (by repeat (first | assumption | exact upw_s | refine (upw_n (by omega)).trans ?_)) (by first | assumption | omega) (by exact Nat.le_of_ble_eq_true rfl) ?_
  refine r_aload_n (i := 0) i_T_init_40 rfl rfl ?_
  refine r_iconst (v := (0 : Int32)) i_T_init_41 rfl ?_
  refine r_putf (ci := 1) (T := Fk1) (k := 7) o_T_init i_T_init_42 x_T_33 rfl (by decide) rfl rfl (ok1 7 (by decide)) (by rfl) (by repeat (first | assumption | exact upw_s | refine (upw_n (by omega)).trans ?_)) (by first | assumption | omega) (by exact Nat.le_of_ble_eq_true rfl) ?_
  refine r_aload_n (i := 0) i_T_init_45 rfl rfl ?_
  refine r_iconst (v := (0 : Int32)) i_T_init_46 rfl ?_
  refine r_putf (ci := 1) (T := Fk1) (k := 8) o_T_init i_T_init_47 x_T_36 rfl (by decide) rfl rfl (ok1 8 (by decide)) (by rfl) (by repeat (first | assumption | exact upw_s | refine (upw_n (by omega)).trans ?_)) (by first | assumption | omega) (by exact Nat.le_of_ble_eq_true rfl) ?_
  refine r_aload_n (i := 0) i_T_init_50 rfl rfl ?_
  refine r_bipush (v := (7 : Int32)) i_T_init_51 (by decide) ?_
  refine r_newa i_T_init_53 (at9 := .int) (t := 0) (len := 7) (x := (7, .inl (fun _ => 0))) (Or.inl ⟨rfl, rfl⟩) rfl (by decide) ⟨rfl, rfl⟩ (by omega) (by omega) (by omega) ?_
  refine r_putfF (ci := 1) (T := Fk1) (k := 9) o_T_init (by decide +kernel) i_T_init_55 x_T_39 rfl (by decide) rfl rfl rfl (ok1 9 (by decide)) (by rfl) (by repeat (first | assumption | exact upw_s | refine (upw_n (by omega)).trans ?_)) (by first | assumption | omega) (by exact Nat.le_of_ble_eq_true rfl) ?_
  refine r_aload_n (i := 0) i_T_init_58 rfl rfl ?_
  refine r_bipush (v := (7 : Int32)) i_T_init_59 (by decide) ?_
  refine r_newa i_T_init_61 (at9 := .int) (t := 0) (len := 7) (x := (7, .inl (fun _ => 0))) (Or.inl ⟨rfl, rfl⟩) rfl (by decide) ⟨rfl, rfl⟩ (by omega) (by omega) (by omega) ?_
  refine r_putfF (ci := 1) (T := Fk1) (k := 10) o_T_init (by decide +kernel) i_T_init_63 x_T_43 rfl (by decide) rfl rfl rfl (ok1 10 (by decide)) (by rfl) (by repeat (first | assumption | exact upw_s | refine (upw_n (by omega)).trans ?_)) (by first | assumption | omega) (by exact Nat.le_of_ble_eq_true rfl) ?_
  refine r_aload_n (i := 0) i_T_init_66 rfl rfl ?_
  refine r_bipush (v := (7 : Int32)) i_T_init_67 (by decide) ?_
  refine r_newa i_T_init_69 (at9 := .int) (t := 0) (len := 7) (x := (7, .inl (fun _ => 0))) (Or.inl ⟨rfl, rfl⟩) rfl (by decide) ⟨rfl, rfl⟩ (by omega) (by omega) (by omega) ?_
  refine r_putfF (ci := 1) (T := Fk1) (k := 11) o_T_init (by decide +kernel) i_T_init_71 x_T_46 rfl (by decide) rfl rfl rfl (ok1 11 (by decide)) (by rfl) (by repeat (first | assumption | exact upw_s | refine (upw_n (by omega)).trans ?_)) (by first | assumption | omega) (by exact Nat.le_of_ble_eq_true rfl) ?_
  refine r_aload_n (i := 0) i_T_init_74 rfl rfl ?_
  refine r_bipush (v := (7 : Int32)) i_T_init_75 (by decide) ?_
  refine r_newa i_T_init_77 (at9 := .int) (t := 0) (len := 7) (x := (7, .inl (fun _ => 0))) (Or.inl ⟨rfl, rfl⟩) rfl (by decide) ⟨rfl, rfl⟩ (by omega) (by omega) (by omega) ?_
  refine r_putfF (ci := 1) (T := Fk1) (k := 12) o_T_init (by decide +kernel) i_T_init_79 x_T_49 rfl (by decide) rfl rfl rfl (ok1 12 (by decide)) (by rfl) (by repeat (first | assumption | exact upw_s | refine (upw_n (by omega)).trans ?_)) (by first | assumption | omega) (by exact Nat.le_of_ble_eq_true rfl) ?_
  refine r_aload_n (i := 0) i_T_init_82 rfl rfl ?_
  refine r_bipush (v := (7 : Int32)) i_T_init_83 (by decide) ?_
  refine r_newa i_T_init_85 (at9 := .int) (t := 0) (len := 7) (x := (7, .inl (fun _ => 0))) (Or.inl ⟨rfl, rfl⟩) rfl (by decide) ⟨rfl, rfl⟩ (by omega) (by omega) (by omega) ?_
  refine r_putfF (ci := 1) (T := Fk1) (k := 13) o_T_init (by decide +kernel) i_T_init_87 x_T_52 rfl (by decide) rfl rfl rfl (ok1 13 (by decide)) (by rfl) (by repeat (first | assumption | exact upw_s | refine (upw_n (by omega)).trans ?_)) (by first | assumption | omega) (by exact Nat.le_of_ble_eq_true rfl) ?_
  refine r_aload_n (i := 0) i_T_init_90 rfl rfl ?_
  refine r_bipush (v := (7 : Int32)) i_T_init_91 (by decide) ?_
  refine r_newa i_T_init_93 (at9 := .int) (t := 0) (len := 7) (x := (7, .inl (fun _ => 0))) (Or.inl ⟨rfl, rfl⟩) rfl (by decide) ⟨rfl, rfl⟩ (by omega) (by omega) (by omega) ?_
  refine r_putfF (ci := 1) (T := Fk1) (k := 14) o_T_init (by decide +kernel) i_T_init_95 x_T_55 rfl (by decide) rfl rfl rfl (ok1 14 (by decide)) (by rfl) (by repeat (first | assumption | exact upw_s | refine (upw_n (by omega)).trans ?_)) (by first | assumption | omega) (by exact Nat.le_of_ble_eq_true rfl) ?_
  refine r_aload_n (i := 0) i_T_init_98 rfl rfl ?_
  refine r_bipush (v := (7 : Int32)) i_T_init_99 (by decide) ?_
  refine r_newa i_T_init_101 (at9 := .int) (t := 0) (len := 7) (x := (7, .inl (fun _ => 0))) (Or.inl ⟨rfl, rfl⟩) rfl (by decide) ⟨rfl, rfl⟩ (by omega) (by omega) (by omega) ?_
  refine r_putfF (ci := 1) (T := Fk1) (k := 15) o_T_init (by decide +kernel) i_T_init_103 x_T_58 rfl (by decide) rfl rfl rfl (ok1 15 (by decide)) (by rfl) (by repeat (first | assumption | exact upw_s | refine (upw_n (by omega)).trans ?_)) (by first | assumption | omega) (by exact Nat.le_of_ble_eq_true rfl) ?_
  refine r_aload_n (i := 0) i_T_init_106 rfl rfl ?_
  refine r_bipush (v := (49 : Int32)) i_T_init_107 (by decide) ?_
  refine r_newa i_T_init_109 (at9 := .int) (t := 0) (len := 49) (x := (49, .inl (fun _ => 0))) (Or.inl ⟨rfl, rfl⟩) rfl (by decide) ⟨rfl, rfl⟩ (by omega) (by omega) (by omega) ?_
  refine r_putfF (ci := 1) (T := Fk1) (k := 16) o_T_init (by decide +kernel) i_T_init_111 x_T_61 rfl (by decide) rfl rfl rfl (ok1 16 (by decide)) (by rfl) (by repeat (first | assumption | exact upw_s | refine (upw_n (by omega)).trans ?_)) (by first | assumption | omega) (by exact Nat.le_of_ble_eq_true rfl) ?_
  refine r_return i_T_init_114 t_T_init ?_
  exact ⟨rfl, ⟨⟨(by repeat (first | assumption | exact upw_s | refine (upw_n (by omega)).trans ?_)), (by repeat (first | assumption | exact upw_s | refine (upw_n (by omega)).trans ?_)), (by repeat (first | assumption | exact upw_s | refine (upw_n (by omega)).trans ?_)), (by repeat (first | assumption | exact upw_s | refine (upw_n (by omega)).trans ?_)), (by repeat (first | assumption | exact upw_s | refine (upw_n (by omega)).trans ?_)), (by repeat (first | assumption | exact upw_s | refine (upw_n (by omega)).trans ?_)), (by repeat (first | assumption | exact upw_s | refine (upw_n (by omega)).trans ?_)), (by repeat (first | assumption | exact upw_s | refine (upw_n (by omega)).trans ?_)), (by repeat (first | assumption | exact upw_s | refine (upw_n (by omega)).trans ?_)), by omega⟩, fun j hj => (by (repeat (refine (upw_n (by omega)).trans ?_)); rfl)⟩, rfl⟩
theorem c_R_init (hw : w t = .inr (3, dfl tk3 6)) (ht : t + 2 < gB) : Mt G 1 y_R_init [.ref t] w (t + 1) 1 250 (fun r w' n' => r = none ∧ (RW w' t (fun _ => 0) 0 (0, 0, 0) (-1) (t + 2) ∧ ∀ j, (j < t ∨ t + 1 < j) → w' j = w j) ∧ n' = t + 2) := by
  refine Mt.of k_R_init l_R_init (Nat.le_of_ble_eq_true rfl) rfl ?_
  refine r_aload_n (i := 0) i_R_init_0 rfl rfl ?_
  refine r_objInit o_R_init x_R_3 i_R_init_1 (by decide) (Nat.le_of_ble_eq_true rfl) ?_
  refine r_aload_n (i := 0) i_R_init_4 rfl rfl ?_
  refine r_sipush (v := (250 : Int32)) i_R_init_5 (by decide) ?_
  refine r_newa i_R_init_8 (at9 := .int) (t := 0) (len := 250) (x := (250, .inl (fun _ => 0))) (Or.inl ⟨rfl, rfl⟩) rfl (by decide) ⟨rfl, rfl⟩ (by omega) (by omega) (by omega) ?_
  refine r_putfF (ci := 3) (T := Fk3) (k := 0) o_R_init (by decide +kernel) i_R_init_10 x_R_11 rfl (by decide) rfl rfl rfl (ok3 0 (by decide)) (by rfl) (by repeat (first | assumption | exact upw_s | refine (upw_n (by omega)).trans ?_)) (by first | assumption | omega) (by exact Nat.le_of_ble_eq_true rfl) ?_
  refine r_aload_n (i := 0) i_R_init_13 rfl rfl ?_
  refine r_iconst (v := (0 : Int32)) i_R_init_14 rfl ?_
  refine r_putf (ci := 3) (T := Fk3) (k := 1) o_R_init i_R_init_15 x_R_15 rfl (by decide) rfl rfl (ok3 1 (by decide)) (by rfl) (by repeat (first | assumption | exact upw_s | refine (upw_n (by omega)).trans ?_)) (by first | assumption | omega) (by exact Nat.le_of_ble_eq_true rfl) ?_
  refine r_aload_n (i := 0) i_R_init_18 rfl rfl ?_
  refine r_iconst (v := (0 : Int32)) i_R_init_19 rfl ?_
  refine r_putf (ci := 3) (T := Fk3) (k := 2) o_R_init i_R_init_20 x_R_19 rfl (by decide) rfl rfl (ok3 2 (by decide)) (by rfl) (by repeat (first | assumption | exact upw_s | refine (upw_n (by omega)).trans ?_)) (by first | assumption | omega) (by exact Nat.le_of_ble_eq_true rfl) ?_
  refine r_aload_n (i := 0) i_R_init_23 rfl rfl ?_
  refine r_iconst (v := (0 : Int32)) i_R_init_24 rfl ?_
  refine r_putf (ci := 3) (T := Fk3) (k := 3) o_R_init i_R_init_25 x_R_22 rfl (by decide) rfl rfl (ok3 3 (by decide)) (by rfl) (by repeat (first | assumption | exact upw_s | refine (upw_n (by omega)).trans ?_)) (by first | assumption | omega) (by exact Nat.le_of_ble_eq_true rfl) ?_
  refine r_aload_n (i := 0) i_R_init_28 rfl rfl ?_
  refine r_iconst (v := (0 : Int32)) i_R_init_29 rfl ?_
  refine r_putf (ci := 3) (T := Fk3) (k := 4) o_R_init i_R_init_30 x_R_25 rfl (by decide) rfl rfl (ok3 4 (by decide)) (by rfl) (by repeat (first | assumption | exact upw_s | refine (upw_n (by omega)).trans ?_)) (by first | assumption | omega) (by exact Nat.le_of_ble_eq_true rfl) ?_
  refine r_aload_n (i := 0) i_R_init_33 rfl rfl ?_
  refine r_iconst (v := (-1 : Int32)) i_R_init_34 rfl ?_
  refine r_putf (ci := 3) (T := Fk3) (k := 5) o_R_init i_R_init_35 x_R_28 rfl (by decide) rfl rfl (ok3 5 (by decide)) (by rfl) (by repeat (first | assumption | exact upw_s | refine (upw_n (by omega)).trans ?_)) (by first | assumption | omega) (by exact Nat.le_of_ble_eq_true rfl) ?_
  refine r_return i_R_init_38 t_R_init ?_
  exact ⟨rfl, ⟨⟨(by repeat (first | assumption | exact upw_s | refine (upw_n (by omega)).trans ?_)), (by repeat (first | assumption | exact upw_s | refine (upw_n (by omega)).trans ?_)), by omega⟩, fun j hj => (by (repeat (refine (upw_n (by omega)).trans ?_)); rfl)⟩, rfl⟩
theorem c_W_init (hw : w t = .inr (4, dfl tk4 3)) (ht : t + 2 < gB) : Mt G 1 y_W_init [.ref t] w (t + 1) 1 7 (fun r w' n' => r = none ∧ (WW w' t K0 (t + 2) ∧ ∀ j, (j < t ∨ t + 1 < j) → w' j = w j) ∧ n' = t + 2) := by
  refine Mt.of k_W_init l_W_init (Nat.le_of_ble_eq_true rfl) rfl ?_
  refine r_aload_n (i := 0) i_W_init_0 rfl rfl ?_
  refine r_objInit o_W_init x_W_3 i_W_init_1 (by decide) (Nat.le_of_ble_eq_true rfl) ?_
  refine r_aload_n (i := 0) i_W_init_4 rfl rfl ?_
  refine r_bipush (v := (7 : Int32)) i_W_init_5 (by decide) ?_
  refine r_newa i_W_init_7 (at9 := .int) (t := 0) (len := 7) (x := (7, .inl (fun _ => 0))) (Or.inl ⟨rfl, rfl⟩) rfl (by decide) ⟨rfl, rfl⟩ (by omega) (by omega) (by omega) ?_
  refine r_putfF (ci := 4) (T := Fk4) (k := 0) o_W_init (by decide +kernel) i_W_init_9 x_W_9 rfl (by decide) rfl rfl rfl (ok4 0 (by decide)) (by rfl) (by repeat (first | assumption | exact upw_s | refine (upw_n (by omega)).trans ?_)) (by first | assumption | omega) (by exact Nat.le_of_ble_eq_true rfl) ?_
  refine r_aload_n (i := 0) i_W_init_12 rfl rfl ?_
  refine r_iconst (v := (0 : Int32)) i_W_init_13 rfl ?_
  refine r_putf (ci := 4) (T := Fk4) (k := 1) o_W_init i_W_init_14 x_W_15 rfl (by decide) rfl rfl (ok4 1 (by decide)) (by rfl) (by repeat (first | assumption | exact upw_s | refine (upw_n (by omega)).trans ?_)) (by first | assumption | omega) (by exact Nat.le_of_ble_eq_true rfl) ?_
  refine r_aload_n (i := 0) i_W_init_17 rfl rfl ?_
  refine r_iconst (v := (0 : Int32)) i_W_init_18 rfl ?_
  refine r_putf (ci := 4) (T := Fk4) (k := 2) o_W_init i_W_init_19 x_W_19 rfl (by decide) rfl rfl (ok4 2 (by decide)) (by rfl) (by repeat (first | assumption | exact upw_s | refine (upw_n (by omega)).trans ?_)) (by first | assumption | omega) (by exact Nat.le_of_ble_eq_true rfl) ?_
  refine r_return i_W_init_22 t_W_init ?_
  exact ⟨rfl, ⟨⟨(by repeat (first | assumption | exact upw_s | refine (upw_n (by omega)).trans ?_)), (by repeat (first | assumption | exact upw_s | refine (upw_n (by omega)).trans ?_)), by omega⟩, fun j hj => (by (repeat (refine (upw_n (by omega)).trans ?_)); rfl)⟩, rfl⟩
theorem c_E_init (hw : w t = .inr (5, dfl tk5 5)) (ht : t + 6 < gB) : Mt G 1 y_E_init [.ref t] w (t + 1) 5 398 (fun r w' n' => r = none ∧ (EW w' t Z0 (t + 6) ∧ ∀ j, (j < t ∨ t + 5 < j) → w' j = w j) ∧ n' = t + 6) := by
  refine Mt.of k_E_init l_E_init (Nat.le_of_ble_eq_true rfl) rfl ?_
  refine r_aload_n (i := 0) i_E_init_0 rfl rfl ?_
  refine r_objInit o_E_init x_E_5 i_E_init_1 (by decide) (Nat.le_of_ble_eq_true rfl) ?_
  refine r_aload_n (i := 0) i_E_init_4 rfl rfl ?_
  refine r_sipush (v := (128 : Int32)) i_E_init_5 (by decide) ?_
  refine r_newa i_E_init_8 (at9 := .boolean) (t := 2) (len := 128) (x := (128, .inl (fun _ => 0))) (Or.inr (Or.inr ⟨rfl, rfl⟩)) rfl (by decide) ⟨rfl, rfl⟩ (by omega) (by omega) (by omega) ?_
  refine r_putfF (ci := 5) (T := Fk5) (k := 0) o_E_init (by decide +kernel) i_E_init_10 x_E_13 rfl (by decide) rfl rfl rfl (ok5 0 (by decide)) (by rfl) (by repeat (first | assumption | exact upw_s | refine (upw_n (by omega)).trans ?_)) (by first | assumption | omega) (by exact Nat.le_of_ble_eq_true rfl) ?_
  refine r_aload_n (i := 0) i_E_init_13 rfl rfl ?_
  refine r_sipush (v := (128 : Int32)) i_E_init_14 (by decide) ?_
  refine r_newa i_E_init_17 (at9 := .long) (t := 1) (len := 128) (x := (128, .inr (.inl (fun _ => 0)))) (Or.inr (Or.inl ⟨rfl, rfl⟩)) rfl (by decide) ⟨rfl, rfl⟩ (by omega) (by omega) (by omega) ?_
  refine r_putfF (ci := 5) (T := Fk5) (k := 1) o_E_init (by decide +kernel) i_E_init_19 x_E_17 rfl (by decide) rfl rfl rfl (ok5 1 (by decide)) (by rfl) (by repeat (first | assumption | exact upw_s | refine (upw_n (by omega)).trans ?_)) (by first | assumption | omega) (by exact Nat.le_of_ble_eq_true rfl) ?_
  refine r_aload_n (i := 0) i_E_init_22 rfl rfl ?_
  refine r_sipush (v := (128 : Int32)) i_E_init_23 (by decide) ?_
  refine r_newa i_E_init_26 (at9 := .long) (t := 1) (len := 128) (x := (128, .inr (.inl (fun _ => 0)))) (Or.inr (Or.inl ⟨rfl, rfl⟩)) rfl (by decide) ⟨rfl, rfl⟩ (by omega) (by omega) (by omega) ?_
  refine r_putfF (ci := 5) (T := Fk5) (k := 2) o_E_init (by decide +kernel) i_E_init_28 x_E_21 rfl (by decide) rfl rfl rfl (ok5 2 (by decide)) (by rfl) (by repeat (first | assumption | exact upw_s | refine (upw_n (by omega)).trans ?_)) (by first | assumption | omega) (by exact Nat.le_of_ble_eq_true rfl) ?_
  refine r_aload_n (i := 0) i_E_init_31 rfl rfl ?_
  refine r_bipush (v := (7 : Int32)) i_E_init_32 (by decide) ?_
  refine r_newa i_E_init_34 (at9 := .long) (t := 1) (len := 7) (x := (7, .inr (.inl (fun _ => 0)))) (Or.inr (Or.inl ⟨rfl, rfl⟩)) rfl (by decide) ⟨rfl, rfl⟩ (by omega) (by omega) (by omega) ?_
  refine r_putfF (ci := 5) (T := Fk5) (k := 3) o_E_init (by decide +kernel) i_E_init_36 x_E_24 rfl (by decide) rfl rfl rfl (ok5 3 (by decide)) (by rfl) (by repeat (first | assumption | exact upw_s | refine (upw_n (by omega)).trans ?_)) (by first | assumption | omega) (by exact Nat.le_of_ble_eq_true rfl) ?_
  refine r_aload_n (i := 0) i_E_init_39 rfl rfl ?_
  refine r_bipush (v := (7 : Int32)) i_E_init_40 (by decide) ?_
  refine r_newa i_E_init_42 (at9 := .int) (t := 0) (len := 7) (x := (7, .inl (fun _ => 0))) (Or.inl ⟨rfl, rfl⟩) rfl (by decide) ⟨rfl, rfl⟩ (by omega) (by omega) (by omega) ?_
  refine r_putfF (ci := 5) (T := Fk5) (k := 4) o_E_init (by decide +kernel) i_E_init_44 x_E_27 rfl (by decide) rfl rfl rfl (ok5 4 (by decide)) (by rfl) (by repeat (first | assumption | exact upw_s | refine (upw_n (by omega)).trans ?_)) (by first | assumption | omega) (by exact Nat.le_of_ble_eq_true rfl) ?_
  refine r_return i_E_init_47 t_E_init ?_
  exact ⟨rfl, ⟨⟨(by repeat (first | assumption | exact upw_s | refine (upw_n (by omega)).trans ?_)), (by repeat (first | assumption | exact upw_s | refine (upw_n (by omega)).trans ?_)), (by repeat (first | assumption | exact upw_s | refine (upw_n (by omega)).trans ?_)), (by repeat (first | assumption | exact upw_s | refine (upw_n (by omega)).trans ?_)), (by repeat (first | assumption | exact upw_s | refine (upw_n (by omega)).trans ?_)), (by repeat (first | assumption | exact upw_s | refine (upw_n (by omega)).trans ?_)), by omega⟩, fun j hj => (by (repeat (refine (upw_n (by omega)).trans ?_)); rfl)⟩, rfl⟩
theorem c_S_init (hw : w t = .inr (2, dfl tk2 4)) (ht : t + 5 < gB) : Mt G 1 y_S_init [.ref t] w (t + 1) 4 344 (fun r w' n' => r = none ∧ (SW w' t X0 (t + 5) ∧ ∀ j, (j < t ∨ t + 4 < j) → w' j = w j) ∧ n' = t + 5) := by
  refine Mt.of k_S_init l_S_init (Nat.le_of_ble_eq_true rfl) rfl ?_
  have hloop : ∀ m i, i + m = 8 → ∀ w1, SW w1 t (fun j => if j < i then -1 else 0, fun _ => 0, fun _ => 0, fun _ => 0) (t + 5) → (∀ j, (j < t ∨ t + 4 < j) → w1 j = w j) → Go G 1 y_S_init 39 [some (.ref t), some (.int (nI i))] [] w1 (t + 5) 0 0 (fun r w' n' => r = none ∧ (SW w' t X0 (t + 5) ∧ ∀ j, (j < t ∨ t + 4 < j) → w' j = w j) ∧ n' = t + 5) := by
    intro m
    induction m with
    | zero =>
      intro i hi w1 hS hF
      have hi : i = 8 := by omega
      subst hi
      obtain ⟨g0, g1, g2, g3, g4, hn⟩ := hS
      refine r_iload_n (i := 1) i_S_init_39 rfl rfl ?_
      refine r_aload_n (i := 0) i_S_init_40 rfl rfl ?_
      refine r_getf (ci := 2) (T := Fk2) (k := 0) o_S_init i_S_init_41 x_S_9 rfl (by decide) rfl (by repeat (first | assumption | exact upw_s | refine (upw_n (by omega)).trans ?_)) (by first | assumption | omega) (by rfl) ?_
      refine r_alen i_S_init_44 (by repeat (first | assumption | exact upw_s | refine (upw_n (by omega)).trans ?_)) (by decide) (by first | assumption | omega) ?_
      refine r_icmp_ge 61 i_S_init_45 (by decide) (fun h45 => ?_) (fun h45 => (absurd (by decide) h45))
      refine r_norm (w' := upw w1 (t + 1) (ai 8 X0.1)) (fun q hq => ?_) ?_
      · by_cases e : q = t + 1
        · subst e; rw [upw_s, g1]; exact Or.inr (Or.inl ⟨0, 8, _, _, rfl, rfl, fun i hi => if_pos (by omega)⟩)
        · rw [upw_n e]; exact Or.inl rfl
      refine r_return i_S_init_61 t_S_init ?_
      exact ⟨rfl, ⟨⟨(by repeat (first | assumption | exact upw_s | refine (upw_n (by omega)).trans ?_)), (by repeat (first | assumption | exact upw_s | refine (upw_n (by omega)).trans ?_)), (by repeat (first | assumption | exact upw_s | refine (upw_n (by omega)).trans ?_)), (by repeat (first | assumption | exact upw_s | refine (upw_n (by omega)).trans ?_)), (by repeat (first | assumption | exact upw_s | refine (upw_n (by omega)).trans ?_)), hn⟩, fun j hj => (upw_n (by omega)).trans (hF j hj)⟩, rfl⟩
    | succ m ih =>
      intro i hi w1 hS hF
      have ih' := ih (i + 1) (by omega)
      obtain ⟨g0, g1, g2, g3, g4, hn⟩ := hS
      have hin : vp_in (nI i) 8 := vp_in_nI (by omega) (by decide)
      have hc : (nI i).toNatClampNeg = i := nI_clamp (by omega)
      refine r_iload_n (i := 1) i_S_init_39 rfl rfl ?_
      refine r_aload_n (i := 0) i_S_init_40 rfl rfl ?_
      refine r_getf (ci := 2) (T := Fk2) (k := 0) o_S_init i_S_init_41 x_S_9 rfl (by decide) rfl (by repeat (first | assumption | exact upw_s | refine (upw_n (by omega)).trans ?_)) (by first | assumption | omega) (by rfl) ?_
      refine r_alen i_S_init_44 (by repeat (first | assumption | exact upw_s | refine (upw_n (by omega)).trans ?_)) (by decide) (by first | assumption | omega) ?_
      refine r_icmp_ge 61 i_S_init_45 (by decide) (fun h45 => (absurd h45 (nI_ge (b := 8) (by omega) (by decide)))) (fun h45 => ?_)
      refine r_aload_n (i := 0) i_S_init_48 rfl rfl ?_
      refine r_getf (ci := 2) (T := Fk2) (k := 0) o_S_init i_S_init_49 x_S_9 rfl (by decide) rfl (by repeat (first | assumption | exact upw_s | refine (upw_n (by omega)).trans ?_)) (by first | assumption | omega) (by rfl) ?_
      refine r_iload_n (i := 1) i_S_init_52 rfl rfl ?_
      refine r_iconst (v := (-1 : Int32)) i_S_init_53 rfl ?_
      refine r_iast i_S_init_54 (by repeat (first | assumption | exact upw_s | refine (upw_n (by omega)).trans ?_)) (by first | assumption | omega) (by assumption) ?_
      refine r_iinc_1 (v := (1 : Int32)) i_S_init_55 rfl (by rw [l_S_init]; decide) rfl ?_
      refine r_goto 39 i_S_init_58 (by decide) ?_
      rw [hc, nI_1]
      have e9 : upd (fun j => if j < i then (-1 : Int32) else 0) i (-1) = (fun j => if j < i + 1 then (-1 : Int32) else 0) := by
        funext j; unfold upd; by_cases e1 : j = i <;> by_cases e2 : j < i <;> simp [e1, e2] <;> omega
      refine ih' _ ⟨(by repeat (first | assumption | exact upw_s | refine (upw_n (by omega)).trans ?_)), by rw [← e9]; exact upw_s, (by repeat (first | assumption | exact upw_s | refine (upw_n (by omega)).trans ?_)), (by repeat (first | assumption | exact upw_s | refine (upw_n (by omega)).trans ?_)), (by repeat (first | assumption | exact upw_s | refine (upw_n (by omega)).trans ?_)), hn⟩ (fun j hj => (upw_n (by omega)).trans (hF j hj))
  refine r_aload_n (i := 0) i_S_init_0 rfl rfl ?_
  refine r_objInit o_S_init x_S_3 i_S_init_1 (by decide) (Nat.le_of_ble_eq_true rfl) ?_
  refine r_aload_n (i := 0) i_S_init_4 rfl rfl ?_
  refine r_bipush (v := (8 : Int32)) i_S_init_5 (by decide) ?_
  refine r_newa i_S_init_7 (at9 := .int) (t := 0) (len := 8) (x := (8, .inl (fun _ => 0))) (Or.inl ⟨rfl, rfl⟩) rfl (by decide) ⟨rfl, rfl⟩ (by omega) (by omega) (by omega) ?_
  refine r_putfF (ci := 2) (T := Fk2) (k := 0) o_S_init (by decide +kernel) i_S_init_9 x_S_9 rfl (by decide) rfl rfl rfl (ok2 0 (by decide)) (by rfl) (by repeat (first | assumption | exact upw_s | refine (upw_n (by omega)).trans ?_)) (by first | assumption | omega) (by exact Nat.le_of_ble_eq_true rfl) ?_
  refine r_aload_n (i := 0) i_S_init_12 rfl rfl ?_
  refine r_bipush (v := (8 : Int32)) i_S_init_13 (by decide) ?_
  refine r_newa i_S_init_15 (at9 := .int) (t := 0) (len := 8) (x := (8, .inl (fun _ => 0))) (Or.inl ⟨rfl, rfl⟩) rfl (by decide) ⟨rfl, rfl⟩ (by omega) (by omega) (by omega) ?_
  refine r_putfF (ci := 2) (T := Fk2) (k := 1) o_S_init (by decide +kernel) i_S_init_17 x_S_15 rfl (by decide) rfl rfl rfl (ok2 1 (by decide)) (by rfl) (by repeat (first | assumption | exact upw_s | refine (upw_n (by omega)).trans ?_)) (by first | assumption | omega) (by exact Nat.le_of_ble_eq_true rfl) ?_
  refine r_aload_n (i := 0) i_S_init_20 rfl rfl ?_
  refine r_bipush (v := (8 : Int32)) i_S_init_21 (by decide) ?_
  refine r_newa i_S_init_23 (at9 := .int) (t := 0) (len := 8) (x := (8, .inl (fun _ => 0))) (Or.inl ⟨rfl, rfl⟩) rfl (by decide) ⟨rfl, rfl⟩ (by omega) (by omega) (by omega) ?_
  refine r_putfF (ci := 2) (T := Fk2) (k := 2) o_S_init (by decide +kernel) i_S_init_25 x_S_18 rfl (by decide) rfl rfl rfl (ok2 2 (by decide)) (by rfl) (by repeat (first | assumption | exact upw_s | refine (upw_n (by omega)).trans ?_)) (by first | assumption | omega) (by exact Nat.le_of_ble_eq_true rfl) ?_
  refine r_aload_n (i := 0) i_S_init_28 rfl rfl ?_
  refine r_sipush (v := (320 : Int32)) i_S_init_29 (by decide) ?_
  refine r_newa i_S_init_32 (at9 := .long) (t := 1) (len := 320) (x := (320, .inr (.inl (fun _ => 0)))) (Or.inr (Or.inl ⟨rfl, rfl⟩)) rfl (by decide) ⟨rfl, rfl⟩ (by omega) (by omega) (by omega) ?_
  refine r_putfF (ci := 2) (T := Fk2) (k := 3) o_S_init (by decide +kernel) i_S_init_34 x_S_21 rfl (by decide) rfl rfl rfl (ok2 3 (by decide)) (by rfl) (by repeat (first | assumption | exact upw_s | refine (upw_n (by omega)).trans ?_)) (by first | assumption | omega) (by exact Nat.le_of_ble_eq_true rfl) ?_
  refine r_iconst (v := (0 : Int32)) i_S_init_37 rfl ?_
  refine r_istore_1 i_S_init_38 (by rw [l_S_init]; decide) rfl ?_
  exact hloop 8 0 (by omega) _ ⟨(by repeat (first | assumption | exact upw_s | refine (upw_n (by omega)).trans ?_)), by rw [show (fun j : Nat => if j < 0 then (-1 : Int32) else 0) = (fun _ => 0) from funext (fun j => if_neg (by omega))]; repeat (first | assumption | exact upw_s | refine (upw_n (by omega)).trans ?_), (by repeat (first | assumption | exact upw_s | refine (upw_n (by omega)).trans ?_)), (by repeat (first | assumption | exact upw_s | refine (upw_n (by omega)).trans ?_)), (by repeat (first | assumption | exact upw_s | refine (upw_n (by omega)).trans ?_)), by omega⟩ (fun j hj => (by (repeat (refine (upw_n (by omega)).trans ?_)); rfl))
end INIT
