-- TOWN: what it changes
section TOWN2
variable {G : gE} {w : aW} {n t : Nat} {S : aS}
theorem c_T_law0 (hT : TW w t S n) : Fn G 0 y_T_law [.ref t, .int 0] w n (some (.int (S.1 2))) w := by
  obtain ⟨g0, g1, g2, g3, g4, g5, g6, g7, g8, hn⟩ := hT
  refine Fn.of k_T_law l_T_law rfl rfl ?_
  refine r_iload_n (i := 1) i_T_law_0 rfl rfl ?_
  refine r_tableIn 28 i_T_law_1 (by decide) (by decide) (by rfl) (by decide) ?_
  refine r_aload_n (i := 0) i_T_law_28 rfl rfl ?_
  refine r_getf (ci := 1) (T := Fk1) (k := 2) o_T_law i_T_law_29 x_T_18 rfl (by decide) rfl (by repeat (first | assumption | exact upw_s | refine (upw_n (by omega)).trans ?_)) (by first | assumption | omega) (by rfl) ?_
  refine r_ireturn i_T_law_32 t_T_law rfl ?_
  exact ⟨rfl, rfl, rfl⟩
theorem c_T_law1 (hT : TW w t S n) : Fn G 0 y_T_law [.ref t, .int 1] w n (some (.int (S.1 3))) w := by
  obtain ⟨g0, g1, g2, g3, g4, g5, g6, g7, g8, hn⟩ := hT
  refine Fn.of k_T_law l_T_law rfl rfl ?_
  refine r_iload_n (i := 1) i_T_law_0 rfl rfl ?_
  refine r_tableIn 33 i_T_law_1 (by decide) (by decide) (by rfl) (by decide) ?_
  refine r_aload_n (i := 0) i_T_law_33 rfl rfl ?_
  refine r_getf (ci := 1) (T := Fk1) (k := 3) o_T_law i_T_law_34 x_T_21 rfl (by decide) rfl (by repeat (first | assumption | exact upw_s | refine (upw_n (by omega)).trans ?_)) (by first | assumption | omega) (by rfl) ?_
  refine r_ireturn i_T_law_37 t_T_law rfl ?_
  exact ⟨rfl, rfl, rfl⟩
theorem c_T_law2 (hT : TW w t S n) : Fn G 0 y_T_law [.ref t, .int 2] w n (some (.int (S.1 4))) w := by
  obtain ⟨g0, g1, g2, g3, g4, g5, g6, g7, g8, hn⟩ := hT
  refine Fn.of k_T_law l_T_law rfl rfl ?_
  refine r_iload_n (i := 1) i_T_law_0 rfl rfl ?_
  refine r_tableIn 38 i_T_law_1 (by decide) (by decide) (by rfl) (by decide) ?_
  refine r_aload_n (i := 0) i_T_law_38 rfl rfl ?_
  refine r_getf (ci := 1) (T := Fk1) (k := 4) o_T_law i_T_law_39 x_T_24 rfl (by decide) rfl (by repeat (first | assumption | exact upw_s | refine (upw_n (by omega)).trans ?_)) (by first | assumption | omega) (by rfl) ?_
  refine r_ireturn i_T_law_42 t_T_law rfl ?_
  exact ⟨rfl, rfl, rfl⟩
theorem c_T_law3 (hT : TW w t S n) : Fn G 0 y_T_law [.ref t, .int 3] w n (some (.int (S.1 5))) w := by
  obtain ⟨g0, g1, g2, g3, g4, g5, g6, g7, g8, hn⟩ := hT
  refine Fn.of k_T_law l_T_law rfl rfl ?_
  refine r_iload_n (i := 1) i_T_law_0 rfl rfl ?_
  refine r_tableOut 43 i_T_law_1 (by decide) (by decide) ?_
  refine r_aload_n (i := 0) i_T_law_43 rfl rfl ?_
  refine r_getf (ci := 1) (T := Fk1) (k := 5) o_T_law i_T_law_44 x_T_27 rfl (by decide) rfl (by repeat (first | assumption | exact upw_s | refine (upw_n (by omega)).trans ?_)) (by first | assumption | omega) (by rfl) ?_
  refine r_ireturn i_T_law_47 t_T_law rfl ?_
  exact ⟨rfl, rfl, rfl⟩
theorem c_T_law {k : Nat} (hk : k < 4) (hT : TW w t S n) : Fn G 0 y_T_law [.ref t, .int (nI k)] w n (some (.int (S.1 (2 + k)))) w := by
  match k, hk with
  | 0, _ => exact c_T_law0 hT
  | 1, _ => exact c_T_law1 hT
  | 2, _ => exact c_T_law2 hT
  | 3, _ => exact c_T_law3 hT
def mostN (k : Nat) : Int32 := if k = 0 then 99 else if k = 1 then 1 else if k = 2 then 10 else 999
theorem c_T_most0 : Fn G 0 y_T_mostOfLaw [.int 0] w n (some (.int 99)) w := by
  refine Fn.of k_T_mostOfLaw l_T_mostOfLaw rfl rfl ?_
  refine r_iload_n (i := 0) i_T_mostOfLaw_0 rfl rfl ?_
  refine r_tableIn 28 i_T_mostOfLaw_1 (by decide) (by decide) (by rfl) (by decide) ?_
  refine r_bipush (v := (99 : Int32)) i_T_mostOfLaw_28 (by decide) ?_
  refine r_ireturn i_T_mostOfLaw_30 t_T_mostOfLaw rfl ?_
  exact ⟨rfl, rfl, rfl⟩
theorem c_T_most1 : Fn G 0 y_T_mostOfLaw [.int 1] w n (some (.int 1)) w := by
  refine Fn.of k_T_mostOfLaw l_T_mostOfLaw rfl rfl ?_
  refine r_iload_n (i := 0) i_T_mostOfLaw_0 rfl rfl ?_
  refine r_tableIn 31 i_T_mostOfLaw_1 (by decide) (by decide) (by rfl) (by decide) ?_
  refine r_iconst (v := (1 : Int32)) i_T_mostOfLaw_31 rfl ?_
  refine r_ireturn i_T_mostOfLaw_32 t_T_mostOfLaw rfl ?_
  exact ⟨rfl, rfl, rfl⟩
theorem c_T_most2 : Fn G 0 y_T_mostOfLaw [.int 2] w n (some (.int 10)) w := by
  refine Fn.of k_T_mostOfLaw l_T_mostOfLaw rfl rfl ?_
  refine r_iload_n (i := 0) i_T_mostOfLaw_0 rfl rfl ?_
  refine r_tableIn 33 i_T_mostOfLaw_1 (by decide) (by decide) (by rfl) (by decide) ?_
  refine r_bipush (v := (10 : Int32)) i_T_mostOfLaw_33 (by decide) ?_
  refine r_ireturn i_T_mostOfLaw_35 t_T_mostOfLaw rfl ?_
  exact ⟨rfl, rfl, rfl⟩
theorem c_T_most3 : Fn G 0 y_T_mostOfLaw [.int 3] w n (some (.int 999)) w := by
  refine Fn.of k_T_mostOfLaw l_T_mostOfLaw rfl rfl ?_
  refine r_iload_n (i := 0) i_T_mostOfLaw_0 rfl rfl ?_
  refine r_tableOut 36 i_T_mostOfLaw_1 (by decide) (by decide) ?_
  refine r_sipush (v := (999 : Int32)) i_T_mostOfLaw_36 (by decide) ?_
  refine r_ireturn i_T_mostOfLaw_39 t_T_mostOfLaw rfl ?_
  exact ⟨rfl, rfl, rfl⟩
theorem c_T_mostOfLaw {k : Nat} (hk : k < 4) : Fn G 0 y_T_mostOfLaw [.int (nI k)] w n (some (.int (mostN k))) w := by
  match k, hk with
  | 0, _ => exact c_T_most0
  | 1, _ => exact c_T_most1
  | 2, _ => exact c_T_most2
  | 3, _ => exact c_T_most3
theorem c_T_putLaw0 {v : Int32} (hT : TW w t S n) : Tm G 0 y_T_putLaw [.ref t, .int 0, .int v] w n none t (upS S 2 v) := by
  obtain ⟨g0, g1, g2, g3, g4, g5, g6, g7, g8, hn⟩ := hT
  refine Tm.of k_T_putLaw l_T_putLaw rfl rfl ?_
  refine r_iload_n (i := 1) i_T_putLaw_0 rfl rfl ?_
  refine r_tableIn 28 i_T_putLaw_1 (by decide) (by decide) (by rfl) (by decide) ?_
  refine r_aload_n (i := 0) i_T_putLaw_28 rfl rfl ?_
  refine r_iload_n (i := 2) i_T_putLaw_29 rfl rfl ?_
  refine r_putf (ci := 1) (T := Fk1) (k := 2) o_T_putLaw i_T_putLaw_30 x_T_18 rfl (by decide) rfl rfl (ok1 2 (by decide)) rfl (by repeat (first | assumption | exact upw_s | refine (upw_n (by omega)).trans ?_)) (by first | assumption | omega) (by exact Nat.le_of_ble_eq_true rfl) ?_
  refine r_goto 57 i_T_putLaw_33 (by decide) ?_
  refine r_return i_T_putLaw_57 t_T_putLaw ?_
  exact ⟨rfl, ⟨⟨(by repeat (first | assumption | exact upw_s | refine (upw_n (by omega)).trans ?_)), (by repeat (first | assumption | exact upw_s | refine (upw_n (by omega)).trans ?_)), (by repeat (first | assumption | exact upw_s | refine (upw_n (by omega)).trans ?_)), (by repeat (first | assumption | exact upw_s | refine (upw_n (by omega)).trans ?_)), (by repeat (first | assumption | exact upw_s | refine (upw_n (by omega)).trans ?_)), (by repeat (first | assumption | exact upw_s | refine (upw_n (by omega)).trans ?_)), (by repeat (first | assumption | exact upw_s | refine (upw_n (by omega)).trans ?_)), (by repeat (first | assumption | exact upw_s | refine (upw_n (by omega)).trans ?_)), (by repeat (first | assumption | exact upw_s | refine (upw_n (by omega)).trans ?_)), hn⟩, fun k hk => (by (repeat (refine (upw_n (by omega)).trans ?_)); rfl)⟩, rfl⟩
theorem c_T_putLaw1 {v : Int32} (hT : TW w t S n) : Tm G 0 y_T_putLaw [.ref t, .int 1, .int v] w n none t (upS S 3 v) := by
  obtain ⟨g0, g1, g2, g3, g4, g5, g6, g7, g8, hn⟩ := hT
  refine Tm.of k_T_putLaw l_T_putLaw rfl rfl ?_
  refine r_iload_n (i := 1) i_T_putLaw_0 rfl rfl ?_
  refine r_tableIn 36 i_T_putLaw_1 (by decide) (by decide) (by rfl) (by decide) ?_
  refine r_aload_n (i := 0) i_T_putLaw_36 rfl rfl ?_
  refine r_iload_n (i := 2) i_T_putLaw_37 rfl rfl ?_
  refine r_putf (ci := 1) (T := Fk1) (k := 3) o_T_putLaw i_T_putLaw_38 x_T_21 rfl (by decide) rfl rfl (ok1 3 (by decide)) rfl (by repeat (first | assumption | exact upw_s | refine (upw_n (by omega)).trans ?_)) (by first | assumption | omega) (by exact Nat.le_of_ble_eq_true rfl) ?_
  refine r_goto 57 i_T_putLaw_41 (by decide) ?_
  refine r_return i_T_putLaw_57 t_T_putLaw ?_
  exact ⟨rfl, ⟨⟨(by repeat (first | assumption | exact upw_s | refine (upw_n (by omega)).trans ?_)), (by repeat (first | assumption | exact upw_s | refine (upw_n (by omega)).trans ?_)), (by repeat (first | assumption | exact upw_s | refine (upw_n (by omega)).trans ?_)), (by repeat (first | assumption | exact upw_s | refine (upw_n (by omega)).trans ?_)), (by repeat (first | assumption | exact upw_s | refine (upw_n (by omega)).trans ?_)), (by repeat (first | assumption | exact upw_s | refine (upw_n (by omega)).trans ?_)), (by repeat (first | assumption | exact upw_s | refine (upw_n (by omega)).trans ?_)), (by repeat (first | assumption | exact upw_s | refine (upw_n (by omega)).trans ?_)), (by repeat (first | assumption | exact upw_s | refine (upw_n (by omega)).trans ?_)), hn⟩, fun k hk => (by (repeat (refine (upw_n (by omega)).trans ?_)); rfl)⟩, rfl⟩
theorem c_T_putLaw2 {v : Int32} (hT : TW w t S n) : Tm G 0 y_T_putLaw [.ref t, .int 2, .int v] w n none t (upS S 4 v) := by
  obtain ⟨g0, g1, g2, g3, g4, g5, g6, g7, g8, hn⟩ := hT
  refine Tm.of k_T_putLaw l_T_putLaw rfl rfl ?_
  refine r_iload_n (i := 1) i_T_putLaw_0 rfl rfl ?_
  refine r_tableIn 44 i_T_putLaw_1 (by decide) (by decide) (by rfl) (by decide) ?_
  refine r_aload_n (i := 0) i_T_putLaw_44 rfl rfl ?_
  refine r_iload_n (i := 2) i_T_putLaw_45 rfl rfl ?_
  refine r_putf (ci := 1) (T := Fk1) (k := 4) o_T_putLaw i_T_putLaw_46 x_T_24 rfl (by decide) rfl rfl (ok1 4 (by decide)) rfl (by repeat (first | assumption | exact upw_s | refine (upw_n (by omega)).trans ?_)) (by first | assumption | omega) (by exact Nat.le_of_ble_eq_true rfl) ?_
  refine r_goto 57 i_T_putLaw_49 (by decide) ?_
  refine r_return i_T_putLaw_57 t_T_putLaw ?_
  exact ⟨rfl, ⟨⟨(by repeat (first | assumption | exact upw_s | refine (upw_n (by omega)).trans ?_)), (by repeat (first | assumption | exact upw_s | refine (upw_n (by omega)).trans ?_)), (by repeat (first | assumption | exact upw_s | refine (upw_n (by omega)).trans ?_)), (by repeat (first | assumption | exact upw_s | refine (upw_n (by omega)).trans ?_)), (by repeat (first | assumption | exact upw_s | refine (upw_n (by omega)).trans ?_)), (by repeat (first | assumption | exact upw_s | refine (upw_n (by omega)).trans ?_)), (by repeat (first | assumption | exact upw_s | refine (upw_n (by omega)).trans ?_)), (by repeat (first | assumption | exact upw_s | refine (upw_n (by omega)).trans ?_)), (by repeat (first | assumption | exact upw_s | refine (upw_n (by omega)).trans ?_)), hn⟩, fun k hk => (by (repeat (refine (upw_n (by omega)).trans ?_)); rfl)⟩, rfl⟩
theorem c_T_putLaw3 {v : Int32} (hT : TW w t S n) : Tm G 0 y_T_putLaw [.ref t, .int 3, .int v] w n none t (upS S 5 v) := by
  obtain ⟨g0, g1, g2, g3, g4, g5, g6, g7, g8, hn⟩ := hT
  refine Tm.of k_T_putLaw l_T_putLaw rfl rfl ?_
  refine r_iload_n (i := 1) i_T_putLaw_0 rfl rfl ?_
  refine r_tableOut 52 i_T_putLaw_1 (by decide) (by decide) ?_
  refine r_aload_n (i := 0) i_T_putLaw_52 rfl rfl ?_
  refine r_iload_n (i := 2) i_T_putLaw_53 rfl rfl ?_
  refine r_putf (ci := 1) (T := Fk1) (k := 5) o_T_putLaw i_T_putLaw_54 x_T_27 rfl (by decide) rfl rfl (ok1 5 (by decide)) rfl (by repeat (first | assumption | exact upw_s | refine (upw_n (by omega)).trans ?_)) (by first | assumption | omega) (by exact Nat.le_of_ble_eq_true rfl) ?_
  refine r_return i_T_putLaw_57 t_T_putLaw ?_
  exact ⟨rfl, ⟨⟨(by repeat (first | assumption | exact upw_s | refine (upw_n (by omega)).trans ?_)), (by repeat (first | assumption | exact upw_s | refine (upw_n (by omega)).trans ?_)), (by repeat (first | assumption | exact upw_s | refine (upw_n (by omega)).trans ?_)), (by repeat (first | assumption | exact upw_s | refine (upw_n (by omega)).trans ?_)), (by repeat (first | assumption | exact upw_s | refine (upw_n (by omega)).trans ?_)), (by repeat (first | assumption | exact upw_s | refine (upw_n (by omega)).trans ?_)), (by repeat (first | assumption | exact upw_s | refine (upw_n (by omega)).trans ?_)), (by repeat (first | assumption | exact upw_s | refine (upw_n (by omega)).trans ?_)), (by repeat (first | assumption | exact upw_s | refine (upw_n (by omega)).trans ?_)), hn⟩, fun k hk => (by (repeat (refine (upw_n (by omega)).trans ?_)); rfl)⟩, rfl⟩
theorem c_T_putLaw {k : Nat} {v : Int32} (hk : k < 4) (hT : TW w t S n) : Tm G 0 y_T_putLaw [.ref t, .int (nI k), .int v] w n none t (upS S (2 + k) v) := by
  match k, hk with
  | 0, _ => exact c_T_putLaw0 hT
  | 1, _ => exact c_T_putLaw1 hT
  | 2, _ => exact c_T_putLaw2 hT
  | 3, _ => exact c_T_putLaw3 hT
theorem c_T_addPerson (hT : TW w t S n) : Tm G 0 y_T_addPerson [.ref t] w n (some (.int (S.1 0 + 1 - 1))) t (upS S 0 (S.1 0 + 1)) := by
  obtain ⟨g0, g1, g2, g3, g4, g5, g6, g7, g8, hn⟩ := hT
  refine Tm.of k_T_addPerson l_T_addPerson rfl rfl ?_
  refine r_aload_n (i := 0) i_T_addPerson_0 rfl rfl ?_
  refine r_dup i_T_addPerson_1 rfl ?_
  refine r_getf (ci := 1) (T := Fk1) (k := 0) o_T_addPerson i_T_addPerson_2 x_T_9 rfl (by decide) rfl (by repeat (first | assumption | exact upw_s | refine (upw_n (by omega)).trans ?_)) (by first | assumption | omega) (by rfl) ?_
  refine r_iconst (v := (1 : Int32)) i_T_addPerson_5 rfl ?_
  refine r_iadd i_T_addPerson_6 ?_
  refine r_putf (ci := 1) (T := Fk1) (k := 0) o_T_addPerson i_T_addPerson_7 x_T_9 rfl (by decide) rfl rfl (ok1 0 (by decide)) rfl (by repeat (first | assumption | exact upw_s | refine (upw_n (by omega)).trans ?_)) (by first | assumption | omega) (by exact Nat.le_of_ble_eq_true rfl) ?_
  refine r_aload_n (i := 0) i_T_addPerson_10 rfl rfl ?_
  refine r_getf (ci := 1) (T := Fk1) (k := 0) o_T_addPerson i_T_addPerson_11 x_T_9 rfl (by decide) rfl (by repeat (first | assumption | exact upw_s | refine (upw_n (by omega)).trans ?_)) (by first | assumption | omega) (by rfl) ?_
  refine r_iconst (v := (1 : Int32)) i_T_addPerson_14 rfl ?_
  refine r_isub i_T_addPerson_15 ?_
  refine r_ireturn i_T_addPerson_16 t_T_addPerson rfl ?_
  exact ⟨rfl, ⟨⟨(by repeat (first | assumption | exact upw_s | refine (upw_n (by omega)).trans ?_)), (by repeat (first | assumption | exact upw_s | refine (upw_n (by omega)).trans ?_)), (by repeat (first | assumption | exact upw_s | refine (upw_n (by omega)).trans ?_)), (by repeat (first | assumption | exact upw_s | refine (upw_n (by omega)).trans ?_)), (by repeat (first | assumption | exact upw_s | refine (upw_n (by omega)).trans ?_)), (by repeat (first | assumption | exact upw_s | refine (upw_n (by omega)).trans ?_)), (by repeat (first | assumption | exact upw_s | refine (upw_n (by omega)).trans ?_)), (by repeat (first | assumption | exact upw_s | refine (upw_n (by omega)).trans ?_)), (by repeat (first | assumption | exact upw_s | refine (upw_n (by omega)).trans ?_)), hn⟩, fun k hk => (by (repeat (refine (upw_n (by omega)).trans ?_)); rfl)⟩, rfl⟩
theorem c_T_putLoss {b i : Nat} {v : Int32} (hT : TW w t S n) (hb : b < 7) (hi : i < 7) : Tm G 1 y_T_putLoss [.ref t, .int (nI b), .int (nI i), .int v] w n none t (upA S 7 (upd (S.2 7) (7 * b + i) v)) := by
  obtain ⟨g0, g1, g2, g3, g4, g5, g6, g7, g8, hn⟩ := hT
  refine Tm.of k_T_putLoss l_T_putLoss rfl rfl ?_
  refine r_aload_n (i := 0) i_T_putLoss_0 rfl rfl ?_
  refine r_getf (ci := 1) (T := Fk1) (k := 16) o_T_putLoss i_T_putLoss_1 x_T_61 rfl (by decide) rfl (by repeat (first | assumption | exact upw_s | refine (upw_n (by omega)).trans ?_)) (by first | assumption | omega) (by rfl) ?_
  refine r_iload_n (i := 1) i_T_putLoss_4 rfl rfl ?_
  refine r_bipush (v := (7 : Int32)) i_T_putLoss_5 (by decide) ?_
  refine r_imul i_T_putLoss_7 ?_
  refine r_iload_n (i := 2) i_T_putLoss_8 rfl rfl ?_
  refine r_iadd i_T_putLoss_9 ?_
  rw [ix7]
  refine r_iload_n (i := 3) i_T_putLoss_10 rfl rfl ?_
  refine f_staticN o_T_putLoss k_N_put s_N_put x_T_79 i_T_putLoss_11 (c_N_put (by repeat (first | assumption | exact upw_s | refine (upw_n (by omega)).trans ?_)) (by omega) (by decide)) rfl rfl (by decide) (Nat.le_of_ble_eq_true rfl) ?_
  rw [puI_in (by omega) (by decide)]
  refine r_return i_T_putLoss_14 t_T_putLoss ?_
  exact ⟨rfl, ⟨⟨(by repeat (first | assumption | exact upw_s | refine (upw_n (by omega)).trans ?_)), (by repeat (first | assumption | exact upw_s | refine (upw_n (by omega)).trans ?_)), (by repeat (first | assumption | exact upw_s | refine (upw_n (by omega)).trans ?_)), (by repeat (first | assumption | exact upw_s | refine (upw_n (by omega)).trans ?_)), (by repeat (first | assumption | exact upw_s | refine (upw_n (by omega)).trans ?_)), (by repeat (first | assumption | exact upw_s | refine (upw_n (by omega)).trans ?_)), (by repeat (first | assumption | exact upw_s | refine (upw_n (by omega)).trans ?_)), (by repeat (first | assumption | exact upw_s | refine (upw_n (by omega)).trans ?_)), (by repeat (first | assumption | exact upw_s | refine (upw_n (by omega)).trans ?_)), hn⟩, fun k hk => (by (repeat (refine (upw_n (by omega)).trans ?_)); rfl)⟩, rfl⟩
def addB (S : aS) (B : Nat) (p q g h : Int32) : aS := upS (upA (upA (upA (upA S 2 (upd (S.2 2) B p)) 3 (upd (S.2 3) B q)) 4 (upd (S.2 4) B g)) 5 (upd (S.2 5) B h)) 1 (S.1 1 + 1)
theorem c_T_addBargain {B : Nat} {p q g h : Int32} (hT : TW w t S n) (hB : S.1 1 = nI B) (hB7 : B < 7) : Tm G 1 y_T_addBargain [.ref t, .int p, .int q, .int g, .int h] w n (some (.int (nI B))) t (addB S B p q g h) := by
  obtain ⟨g0, g1, g2, g3, g4, g5, g6, g7, g8, hn⟩ := hT
  refine Tm.of k_T_addBargain l_T_addBargain rfl rfl ?_
  refine r_aload_n (i := 0) i_T_addBargain_0 rfl rfl ?_
  refine r_getf (ci := 1) (T := Fk1) (k := 1) o_T_addBargain i_T_addBargain_1 x_T_15 rfl (by decide) rfl (by repeat (first | assumption | exact upw_s | refine (upw_n (by omega)).trans ?_)) (by first | assumption | omega) (by rfl) ?_
  rw [hB]
  refine r_istore_5 i_T_addBargain_4 (by rw [l_T_addBargain]; decide) rfl ?_
  refine r_aload_n (i := 0) i_T_addBargain_6 rfl rfl ?_
  refine r_getf (ci := 1) (T := Fk1) (k := 11) o_T_addBargain i_T_addBargain_7 x_T_46 rfl (by decide) rfl (by repeat (first | assumption | exact upw_s | refine (upw_n (by omega)).trans ?_)) (by first | assumption | omega) (by rfl) ?_
  refine r_iload (i := 5) i_T_addBargain_10 rfl ?_
  refine r_iload_n (i := 1) i_T_addBargain_12 rfl rfl ?_
  refine f_staticN o_T_addBargain k_N_put s_N_put x_T_79 i_T_addBargain_13 (c_N_put (by repeat (first | assumption | exact upw_s | refine (upw_n (by omega)).trans ?_)) (by omega) (by decide)) rfl rfl (by decide) (Nat.le_of_ble_eq_true rfl) ?_
  rw [puI_in hB7 (by decide)]
  refine r_aload_n (i := 0) i_T_addBargain_16 rfl rfl ?_
  refine r_getf (ci := 1) (T := Fk1) (k := 12) o_T_addBargain i_T_addBargain_17 x_T_49 rfl (by decide) rfl (by repeat (first | assumption | exact upw_s | refine (upw_n (by omega)).trans ?_)) (by first | assumption | omega) (by rfl) ?_
  refine r_iload (i := 5) i_T_addBargain_20 rfl ?_
  refine r_iload_n (i := 2) i_T_addBargain_22 rfl rfl ?_
  refine f_staticN o_T_addBargain k_N_put s_N_put x_T_79 i_T_addBargain_23 (c_N_put (by repeat (first | assumption | exact upw_s | refine (upw_n (by omega)).trans ?_)) (by omega) (by decide)) rfl rfl (by decide) (Nat.le_of_ble_eq_true rfl) ?_
  rw [puI_in hB7 (by decide)]
  refine r_aload_n (i := 0) i_T_addBargain_26 rfl rfl ?_
  refine r_getf (ci := 1) (T := Fk1) (k := 13) o_T_addBargain i_T_addBargain_27 x_T_52 rfl (by decide) rfl (by repeat (first | assumption | exact upw_s | refine (upw_n (by omega)).trans ?_)) (by first | assumption | omega) (by rfl) ?_
  refine r_iload (i := 5) i_T_addBargain_30 rfl ?_
  refine r_iload_n (i := 3) i_T_addBargain_32 rfl rfl ?_
  refine f_staticN o_T_addBargain k_N_put s_N_put x_T_79 i_T_addBargain_33 (c_N_put (by repeat (first | assumption | exact upw_s | refine (upw_n (by omega)).trans ?_)) (by omega) (by decide)) rfl rfl (by decide) (Nat.le_of_ble_eq_true rfl) ?_
  rw [puI_in hB7 (by decide)]
  refine r_aload_n (i := 0) i_T_addBargain_36 rfl rfl ?_
  refine r_getf (ci := 1) (T := Fk1) (k := 14) o_T_addBargain i_T_addBargain_37 x_T_55 rfl (by decide) rfl (by repeat (first | assumption | exact upw_s | refine (upw_n (by omega)).trans ?_)) (by first | assumption | omega) (by rfl) ?_
  refine r_iload (i := 5) i_T_addBargain_40 rfl ?_
  refine r_iload (i := 4) i_T_addBargain_42 rfl ?_
  refine f_staticN o_T_addBargain k_N_put s_N_put x_T_79 i_T_addBargain_44 (c_N_put (by repeat (first | assumption | exact upw_s | refine (upw_n (by omega)).trans ?_)) (by omega) (by decide)) rfl rfl (by decide) (Nat.le_of_ble_eq_true rfl) ?_
  rw [puI_in hB7 (by decide)]
  refine r_aload_n (i := 0) i_T_addBargain_47 rfl rfl ?_
  refine r_dup i_T_addBargain_48 rfl ?_
  refine r_getf (ci := 1) (T := Fk1) (k := 1) o_T_addBargain i_T_addBargain_49 x_T_15 rfl (by decide) rfl (by repeat (first | assumption | exact upw_s | refine (upw_n (by omega)).trans ?_)) (by first | assumption | omega) (by rfl) ?_
  refine r_iconst (v := (1 : Int32)) i_T_addBargain_52 rfl ?_
  refine r_iadd i_T_addBargain_53 ?_
  refine r_putf (ci := 1) (T := Fk1) (k := 1) o_T_addBargain i_T_addBargain_54 x_T_15 rfl (by decide) rfl rfl (ok1 1 (by decide)) rfl (by repeat (first | assumption | exact upw_s | refine (upw_n (by omega)).trans ?_)) (by first | assumption | omega) (by exact Nat.le_of_ble_eq_true rfl) ?_
  refine r_iload (i := 5) i_T_addBargain_57 rfl ?_
  refine r_ireturn i_T_addBargain_59 t_T_addBargain rfl ?_
  exact ⟨rfl, ⟨⟨(by repeat (first | assumption | exact upw_s | refine (upw_n (by omega)).trans ?_)), (by repeat (first | assumption | exact upw_s | refine (upw_n (by omega)).trans ?_)), (by repeat (first | assumption | exact upw_s | refine (upw_n (by omega)).trans ?_)), (by repeat (first | assumption | exact upw_s | refine (upw_n (by omega)).trans ?_)), (by repeat (first | assumption | exact upw_s | refine (upw_n (by omega)).trans ?_)), (by repeat (first | assumption | exact upw_s | refine (upw_n (by omega)).trans ?_)), (by repeat (first | assumption | exact upw_s | refine (upw_n (by omega)).trans ?_)), (by repeat (first | assumption | exact upw_s | refine (upw_n (by omega)).trans ?_)), (by repeat (first | assumption | exact upw_s | refine (upw_n (by omega)).trans ?_)), hn⟩, fun k hk => (by (repeat (refine (upw_n (by omega)).trans ?_)); rfl)⟩, rfl⟩
def putB (S : aS) (b c : Nat) (is : Int32) : aS := upA S 6 (upd (upd (S.2 6) b (wbit (S.2 6 b) (nI c) is)) c (wbit (upd (S.2 6) b (wbit (S.2 6 b) (nI c) is) c) (nI b) is))
theorem TW.barr {f : Nat → Int32} (hT : TW w t S n) : TW (upw w (t + 7) (ai 7 f)) t (upA S 6 f) n := by
  obtain ⟨g0, g1, g2, g3, g4, g5, g6, g7, g8, hn⟩ := hT
  exact ⟨(by repeat (first | assumption | exact upw_s | refine (upw_n (by omega)).trans ?_)), (by repeat (first | assumption | exact upw_s | refine (upw_n (by omega)).trans ?_)), (by repeat (first | assumption | exact upw_s | refine (upw_n (by omega)).trans ?_)), (by repeat (first | assumption | exact upw_s | refine (upw_n (by omega)).trans ?_)), (by repeat (first | assumption | exact upw_s | refine (upw_n (by omega)).trans ?_)), (by repeat (first | assumption | exact upw_s | refine (upw_n (by omega)).trans ?_)), (by repeat (first | assumption | exact upw_s | refine (upw_n (by omega)).trans ?_)), (by repeat (first | assumption | exact upw_s | refine (upw_n (by omega)).trans ?_)), (by repeat (first | assumption | exact upw_s | refine (upw_n (by omega)).trans ?_)), hn⟩
theorem c_T_putBar {b c : Nat} {is : Int32} (hT : TW w t S n) (hb : b < 7) (hc : c < 7) : Tm G 2 y_T_putBar [.ref t, .int (nI b), .int (nI c), .int is] w n none t (putB S b c is) := by
  have hT0 := hT
  obtain ⟨g0, g1, g2, g3, g4, g5, g6, g7, g8, hn⟩ := hT
  refine Tm.of k_T_putBar l_T_putBar rfl rfl ?_
  refine r_aload_n (i := 0) i_T_putBar_0 rfl rfl ?_
  refine r_getf (ci := 1) (T := Fk1) (k := 15) o_T_putBar i_T_putBar_1 x_T_58 rfl (by decide) rfl (by repeat (first | assumption | exact upw_s | refine (upw_n (by omega)).trans ?_)) (by first | assumption | omega) (by rfl) ?_
  refine r_iload_n (i := 1) i_T_putBar_4 rfl rfl ?_
  refine r_aload_n (i := 0) i_T_putBar_5 rfl rfl ?_
  refine r_iload_n (i := 1) i_T_putBar_6 rfl rfl ?_
  refine f_virtual o_T_putBar k_T_barredBy v_T_barredBy x_T_83 i_T_putBar_7 o_T_barredBy (c_T_barredBy hT0 hb) rfl (rcv_ob (by repeat (first | assumption | exact upw_s | refine (upw_n (by omega)).trans ?_)) rfl (by first | assumption | omega)) rfl (by decide) (Nat.le_of_ble_eq_true rfl) ?_
  refine r_iload_n (i := 2) i_T_putBar_10 rfl rfl ?_
  refine r_iload_n (i := 3) i_T_putBar_11 rfl rfl ?_
  refine f_static o_T_putBar k_T_withBit s_T_withBit x_T_87 i_T_putBar_12 (c_T_withBit) rfl rfl (by decide) (Nat.le_of_ble_eq_true rfl) ?_
  refine f_staticN o_T_putBar k_N_put s_N_put x_T_79 i_T_putBar_15 (c_N_put (by repeat (first | assumption | exact upw_s | refine (upw_n (by omega)).trans ?_)) (by omega) (by decide)) rfl rfl (by decide) (Nat.le_of_ble_eq_true rfl) ?_
  rw [puI_in hb (by decide)]
  refine r_aload_n (i := 0) i_T_putBar_18 rfl rfl ?_
  refine r_getf (ci := 1) (T := Fk1) (k := 15) o_T_putBar i_T_putBar_19 x_T_58 rfl (by decide) rfl (by repeat (first | assumption | exact upw_s | refine (upw_n (by omega)).trans ?_)) (by first | assumption | omega) (by rfl) ?_
  refine r_iload_n (i := 2) i_T_putBar_22 rfl rfl ?_
  refine r_aload_n (i := 0) i_T_putBar_23 rfl rfl ?_
  refine r_iload_n (i := 2) i_T_putBar_24 rfl rfl ?_
  refine f_virtual o_T_putBar k_T_barredBy v_T_barredBy x_T_83 i_T_putBar_25 o_T_barredBy (c_T_barredBy hT0.barr hc) rfl (rcv_ob (by repeat (first | assumption | exact upw_s | refine (upw_n (by omega)).trans ?_)) rfl (by first | assumption | omega)) rfl (by decide) (Nat.le_of_ble_eq_true rfl) ?_
  refine r_iload_n (i := 1) i_T_putBar_28 rfl rfl ?_
  refine r_iload_n (i := 3) i_T_putBar_29 rfl rfl ?_
  refine f_static o_T_putBar k_T_withBit s_T_withBit x_T_87 i_T_putBar_30 (c_T_withBit) rfl rfl (by decide) (Nat.le_of_ble_eq_true rfl) ?_
  refine f_staticN o_T_putBar k_N_put s_N_put x_T_79 i_T_putBar_33 (c_N_put (by repeat (first | assumption | exact upw_s | refine (upw_n (by omega)).trans ?_)) (by omega) (by decide)) rfl rfl (by decide) (Nat.le_of_ble_eq_true rfl) ?_
  rw [puI_in hc (by decide)]
  refine r_return i_T_putBar_36 t_T_putBar ?_
  exact ⟨rfl, ⟨⟨(by repeat (first | assumption | exact upw_s | refine (upw_n (by omega)).trans ?_)), (by repeat (first | assumption | exact upw_s | refine (upw_n (by omega)).trans ?_)), (by repeat (first | assumption | exact upw_s | refine (upw_n (by omega)).trans ?_)), (by repeat (first | assumption | exact upw_s | refine (upw_n (by omega)).trans ?_)), (by repeat (first | assumption | exact upw_s | refine (upw_n (by omega)).trans ?_)), (by repeat (first | assumption | exact upw_s | refine (upw_n (by omega)).trans ?_)), (by repeat (first | assumption | exact upw_s | refine (upw_n (by omega)).trans ?_)), (by repeat (first | assumption | exact upw_s | refine (upw_n (by omega)).trans ?_)), (by repeat (first | assumption | exact upw_s | refine (upw_n (by omega)).trans ?_)), hn⟩, fun k hk => (by (repeat (refine (upw_n (by omega)).trans ?_)); rfl)⟩, rfl⟩
theorem c_T_become {t2 : Nat} {S2 : aS} (hT : TW w t S n) (hU : TW w t2 S2 n) (hd : t + 8 < t2 ∨ t2 + 8 < t) : Tm G 1 y_T_become [.ref t, .ref t2] w n none t S2 := by
  obtain ⟨g0, g1, g2, g3, g4, g5, g6, g7, g8, hn⟩ := hT
  obtain ⟨e0, e1, e2, e3, e4, e5, e6, e7, e8, hm⟩ := hU
  refine Tm.of k_T_become l_T_become rfl rfl ?_
  refine r_aload_n (i := 0) i_T_become_0 rfl rfl ?_
  refine r_aload_n (i := 1) i_T_become_1 rfl rfl ?_
  refine r_getf (ci := 1) (T := Fk1) (k := 0) o_T_become i_T_become_2 x_T_9 rfl (by decide) rfl (by repeat (first | assumption | exact upw_s | refine (upw_n (by omega)).trans ?_)) (by first | assumption | omega) (by rfl) ?_
  refine r_putf (ci := 1) (T := Fk1) (k := 0) o_T_become i_T_become_5 x_T_9 rfl (by decide) rfl rfl (ok1 0 (by decide)) rfl (by repeat (first | assumption | exact upw_s | refine (upw_n (by omega)).trans ?_)) (by first | assumption | omega) (by exact Nat.le_of_ble_eq_true rfl) ?_
  refine r_aload_n (i := 0) i_T_become_8 rfl rfl ?_
  refine r_aload_n (i := 1) i_T_become_9 rfl rfl ?_
  refine r_getf (ci := 1) (T := Fk1) (k := 1) o_T_become i_T_become_10 x_T_15 rfl (by decide) rfl (by repeat (first | assumption | exact upw_s | refine (upw_n (by omega)).trans ?_)) (by first | assumption | omega) (by rfl) ?_
  refine r_putf (ci := 1) (T := Fk1) (k := 1) o_T_become i_T_become_13 x_T_15 rfl (by decide) rfl rfl (ok1 1 (by decide)) rfl (by repeat (first | assumption | exact upw_s | refine (upw_n (by omega)).trans ?_)) (by first | assumption | omega) (by exact Nat.le_of_ble_eq_true rfl) ?_
  refine r_aload_n (i := 0) i_T_become_16 rfl rfl ?_
  refine r_aload_n (i := 1) i_T_become_17 rfl rfl ?_
  refine r_getf (ci := 1) (T := Fk1) (k := 2) o_T_become i_T_become_18 x_T_18 rfl (by decide) rfl (by repeat (first | assumption | exact upw_s | refine (upw_n (by omega)).trans ?_)) (by first | assumption | omega) (by rfl) ?_
  refine r_putf (ci := 1) (T := Fk1) (k := 2) o_T_become i_T_become_21 x_T_18 rfl (by decide) rfl rfl (ok1 2 (by decide)) rfl (by repeat (first | assumption | exact upw_s | refine (upw_n (by omega)).trans ?_)) (by first | assumption | omega) (by exact Nat.le_of_ble_eq_true rfl) ?_
  refine r_aload_n (i := 0) i_T_become_24 rfl rfl ?_
  refine r_aload_n (i := 1) i_T_become_25 rfl rfl ?_
  refine r_getf (ci := 1) (T := Fk1) (k := 3) o_T_become i_T_become_26 x_T_21 rfl (by decide) rfl (by repeat (first | assumption | exact upw_s | refine (upw_n (by omega)).trans ?_)) (by first | assumption | omega) (by rfl) ?_
  refine r_putf (ci := 1) (T := Fk1) (k := 3) o_T_become i_T_become_29 x_T_21 rfl (by decide) rfl rfl (ok1 3 (by decide)) rfl (by repeat (first | assumption | exact upw_s | refine (upw_n (by omega)).trans ?_)) (by first | assumption | omega) (by exact Nat.le_of_ble_eq_true rfl) ?_
  refine r_aload_n (i := 0) i_T_become_32 rfl rfl ?_
  refine r_aload_n (i := 1) i_T_become_33 rfl rfl ?_
  refine r_getf (ci := 1) (T := Fk1) (k := 4) o_T_become i_T_become_34 x_T_24 rfl (by decide) rfl (by repeat (first | assumption | exact upw_s | refine (upw_n (by omega)).trans ?_)) (by first | assumption | omega) (by rfl) ?_
  refine r_putf (ci := 1) (T := Fk1) (k := 4) o_T_become i_T_become_37 x_T_24 rfl (by decide) rfl rfl (ok1 4 (by decide)) rfl (by repeat (first | assumption | exact upw_s | refine (upw_n (by omega)).trans ?_)) (by first | assumption | omega) (by exact Nat.le_of_ble_eq_true rfl) ?_
  refine r_aload_n (i := 0) i_T_become_40 rfl rfl ?_
  refine r_aload_n (i := 1) i_T_become_41 rfl rfl ?_
  refine r_getf (ci := 1) (T := Fk1) (k := 5) o_T_become i_T_become_42 x_T_27 rfl (by decide) rfl (by repeat (first | assumption | exact upw_s | refine (upw_n (by omega)).trans ?_)) (by first | assumption | omega) (by rfl) ?_
  refine r_putf (ci := 1) (T := Fk1) (k := 5) o_T_become i_T_become_45 x_T_27 rfl (by decide) rfl rfl (ok1 5 (by decide)) rfl (by repeat (first | assumption | exact upw_s | refine (upw_n (by omega)).trans ?_)) (by first | assumption | omega) (by exact Nat.le_of_ble_eq_true rfl) ?_
  refine r_aload_n (i := 0) i_T_become_48 rfl rfl ?_
  refine r_aload_n (i := 1) i_T_become_49 rfl rfl ?_
  refine r_getf (ci := 1) (T := Fk1) (k := 6) o_T_become i_T_become_50 x_T_30 rfl (by decide) rfl (by repeat (first | assumption | exact upw_s | refine (upw_n (by omega)).trans ?_)) (by first | assumption | omega) (by rfl) ?_
  refine r_putf (ci := 1) (T := Fk1) (k := 6) o_T_become i_T_become_53 x_T_30 rfl (by decide) rfl rfl (ok1 6 (by decide)) rfl (by repeat (first | assumption | exact upw_s | refine (upw_n (by omega)).trans ?_)) (by first | assumption | omega) (by exact Nat.le_of_ble_eq_true rfl) ?_
  refine r_aload_n (i := 0) i_T_become_56 rfl rfl ?_
  refine r_aload_n (i := 1) i_T_become_57 rfl rfl ?_
  refine r_getf (ci := 1) (T := Fk1) (k := 7) o_T_become i_T_become_58 x_T_33 rfl (by decide) rfl (by repeat (first | assumption | exact upw_s | refine (upw_n (by omega)).trans ?_)) (by first | assumption | omega) (by rfl) ?_
  refine r_putf (ci := 1) (T := Fk1) (k := 7) o_T_become i_T_become_61 x_T_33 rfl (by decide) rfl rfl (ok1 7 (by decide)) rfl (by repeat (first | assumption | exact upw_s | refine (upw_n (by omega)).trans ?_)) (by first | assumption | omega) (by exact Nat.le_of_ble_eq_true rfl) ?_
  refine r_aload_n (i := 0) i_T_become_64 rfl rfl ?_
  refine r_aload_n (i := 1) i_T_become_65 rfl rfl ?_
  refine r_getf (ci := 1) (T := Fk1) (k := 8) o_T_become i_T_become_66 x_T_36 rfl (by decide) rfl (by repeat (first | assumption | exact upw_s | refine (upw_n (by omega)).trans ?_)) (by first | assumption | omega) (by rfl) ?_
  refine r_putf (ci := 1) (T := Fk1) (k := 8) o_T_become i_T_become_69 x_T_36 rfl (by decide) rfl rfl (ok1 8 (by decide)) rfl (by repeat (first | assumption | exact upw_s | refine (upw_n (by omega)).trans ?_)) (by first | assumption | omega) (by exact Nat.le_of_ble_eq_true rfl) ?_
  refine r_aload_n (i := 1) i_T_become_72 rfl rfl ?_
  refine r_getf (ci := 1) (T := Fk1) (k := 9) o_T_become i_T_become_73 x_T_39 rfl (by decide) rfl (by repeat (first | assumption | exact upw_s | refine (upw_n (by omega)).trans ?_)) (by first | assumption | omega) (by rfl) ?_
  refine r_aload_n (i := 0) i_T_become_76 rfl rfl ?_
  refine r_getf (ci := 1) (T := Fk1) (k := 9) o_T_become i_T_become_77 x_T_39 rfl (by decide) rfl (by repeat (first | assumption | exact upw_s | refine (upw_n (by omega)).trans ?_)) (by first | assumption | omega) (by rfl) ?_
  refine f_staticN o_T_become k_N_copyAll s_N_copyAll x_T_64 i_T_become_80 (c_N_copyAll (by repeat (first | assumption | exact upw_s | refine (upw_n (by omega)).trans ?_)) (by repeat (first | assumption | exact upw_s | refine (upw_n (by omega)).trans ?_)) (by omega) (by omega) (by omega) (by decide)) rfl rfl (by decide) (Nat.le_of_ble_eq_true rfl) ?_
  refine r_aload_n (i := 1) i_T_become_83 rfl rfl ?_
  refine r_getf (ci := 1) (T := Fk1) (k := 10) o_T_become i_T_become_84 x_T_43 rfl (by decide) rfl (by repeat (first | assumption | exact upw_s | refine (upw_n (by omega)).trans ?_)) (by first | assumption | omega) (by rfl) ?_
  refine r_aload_n (i := 0) i_T_become_87 rfl rfl ?_
  refine r_getf (ci := 1) (T := Fk1) (k := 10) o_T_become i_T_become_88 x_T_43 rfl (by decide) rfl (by repeat (first | assumption | exact upw_s | refine (upw_n (by omega)).trans ?_)) (by first | assumption | omega) (by rfl) ?_
  refine f_staticN o_T_become k_N_copyAll s_N_copyAll x_T_64 i_T_become_91 (c_N_copyAll (by repeat (first | assumption | exact upw_s | refine (upw_n (by omega)).trans ?_)) (by repeat (first | assumption | exact upw_s | refine (upw_n (by omega)).trans ?_)) (by omega) (by omega) (by omega) (by decide)) rfl rfl (by decide) (Nat.le_of_ble_eq_true rfl) ?_
  refine r_aload_n (i := 1) i_T_become_94 rfl rfl ?_
  refine r_getf (ci := 1) (T := Fk1) (k := 11) o_T_become i_T_become_95 x_T_46 rfl (by decide) rfl (by repeat (first | assumption | exact upw_s | refine (upw_n (by omega)).trans ?_)) (by first | assumption | omega) (by rfl) ?_
  refine r_aload_n (i := 0) i_T_become_98 rfl rfl ?_
  refine r_getf (ci := 1) (T := Fk1) (k := 11) o_T_become i_T_become_99 x_T_46 rfl (by decide) rfl (by repeat (first | assumption | exact upw_s | refine (upw_n (by omega)).trans ?_)) (by first | assumption | omega) (by rfl) ?_
  refine f_staticN o_T_become k_N_copyAll s_N_copyAll x_T_64 i_T_become_102 (c_N_copyAll (by repeat (first | assumption | exact upw_s | refine (upw_n (by omega)).trans ?_)) (by repeat (first | assumption | exact upw_s | refine (upw_n (by omega)).trans ?_)) (by omega) (by omega) (by omega) (by decide)) rfl rfl (by decide) (Nat.le_of_ble_eq_true rfl) ?_
  refine r_aload_n (i := 1) i_T_become_105 rfl rfl ?_
  refine r_getf (ci := 1) (T := Fk1) (k := 12) o_T_become i_T_become_106 x_T_49 rfl (by decide) rfl (by repeat (first | assumption | exact upw_s | refine (upw_n (by omega)).trans ?_)) (by first | assumption | omega) (by rfl) ?_
  refine r_aload_n (i := 0) i_T_become_109 rfl rfl ?_
  refine r_getf (ci := 1) (T := Fk1) (k := 12) o_T_become i_T_become_110 x_T_49 rfl (by decide) rfl (by repeat (first | assumption | exact upw_s | refine (upw_n (by omega)).trans ?_)) (by first | assumption | omega) (by rfl) ?_
  refine f_staticN o_T_become k_N_copyAll s_N_copyAll x_T_64 i_T_become_113 (c_N_copyAll (by repeat (first | assumption | exact upw_s | refine (upw_n (by omega)).trans ?_)) (by repeat (first | assumption | exact upw_s | refine (upw_n (by omega)).trans ?_)) (by omega) (by omega) (by omega) (by decide)) rfl rfl (by decide) (Nat.le_of_ble_eq_true rfl) ?_
  refine r_aload_n (i := 1) i_T_become_116 rfl rfl ?_
  refine r_getf (ci := 1) (T := Fk1) (k := 13) o_T_become i_T_become_117 x_T_52 rfl (by decide) rfl (by repeat (first | assumption | exact upw_s | refine (upw_n (by omega)).trans ?_)) (by first | assumption | omega) (by rfl) ?_
  refine r_aload_n (i := 0) i_T_become_120 rfl rfl ?_
  refine r_getf (ci := 1) (T := Fk1) (k := 13) o_T_become i_T_become_121 x_T_52 rfl (by decide) rfl (by repeat (first | assumption | exact upw_s | refine (upw_n (by omega)).trans ?_)) (by first | assumption | omega) (by rfl) ?_
  refine f_staticN o_T_become k_N_copyAll s_N_copyAll x_T_64 i_T_become_124 (c_N_copyAll (by repeat (first | assumption | exact upw_s | refine (upw_n (by omega)).trans ?_)) (by repeat (first | assumption | exact upw_s | refine (upw_n (by omega)).trans ?_)) (by omega) (by omega) (by omega) (by decide)) rfl rfl (by decide) (Nat.le_of_ble_eq_true rfl) ?_
  refine r_aload_n (i := 1) i_T_become_127 rfl rfl ?_
  refine r_getf (ci := 1) (T := Fk1) (k := 14) o_T_become i_T_become_128 x_T_55 rfl (by decide) rfl (by repeat (first | assumption | exact upw_s | refine (upw_n (by omega)).trans ?_)) (by first | assumption | omega) (by rfl) ?_
  refine r_aload_n (i := 0) i_T_become_131 rfl rfl ?_
  refine r_getf (ci := 1) (T := Fk1) (k := 14) o_T_become i_T_become_132 x_T_55 rfl (by decide) rfl (by repeat (first | assumption | exact upw_s | refine (upw_n (by omega)).trans ?_)) (by first | assumption | omega) (by rfl) ?_
  refine f_staticN o_T_become k_N_copyAll s_N_copyAll x_T_64 i_T_become_135 (c_N_copyAll (by repeat (first | assumption | exact upw_s | refine (upw_n (by omega)).trans ?_)) (by repeat (first | assumption | exact upw_s | refine (upw_n (by omega)).trans ?_)) (by omega) (by omega) (by omega) (by decide)) rfl rfl (by decide) (Nat.le_of_ble_eq_true rfl) ?_
  refine r_aload_n (i := 1) i_T_become_138 rfl rfl ?_
  refine r_getf (ci := 1) (T := Fk1) (k := 15) o_T_become i_T_become_139 x_T_58 rfl (by decide) rfl (by repeat (first | assumption | exact upw_s | refine (upw_n (by omega)).trans ?_)) (by first | assumption | omega) (by rfl) ?_
  refine r_aload_n (i := 0) i_T_become_142 rfl rfl ?_
  refine r_getf (ci := 1) (T := Fk1) (k := 15) o_T_become i_T_become_143 x_T_58 rfl (by decide) rfl (by repeat (first | assumption | exact upw_s | refine (upw_n (by omega)).trans ?_)) (by first | assumption | omega) (by rfl) ?_
  refine f_staticN o_T_become k_N_copyAll s_N_copyAll x_T_64 i_T_become_146 (c_N_copyAll (by repeat (first | assumption | exact upw_s | refine (upw_n (by omega)).trans ?_)) (by repeat (first | assumption | exact upw_s | refine (upw_n (by omega)).trans ?_)) (by omega) (by omega) (by omega) (by decide)) rfl rfl (by decide) (Nat.le_of_ble_eq_true rfl) ?_
  refine r_aload_n (i := 1) i_T_become_149 rfl rfl ?_
  refine r_getf (ci := 1) (T := Fk1) (k := 16) o_T_become i_T_become_150 x_T_61 rfl (by decide) rfl (by repeat (first | assumption | exact upw_s | refine (upw_n (by omega)).trans ?_)) (by first | assumption | omega) (by rfl) ?_
  refine r_aload_n (i := 0) i_T_become_153 rfl rfl ?_
  refine r_getf (ci := 1) (T := Fk1) (k := 16) o_T_become i_T_become_154 x_T_61 rfl (by decide) rfl (by repeat (first | assumption | exact upw_s | refine (upw_n (by omega)).trans ?_)) (by first | assumption | omega) (by rfl) ?_
  refine f_staticN o_T_become k_N_copyAll s_N_copyAll x_T_64 i_T_become_157 (c_N_copyAll (by repeat (first | assumption | exact upw_s | refine (upw_n (by omega)).trans ?_)) (by repeat (first | assumption | exact upw_s | refine (upw_n (by omega)).trans ?_)) (by omega) (by omega) (by omega) (by decide)) rfl rfl (by decide) (Nat.le_of_ble_eq_true rfl) ?_
  refine r_return i_T_become_160 t_T_become ?_
  exact ⟨rfl, ⟨⟨(by repeat (first | assumption | exact upw_s | refine (upw_n (by omega)).trans ?_)), (by repeat (first | assumption | exact upw_s | refine (upw_n (by omega)).trans ?_)), (by repeat (first | assumption | exact upw_s | refine (upw_n (by omega)).trans ?_)), (by repeat (first | assumption | exact upw_s | refine (upw_n (by omega)).trans ?_)), (by repeat (first | assumption | exact upw_s | refine (upw_n (by omega)).trans ?_)), (by repeat (first | assumption | exact upw_s | refine (upw_n (by omega)).trans ?_)), (by repeat (first | assumption | exact upw_s | refine (upw_n (by omega)).trans ?_)), (by repeat (first | assumption | exact upw_s | refine (upw_n (by omega)).trans ?_)), (by repeat (first | assumption | exact upw_s | refine (upw_n (by omega)).trans ?_)), hn⟩, fun k hk => (by (repeat (refine (upw_n (by omega)).trans ?_)); rfl)⟩, rfl⟩
theorem c_T_addTo {a len k : Nat} {f : Nat → Int32} {v : Int32} (hw : w a = ai len f) (ha : a < n) (hl : len < 2 ^ 31) (hk : k < len) : Fn G 1 y_T_addTo [.ref a, .int (nI k), .int v] w n none (upw w a (ai len (upd f k (f k + v)))) := by
  refine Fn.of k_T_addTo l_T_addTo rfl rfl ?_
  refine r_aload_n (i := 0) i_T_addTo_0 rfl rfl ?_
  refine r_iload_n (i := 1) i_T_addTo_1 rfl rfl ?_
  refine r_aload_n (i := 0) i_T_addTo_2 rfl rfl ?_
  refine r_iload_n (i := 1) i_T_addTo_3 rfl rfl ?_
  refine f_staticN o_T_addTo k_N_at s_N_at x_T_91 i_T_addTo_4 (c_N_at hw ha hl) rfl rfl (by decide) (Nat.le_of_ble_eq_true rfl) ?_
  refine r_iload_n (i := 2) i_T_addTo_7 rfl rfl ?_
  refine r_iadd i_T_addTo_8 ?_
  refine f_staticN o_T_addTo k_N_put s_N_put x_T_79 i_T_addTo_9 (c_N_put hw ha hl) rfl rfl (by decide) (Nat.le_of_ble_eq_true rfl) ?_
  refine r_return i_T_addTo_12 t_T_addTo ?_
  exact ⟨rfl, by rw [puI_in hk hl, atI_in hk hl], rfl⟩
def mkT (S : aS) (b p q c : Nat) : aS := upS (upA (upA S 0 (upd (upd (upd (S.2 0) p (S.2 0 p + S.2 4 b)) q (upd (S.2 0) p (S.2 0 p + S.2 4 b) q + S.2 5 b)) c (upd (upd (S.2 0) p (S.2 0 p + S.2 4 b)) q (upd (S.2 0) p (S.2 0 p + S.2 4 b) q + S.2 5 b) c + -lossN S b c))) 1 (upd (S.2 1) c (S.2 1 c + 1))) 8 (S.1 8 + 1)
theorem TW.stand {f : Nat → Int32} (hT : TW w t S n) : TW (upw w (t + 1) (ai 7 f)) t (upA S 0 f) n := by
  obtain ⟨g0, g1, g2, g3, g4, g5, g6, g7, g8, hn⟩ := hT
  exact ⟨(by repeat (first | assumption | exact upw_s | refine (upw_n (by omega)).trans ?_)), (by repeat (first | assumption | exact upw_s | refine (upw_n (by omega)).trans ?_)), (by repeat (first | assumption | exact upw_s | refine (upw_n (by omega)).trans ?_)), (by repeat (first | assumption | exact upw_s | refine (upw_n (by omega)).trans ?_)), (by repeat (first | assumption | exact upw_s | refine (upw_n (by omega)).trans ?_)), (by repeat (first | assumption | exact upw_s | refine (upw_n (by omega)).trans ?_)), (by repeat (first | assumption | exact upw_s | refine (upw_n (by omega)).trans ?_)), (by repeat (first | assumption | exact upw_s | refine (upw_n (by omega)).trans ?_)), (by repeat (first | assumption | exact upw_s | refine (upw_n (by omega)).trans ?_)), hn⟩
theorem c_T_makeInTruth {b p q c : Nat} (hT : TW w t S n) (hb : b < 7) (hp : S.2 2 b = nI p) (hq : S.2 3 b = nI q) (hp7 : p < 7) (hq7 : q < 7) (hc : c < 7) : Tm G 2 y_T_makeInTruth [.ref t, .int (nI b), .int (nI c)] w n none t (mkT S b p q c) := by
  have hT0 := hT
  obtain ⟨g0, g1, g2, g3, g4, g5, g6, g7, g8, hn⟩ := hT
  refine Tm.of k_T_makeInTruth l_T_makeInTruth rfl rfl ?_
  refine r_aload_n (i := 0) i_T_makeInTruth_0 rfl rfl ?_
  refine r_getf (ci := 1) (T := Fk1) (k := 9) o_T_makeInTruth i_T_makeInTruth_1 x_T_39 rfl (by decide) rfl (by repeat (first | assumption | exact upw_s | refine (upw_n (by omega)).trans ?_)) (by first | assumption | omega) (by rfl) ?_
  refine r_aload_n (i := 0) i_T_makeInTruth_4 rfl rfl ?_
  refine r_getf (ci := 1) (T := Fk1) (k := 11) o_T_makeInTruth i_T_makeInTruth_5 x_T_46 rfl (by decide) rfl (by repeat (first | assumption | exact upw_s | refine (upw_n (by omega)).trans ?_)) (by first | assumption | omega) (by rfl) ?_
  refine r_iload_n (i := 1) i_T_makeInTruth_8 rfl rfl ?_
  refine f_staticN o_T_makeInTruth k_N_at s_N_at x_T_91 i_T_makeInTruth_9 (c_N_at (by repeat (first | assumption | exact upw_s | refine (upw_n (by omega)).trans ?_)) (by omega) (by decide)) rfl rfl (by decide) (Nat.le_of_ble_eq_true rfl) ?_
  rw [atI_in hb (by decide), hp]
  refine r_aload_n (i := 0) i_T_makeInTruth_12 rfl rfl ?_
  refine r_getf (ci := 1) (T := Fk1) (k := 13) o_T_makeInTruth i_T_makeInTruth_13 x_T_52 rfl (by decide) rfl (by repeat (first | assumption | exact upw_s | refine (upw_n (by omega)).trans ?_)) (by first | assumption | omega) (by rfl) ?_
  refine r_iload_n (i := 1) i_T_makeInTruth_16 rfl rfl ?_
  refine f_staticN o_T_makeInTruth k_N_at s_N_at x_T_91 i_T_makeInTruth_17 (c_N_at (by repeat (first | assumption | exact upw_s | refine (upw_n (by omega)).trans ?_)) (by omega) (by decide)) rfl rfl (by decide) (Nat.le_of_ble_eq_true rfl) ?_
  rw [atI_in hb (by decide)]
  refine f_static o_T_makeInTruth k_T_addTo s_T_addTo x_T_115 i_T_makeInTruth_20 (c_T_addTo (by repeat (first | assumption | exact upw_s | refine (upw_n (by omega)).trans ?_)) (by omega) (by decide) hp7) rfl rfl (by decide) (Nat.le_of_ble_eq_true rfl) ?_
  refine r_aload_n (i := 0) i_T_makeInTruth_23 rfl rfl ?_
  refine r_getf (ci := 1) (T := Fk1) (k := 9) o_T_makeInTruth i_T_makeInTruth_24 x_T_39 rfl (by decide) rfl (by repeat (first | assumption | exact upw_s | refine (upw_n (by omega)).trans ?_)) (by first | assumption | omega) (by rfl) ?_
  refine r_aload_n (i := 0) i_T_makeInTruth_27 rfl rfl ?_
  refine r_getf (ci := 1) (T := Fk1) (k := 12) o_T_makeInTruth i_T_makeInTruth_28 x_T_49 rfl (by decide) rfl (by repeat (first | assumption | exact upw_s | refine (upw_n (by omega)).trans ?_)) (by first | assumption | omega) (by rfl) ?_
  refine r_iload_n (i := 1) i_T_makeInTruth_31 rfl rfl ?_
  refine f_staticN o_T_makeInTruth k_N_at s_N_at x_T_91 i_T_makeInTruth_32 (c_N_at (by repeat (first | assumption | exact upw_s | refine (upw_n (by omega)).trans ?_)) (by omega) (by decide)) rfl rfl (by decide) (Nat.le_of_ble_eq_true rfl) ?_
  rw [atI_in hb (by decide), hq]
  refine r_aload_n (i := 0) i_T_makeInTruth_35 rfl rfl ?_
  refine r_getf (ci := 1) (T := Fk1) (k := 14) o_T_makeInTruth i_T_makeInTruth_36 x_T_55 rfl (by decide) rfl (by repeat (first | assumption | exact upw_s | refine (upw_n (by omega)).trans ?_)) (by first | assumption | omega) (by rfl) ?_
  refine r_iload_n (i := 1) i_T_makeInTruth_39 rfl rfl ?_
  refine f_staticN o_T_makeInTruth k_N_at s_N_at x_T_91 i_T_makeInTruth_40 (c_N_at (by repeat (first | assumption | exact upw_s | refine (upw_n (by omega)).trans ?_)) (by omega) (by decide)) rfl rfl (by decide) (Nat.le_of_ble_eq_true rfl) ?_
  rw [atI_in hb (by decide)]
  refine f_static o_T_makeInTruth k_T_addTo s_T_addTo x_T_115 i_T_makeInTruth_43 (c_T_addTo (by repeat (first | assumption | exact upw_s | refine (upw_n (by omega)).trans ?_)) (by omega) (by decide) hq7) rfl rfl (by decide) (Nat.le_of_ble_eq_true rfl) ?_
  refine r_aload_n (i := 0) i_T_makeInTruth_46 rfl rfl ?_
  refine r_getf (ci := 1) (T := Fk1) (k := 9) o_T_makeInTruth i_T_makeInTruth_47 x_T_39 rfl (by decide) rfl (by repeat (first | assumption | exact upw_s | refine (upw_n (by omega)).trans ?_)) (by first | assumption | omega) (by rfl) ?_
  refine r_iload_n (i := 2) i_T_makeInTruth_50 rfl rfl ?_
  refine r_aload_n (i := 0) i_T_makeInTruth_51 rfl rfl ?_
  refine r_iload_n (i := 1) i_T_makeInTruth_52 rfl rfl ?_
  refine r_iload_n (i := 2) i_T_makeInTruth_53 rfl rfl ?_
  refine f_virtual o_T_makeInTruth k_T_lossBy v_T_lossBy x_T_98 i_T_makeInTruth_54 o_T_lossBy (c_T_lossBy hT0.stand.stand hb hc) rfl (rcv_ob (by repeat (first | assumption | exact upw_s | refine (upw_n (by omega)).trans ?_)) rfl (by first | assumption | omega)) rfl (by decide) (Nat.le_of_ble_eq_true rfl) ?_
  refine r_ineg i_T_makeInTruth_57 ?_
  refine f_static o_T_makeInTruth k_T_addTo s_T_addTo x_T_115 i_T_makeInTruth_58 (c_T_addTo (by repeat (first | assumption | exact upw_s | refine (upw_n (by omega)).trans ?_)) (by omega) (by decide) hc) rfl rfl (by decide) (Nat.le_of_ble_eq_true rfl) ?_
  refine r_aload_n (i := 0) i_T_makeInTruth_61 rfl rfl ?_
  refine r_getf (ci := 1) (T := Fk1) (k := 10) o_T_makeInTruth i_T_makeInTruth_62 x_T_43 rfl (by decide) rfl (by repeat (first | assumption | exact upw_s | refine (upw_n (by omega)).trans ?_)) (by first | assumption | omega) (by rfl) ?_
  refine r_iload_n (i := 2) i_T_makeInTruth_65 rfl rfl ?_
  refine r_iconst (v := (1 : Int32)) i_T_makeInTruth_66 rfl ?_
  refine f_static o_T_makeInTruth k_T_addTo s_T_addTo x_T_115 i_T_makeInTruth_67 (c_T_addTo (by repeat (first | assumption | exact upw_s | refine (upw_n (by omega)).trans ?_)) (by omega) (by decide) hc) rfl rfl (by decide) (Nat.le_of_ble_eq_true rfl) ?_
  refine r_aload_n (i := 0) i_T_makeInTruth_70 rfl rfl ?_
  refine r_dup i_T_makeInTruth_71 rfl ?_
  refine r_getf (ci := 1) (T := Fk1) (k := 8) o_T_makeInTruth i_T_makeInTruth_72 x_T_36 rfl (by decide) rfl (by repeat (first | assumption | exact upw_s | refine (upw_n (by omega)).trans ?_)) (by first | assumption | omega) (by rfl) ?_
  refine r_iconst (v := (1 : Int32)) i_T_makeInTruth_75 rfl ?_
  refine r_iadd i_T_makeInTruth_76 ?_
  refine r_putf (ci := 1) (T := Fk1) (k := 8) o_T_makeInTruth i_T_makeInTruth_77 x_T_36 rfl (by decide) rfl rfl (ok1 8 (by decide)) rfl (by repeat (first | assumption | exact upw_s | refine (upw_n (by omega)).trans ?_)) (by first | assumption | omega) (by exact Nat.le_of_ble_eq_true rfl) ?_
  refine r_return i_T_makeInTruth_80 t_T_makeInTruth ?_
  exact ⟨rfl, ⟨⟨(by repeat (first | assumption | exact upw_s | refine (upw_n (by omega)).trans ?_)), (by repeat (first | assumption | exact upw_s | refine (upw_n (by omega)).trans ?_)), (by repeat (first | assumption | exact upw_s | refine (upw_n (by omega)).trans ?_)), (by repeat (first | assumption | exact upw_s | refine (upw_n (by omega)).trans ?_)), (by repeat (first | assumption | exact upw_s | refine (upw_n (by omega)).trans ?_)), (by repeat (first | assumption | exact upw_s | refine (upw_n (by omega)).trans ?_)), (by repeat (first | assumption | exact upw_s | refine (upw_n (by omega)).trans ?_)), (by repeat (first | assumption | exact upw_s | refine (upw_n (by omega)).trans ?_)), (by repeat (first | assumption | exact upw_s | refine (upw_n (by omega)).trans ?_)), hn⟩, fun k hk => (by (repeat (refine (upw_n (by omega)).trans ?_)); rfl)⟩, rfl⟩
def nxtSeed (x : Int32) : Int32 := x * 1103515245 + 12345
def drawV (x c : Int32) : Int32 := (x.toUInt32 >>> ((16 : Int32).toUInt32 &&& Int32.toUInt32 31)).toInt32 - (x.toUInt32 >>> ((16 : Int32).toUInt32 &&& Int32.toUInt32 31)).toInt32 / c * c
theorem c_T_draw {c : Int32} (hT : TW w t S n) (hc : 0 < c) : Tm G 0 y_T_draw [.ref t, .int c] w n (some (.int (drawV (nxtSeed (S.1 6)) c))) t (upS S 6 (nxtSeed (S.1 6))) := by
  obtain ⟨g0, g1, g2, g3, g4, g5, g6, g7, g8, hn⟩ := hT
  refine Tm.of k_T_draw l_T_draw rfl rfl ?_
  refine r_aload_n (i := 0) i_T_draw_0 rfl rfl ?_
  refine r_aload_n (i := 0) i_T_draw_1 rfl rfl ?_
  refine r_getf (ci := 1) (T := Fk1) (k := 6) o_T_draw i_T_draw_2 x_T_30 rfl (by decide) rfl (by repeat (first | assumption | exact upw_s | refine (upw_n (by omega)).trans ?_)) (by first | assumption | omega) (by rfl) ?_
  refine r_ldc o_T_draw i_T_draw_5 x_T_114 ?_
  refine r_imul i_T_draw_7 ?_
  refine r_sipush (v := (12345 : Int32)) i_T_draw_8 (by decide) ?_
  refine r_iadd i_T_draw_11 ?_
  refine r_putf (ci := 1) (T := Fk1) (k := 6) o_T_draw i_T_draw_12 x_T_30 rfl (by decide) rfl rfl (ok1 6 (by decide)) rfl (by repeat (first | assumption | exact upw_s | refine (upw_n (by omega)).trans ?_)) (by first | assumption | omega) (by exact Nat.le_of_ble_eq_true rfl) ?_
  refine r_iload_n (i := 1) i_T_draw_15 rfl rfl ?_
  refine r_if_le 31 i_T_draw_16 (by decide) (fun h16 => (absurd hc (Int32.not_lt.mpr h16))) (fun h16 => ?_)
  refine r_aload_n (i := 0) i_T_draw_19 rfl rfl ?_
  refine r_getf (ci := 1) (T := Fk1) (k := 6) o_T_draw i_T_draw_20 x_T_30 rfl (by decide) rfl (by repeat (first | assumption | exact upw_s | refine (upw_n (by omega)).trans ?_)) (by first | assumption | omega) (by rfl) ?_
  refine r_bipush (v := (16 : Int32)) i_T_draw_23 (by decide) ?_
  refine r_iushr i_T_draw_25 ?_
  refine r_iload_n (i := 1) i_T_draw_26 rfl rfl ?_
  refine r_irem i_T_draw_27 (fun e => h16 (by rw [e]; decide)) ?_
  refine r_goto 32 i_T_draw_28 (by decide) ?_
  refine r_ireturn i_T_draw_32 t_T_draw rfl ?_
  exact ⟨rfl, ⟨⟨(by repeat (first | assumption | exact upw_s | refine (upw_n (by omega)).trans ?_)), (by repeat (first | assumption | exact upw_s | refine (upw_n (by omega)).trans ?_)), (by repeat (first | assumption | exact upw_s | refine (upw_n (by omega)).trans ?_)), (by repeat (first | assumption | exact upw_s | refine (upw_n (by omega)).trans ?_)), (by repeat (first | assumption | exact upw_s | refine (upw_n (by omega)).trans ?_)), (by repeat (first | assumption | exact upw_s | refine (upw_n (by omega)).trans ?_)), (by repeat (first | assumption | exact upw_s | refine (upw_n (by omega)).trans ?_)), (by repeat (first | assumption | exact upw_s | refine (upw_n (by omega)).trans ?_)), (by repeat (first | assumption | exact upw_s | refine (upw_n (by omega)).trans ?_)), hn⟩, fun k hk => (by (repeat (refine (upw_n (by omega)).trans ?_)); rfl)⟩, rfl⟩
end TOWN2
