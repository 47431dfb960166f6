-- THE CLASS: NEW
theorem TW.up {w : aW} {t n n' : Nat} {S : aS} (h : TW w t S n) (hn : n ≤ n') : TW w t S n' := by
  obtain ⟨g0, g1, g2, g3, g4, g5, g6, g7, g8, g9⟩ := h
  exact ⟨g0, g1, g2, g3, g4, g5, g6, g7, g8, by omega⟩
theorem SW.up {w : aW} {t n n' : Nat} {S : aH} (h : SW w t S n) (hn : n ≤ n') : SW w t S n' := by
  obtain ⟨g0, g1, g2, g3, g4, g5⟩ := h
  exact ⟨g0, g1, g2, g3, g4, by omega⟩
theorem RW.up {w : aW} {t n n' z : Nat} {f : Nat → Int32} {L : aL} {fa : Int32} (h : RW w t f z L fa n) (hn : n ≤ n') : RW w t f z L fa n' := by
  obtain ⟨g0, g1, g2⟩ := h
  exact ⟨g0, g1, by omega⟩
theorem WW.up {w : aW} {t n n' : Nat} {S : aK} (h : WW w t S n) (hn : n ≤ n') : WW w t S n' := by
  obtain ⟨g0, g1, g2⟩ := h
  exact ⟨g0, g1, by omega⟩
theorem EW.up {w : aW} {t n n' : Nat} {S : aZ} (h : EW w t S n) (hn : n ≤ n') : EW w t S n' := by
  obtain ⟨g0, g1, g2, g3, g4, g5, g6⟩ := h
  exact ⟨g0, g1, g2, g3, g4, g5, by omega⟩
def Q0 : aQ := (S0, S0, 0, X0, fun _ => 0, 0, fun _ => 0)
theorem Q0_ok : QOk Q0 := by
  have hT : TOk S0 := ⟨0, 0, rfl, by omega, rfl, by omega, fun b hb => absurd hb (by omega)⟩
  exact ⟨hT, hT, fun s hs => ⟨Or.inl rfl, 0, by omega, rfl⟩, by decide⟩
section NEW
variable {G : gE} {w : aW} {n : Nat}
theorem c_N_init (hw : w 0 = .inr (0, dfl tk0 9)) : Mt G 2 y_N_init [.ref 0] w 1 43 1367 (fun r w' n' => r = none ∧ (CX w' Q0 S0 (0, 0, 0) (-1) K0 Z0 44 ∧ cFr w w') ∧ n' = 44) := by
  refine Mt.of k_N_init l_N_init (Nat.le_of_ble_eq_true rfl) rfl ?_
  have hgB : gB = 1000000000 := rfl
  refine r_aload_n (i := 0) i_N_init_0 rfl rfl ?_
  refine r_objInit o_N_init x_N_1 i_N_init_1 (by decide) (Nat.le_of_ble_eq_true rfl) ?_
  refine r_aload_n (i := 0) i_N_init_4 rfl rfl ?_
  refine r_new (ci := 1) o_N_init i_N_init_5 x_N_7 rfl rfl (by decide) (by omega) (by omega) ?_
  refine r_dup i_N_init_8 rfl ?_
  refine m_specialN o_N_init k_T_init i_T_init x_N_9 i_N_init_9 (c_T_init (t := 1) (by repeat (first | assumption | exact upw_s | refine (upw_n (by omega)).trans ?_)) (by decide)) rfl rfl (by decide) (Nat.le_of_ble_eq_true rfl) (by omega) (by omega) (fun r1 w1 n1 hp9 => ?_)
  obtain ⟨rfl, ⟨hT, hF1⟩, rfl⟩ := hp9
  have z1 : w1 0 = .inr (0, dfl tk0 9) := (hF1 0 (by omega)).trans (by repeat (first | assumption | exact upw_s | refine (upw_n (by omega)).trans ?_))
  have f1 : ∀ j, ¬ j = 0 → (j < 1 ∨ 43 < j) → w1 j = w j := fun j q1 q2 => (hF1 j (by omega)).trans (by (repeat (refine (upw_n (by omega)).trans ?_)); rfl)
  refine r_putfF (ci := 0) (T := Fk0) (k := 0) o_N_init (by decide +kernel) i_N_init_12 x_N_10 rfl (by decide) rfl rfl rfl (ok0 0 (by decide)) (by rfl) (by repeat (first | assumption | exact upw_s | refine (upw_n (by omega)).trans ?_)) (by first | assumption | omega) (by exact Nat.le_of_ble_eq_true rfl) ?_
  refine r_aload_n (i := 0) i_N_init_15 rfl rfl ?_
  refine r_new (ci := 1) o_N_init i_N_init_16 x_N_7 rfl rfl (by decide) (by omega) (by omega) ?_
  refine r_dup i_N_init_19 rfl ?_
  refine m_specialN o_N_init k_T_init i_T_init x_N_9 i_N_init_20 (c_T_init (t := 10) (by repeat (first | assumption | exact upw_s | refine (upw_n (by omega)).trans ?_)) (by decide)) rfl rfl (by decide) (Nat.le_of_ble_eq_true rfl) (by omega) (by omega) (fun r2 w2 n2 hp9 => ?_)
  obtain ⟨rfl, ⟨hK, hF2⟩, rfl⟩ := hp9
  have z2 : w2 0 = .inr (0, (dfl tk0 9).set 0 (.ref 1)) := (hF2 0 (by omega)).trans (by repeat (first | assumption | exact upw_s | refine (upw_n (by omega)).trans ?_))
  have f2 : ∀ j, ¬ j = 0 → (j < 10 ∨ 43 < j) → w2 j = w1 j := fun j q1 q2 => (hF2 j (by omega)).trans (by (repeat (refine (upw_n (by omega)).trans ?_)); rfl)
  refine r_putfF (ci := 0) (T := Fk0) (k := 1) o_N_init (by decide +kernel) i_N_init_23 x_N_16 rfl (by decide) rfl rfl rfl (ok0 1 (by decide)) (by rfl) (by repeat (first | assumption | exact upw_s | refine (upw_n (by omega)).trans ?_)) (by first | assumption | omega) (by exact Nat.le_of_ble_eq_true rfl) ?_
  refine r_aload_n (i := 0) i_N_init_26 rfl rfl ?_
  refine r_new (ci := 1) o_N_init i_N_init_27 x_N_7 rfl rfl (by decide) (by omega) (by omega) ?_
  refine r_dup i_N_init_30 rfl ?_
  refine m_specialN o_N_init k_T_init i_T_init x_N_9 i_N_init_31 (c_T_init (t := 19) (by repeat (first | assumption | exact upw_s | refine (upw_n (by omega)).trans ?_)) (by decide)) rfl rfl (by decide) (Nat.le_of_ble_eq_true rfl) (by omega) (by omega) (fun r3 w3 n3 hp9 => ?_)
  obtain ⟨rfl, ⟨hD, hF3⟩, rfl⟩ := hp9
  have z3 : w3 0 = .inr (0, ((dfl tk0 9).set 0 (.ref 1)).set 1 (.ref 10)) := (hF3 0 (by omega)).trans (by repeat (first | assumption | exact upw_s | refine (upw_n (by omega)).trans ?_))
  have f3 : ∀ j, ¬ j = 0 → (j < 19 ∨ 43 < j) → w3 j = w2 j := fun j q1 q2 => (hF3 j (by omega)).trans (by (repeat (refine (upw_n (by omega)).trans ?_)); rfl)
  refine r_putfF (ci := 0) (T := Fk0) (k := 2) o_N_init (by decide +kernel) i_N_init_34 x_N_19 rfl (by decide) rfl rfl rfl (ok0 2 (by decide)) (by rfl) (by repeat (first | assumption | exact upw_s | refine (upw_n (by omega)).trans ?_)) (by first | assumption | omega) (by exact Nat.le_of_ble_eq_true rfl) ?_
  refine r_aload_n (i := 0) i_N_init_37 rfl rfl ?_
  refine r_iconst (v := (0 : Int32)) i_N_init_38 rfl ?_
  refine r_putf (ci := 0) (T := Fk0) (k := 3) o_N_init i_N_init_39 x_N_22 rfl (by decide) rfl rfl (ok0 3 (by decide)) (by rfl) (by repeat (first | assumption | exact upw_s | refine (upw_n (by omega)).trans ?_)) (by first | assumption | omega) (by exact Nat.le_of_ble_eq_true rfl) ?_
  refine r_aload_n (i := 0) i_N_init_42 rfl rfl ?_
  refine r_new (ci := 2) o_N_init i_N_init_43 x_N_26 rfl rfl (by decide) (by omega) (by omega) ?_
  refine r_dup i_N_init_46 rfl ?_
  refine m_special o_N_init k_S_init i_S_init x_N_28 i_N_init_47 (c_S_init (t := 28) (by repeat (first | assumption | exact upw_s | refine (upw_n (by omega)).trans ?_)) (by decide)) rfl rfl (by decide) (Nat.le_of_ble_eq_true rfl) (by omega) (by omega) (fun r4 w4 n4 hp9 => ?_)
  obtain ⟨rfl, ⟨hS, hF4⟩, rfl⟩ := hp9
  have z4 : w4 0 = .inr (0, ((((dfl tk0 9).set 0 (.ref 1)).set 1 (.ref 10)).set 2 (.ref 19)).set 3 (.int 0)) := (hF4 0 (by omega)).trans (by repeat (first | assumption | exact upw_s | refine (upw_n (by omega)).trans ?_))
  have f4 : ∀ j, ¬ j = 0 → (j < 28 ∨ 43 < j) → w4 j = w3 j := fun j q1 q2 => (hF4 j (by omega)).trans (by (repeat (refine (upw_n (by omega)).trans ?_)); rfl)
  refine r_putfF (ci := 0) (T := Fk0) (k := 4) o_N_init (by decide +kernel) i_N_init_50 x_N_29 rfl (by decide) rfl rfl rfl (ok0 4 (by decide)) (by rfl) (by repeat (first | assumption | exact upw_s | refine (upw_n (by omega)).trans ?_)) (by first | assumption | omega) (by exact Nat.le_of_ble_eq_true rfl) ?_
  refine r_aload_n (i := 0) i_N_init_53 rfl rfl ?_
  refine r_new (ci := 3) o_N_init i_N_init_54 x_N_33 rfl rfl (by decide) (by omega) (by omega) ?_
  refine r_dup i_N_init_57 rfl ?_
  refine m_specialN o_N_init k_R_init i_R_init x_N_35 i_N_init_58 (c_R_init (t := 33) (by repeat (first | assumption | exact upw_s | refine (upw_n (by omega)).trans ?_)) (by decide)) rfl rfl (by decide) (Nat.le_of_ble_eq_true rfl) (by omega) (by omega) (fun r5 w5 n5 hp9 => ?_)
  obtain ⟨rfl, ⟨hR, hF5⟩, rfl⟩ := hp9
  have z5 : w5 0 = .inr (0, (((((dfl tk0 9).set 0 (.ref 1)).set 1 (.ref 10)).set 2 (.ref 19)).set 3 (.int 0)).set 4 (.ref 28)) := (hF5 0 (by omega)).trans (by repeat (first | assumption | exact upw_s | refine (upw_n (by omega)).trans ?_))
  have f5 : ∀ j, ¬ j = 0 → (j < 33 ∨ 43 < j) → w5 j = w4 j := fun j q1 q2 => (hF5 j (by omega)).trans (by (repeat (refine (upw_n (by omega)).trans ?_)); rfl)
  refine r_putfF (ci := 0) (T := Fk0) (k := 5) o_N_init (by decide +kernel) i_N_init_61 x_N_36 rfl (by decide) rfl rfl rfl (ok0 5 (by decide)) (by rfl) (by repeat (first | assumption | exact upw_s | refine (upw_n (by omega)).trans ?_)) (by first | assumption | omega) (by exact Nat.le_of_ble_eq_true rfl) ?_
  refine r_aload_n (i := 0) i_N_init_64 rfl rfl ?_
  refine r_new (ci := 4) o_N_init i_N_init_65 x_N_40 rfl rfl (by decide) (by omega) (by omega) ?_
  refine r_dup i_N_init_68 rfl ?_
  refine m_specialN o_N_init k_W_init i_W_init x_N_42 i_N_init_69 (c_W_init (t := 35) (by repeat (first | assumption | exact upw_s | refine (upw_n (by omega)).trans ?_)) (by decide)) rfl rfl (by decide) (Nat.le_of_ble_eq_true rfl) (by omega) (by omega) (fun r6 w6 n6 hp9 => ?_)
  obtain ⟨rfl, ⟨hW, hF6⟩, rfl⟩ := hp9
  have z6 : w6 0 = .inr (0, ((((((dfl tk0 9).set 0 (.ref 1)).set 1 (.ref 10)).set 2 (.ref 19)).set 3 (.int 0)).set 4 (.ref 28)).set 5 (.ref 33)) := (hF6 0 (by omega)).trans (by repeat (first | assumption | exact upw_s | refine (upw_n (by omega)).trans ?_))
  have f6 : ∀ j, ¬ j = 0 → (j < 35 ∨ 43 < j) → w6 j = w5 j := fun j q1 q2 => (hF6 j (by omega)).trans (by (repeat (refine (upw_n (by omega)).trans ?_)); rfl)
  refine r_putfF (ci := 0) (T := Fk0) (k := 6) o_N_init (by decide +kernel) i_N_init_72 x_N_43 rfl (by decide) rfl rfl rfl (ok0 6 (by decide)) (by rfl) (by repeat (first | assumption | exact upw_s | refine (upw_n (by omega)).trans ?_)) (by first | assumption | omega) (by exact Nat.le_of_ble_eq_true rfl) ?_
  refine r_aload_n (i := 0) i_N_init_75 rfl rfl ?_
  refine r_new (ci := 5) o_N_init i_N_init_76 x_N_47 rfl rfl (by decide) (by omega) (by omega) ?_
  refine r_dup i_N_init_79 rfl ?_
  refine m_specialN o_N_init k_E_init i_E_init x_N_49 i_N_init_80 (c_E_init (t := 37) (by repeat (first | assumption | exact upw_s | refine (upw_n (by omega)).trans ?_)) (by decide)) rfl rfl (by decide) (Nat.le_of_ble_eq_true rfl) (by omega) (by omega) (fun r7 w7 n7 hp9 => ?_)
  obtain ⟨rfl, ⟨hE, hF7⟩, rfl⟩ := hp9
  have z7 : w7 0 = .inr (0, (((((((dfl tk0 9).set 0 (.ref 1)).set 1 (.ref 10)).set 2 (.ref 19)).set 3 (.int 0)).set 4 (.ref 28)).set 5 (.ref 33)).set 6 (.ref 35)) := (hF7 0 (by omega)).trans (by repeat (first | assumption | exact upw_s | refine (upw_n (by omega)).trans ?_))
  have f7 : ∀ j, ¬ j = 0 → (j < 37 ∨ 43 < j) → w7 j = w6 j := fun j q1 q2 => (hF7 j (by omega)).trans (by (repeat (refine (upw_n (by omega)).trans ?_)); rfl)
  refine r_putfF (ci := 0) (T := Fk0) (k := 7) o_N_init (by decide +kernel) i_N_init_83 x_N_50 rfl (by decide) rfl rfl rfl (ok0 7 (by decide)) (by rfl) (by repeat (first | assumption | exact upw_s | refine (upw_n (by omega)).trans ?_)) (by first | assumption | omega) (by exact Nat.le_of_ble_eq_true rfl) ?_
  refine r_aload_n (i := 0) i_N_init_86 rfl rfl ?_
  refine r_iconst (v := (5 : Int32)) i_N_init_87 rfl ?_
  refine r_newa i_N_init_88 (at9 := .int) (t := 0) (len := 5) (x := (5, .inl (fun _ => 0))) (Or.inl ⟨rfl, rfl⟩) rfl (by decide) ⟨rfl, rfl⟩ (by decide) (by omega) (by omega) ?_
  refine r_putfF (ci := 0) (T := Fk0) (k := 8) o_N_init (by decide +kernel) i_N_init_90 x_N_54 rfl (by decide) rfl rfl rfl (ok0 8 (by decide)) (by rfl) (by repeat (first | assumption | exact upw_s | refine (upw_n (by omega)).trans ?_)) (by first | assumption | omega) (by exact Nat.le_of_ble_eq_true rfl) ?_
  refine r_return i_N_init_93 t_N_init ?_
  refine ⟨rfl, ⟨⟨(by repeat (first | assumption | exact upw_s | refine (upw_n (by omega)).trans ?_)), (hT.fr ?_).up (by decide), (hK.fr ?_).up (by decide), (hD.fr ?_).up (by decide), (hS.fr ?_).up (by decide), (hR.fr ?_).up (by decide), (hW.fr ?_).up (by decide), (hE.fr ?_).up (by decide), (by repeat (first | assumption | exact upw_s | refine (upw_n (by omega)).trans ?_)), by decide⟩, ?_⟩, rfl⟩
  · exact fun j q1 q2 => (show _ = w7 j from (by (repeat (refine (upw_n (by omega)).trans ?_)); rfl)).trans ((f7 j (by omega) (by omega)).trans ((f6 j (by omega) (by omega)).trans ((f5 j (by omega) (by omega)).trans ((f4 j (by omega) (by omega)).trans ((f3 j (by omega) (by omega)).trans (f2 j (by omega) (by omega)))))))
  · exact fun j q1 q2 => (show _ = w7 j from (by (repeat (refine (upw_n (by omega)).trans ?_)); rfl)).trans ((f7 j (by omega) (by omega)).trans ((f6 j (by omega) (by omega)).trans ((f5 j (by omega) (by omega)).trans ((f4 j (by omega) (by omega)).trans (f3 j (by omega) (by omega))))))
  · exact fun j q1 q2 => (show _ = w7 j from (by (repeat (refine (upw_n (by omega)).trans ?_)); rfl)).trans ((f7 j (by omega) (by omega)).trans ((f6 j (by omega) (by omega)).trans ((f5 j (by omega) (by omega)).trans (f4 j (by omega) (by omega)))))
  · exact fun j q1 q2 => (show _ = w7 j from (by (repeat (refine (upw_n (by omega)).trans ?_)); rfl)).trans ((f7 j (by omega) (by omega)).trans ((f6 j (by omega) (by omega)).trans (f5 j (by omega) (by omega))))
  · exact fun j q1 q2 => (show _ = w7 j from (by (repeat (refine (upw_n (by omega)).trans ?_)); rfl)).trans ((f7 j (by omega) (by omega)).trans (f6 j (by omega) (by omega)))
  · exact fun j q1 q2 => (show _ = w7 j from (by (repeat (refine (upw_n (by omega)).trans ?_)); rfl)).trans (f7 j (by omega) (by omega))
  · exact fun j q1 q2 => (by (repeat (refine (upw_n (by omega)).trans ?_)); rfl)
  · exact fun j hj => (show _ = w7 j from (by have hj' : 43 < j := hj; (repeat (refine (upw_n (by omega)).trans ?_)); rfl)).trans ((f7 j (by omega) (by omega)).trans ((f6 j (by omega) (by omega)).trans ((f5 j (by omega) (by omega)).trans ((f4 j (by omega) (by omega)).trans ((f3 j (by omega) (by omega)).trans ((f2 j (by omega) (by omega)).trans (f1 j (by omega) (by omega))))))))
end NEW
