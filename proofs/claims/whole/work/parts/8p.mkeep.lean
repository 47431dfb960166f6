-- THE REFERENCE: image, back, fresh
def mK (M : aM) (v : Value) : aM := (M.1, M.2.1, M.2.2.1, v, M.2.2.2.2)
def mT (M : aM) (v : Value) : aM := (M.1, M.2.1, M.2.2.1, M.2.2.2.1, v)
def nnv (v : Value) : Nat := match v with
  | .ref _ => 41
  | _ => 0
def XW (w : aW) (M K : aM) (n : Nat) : Prop := MW w 44 M n ∧ (M.2.2.2.1 = .null ∨ ∃ k : Nat, 85 ≤ k ∧ M.2.2.2.1 = .ref k ∧ MW w k K n) ∧ (M.2.2.2.2 = .null ∨ ∃ (k : Nat) (T : aM), 85 ≤ k ∧ M.2.2.2.2 = .ref k ∧ MW w k T n ∧ (∀ k1 : Nat, M.2.2.2.1 = .ref k1 → k1 + 40 < k ∨ k + 40 < k1)) ∧ n = 85 + nnv M.2.2.2.1 + nnv M.2.2.2.2
def xFr (w w' : aW) : Prop := ∀ j, j < 44 → w' j = w j
def tG (K M : aM) : Prop := (∀ k, k = 10 ∨ k = 13 ∨ k = 17 ∨ k = 18 ∨ k = 19 → K.1 k = M.1 k) ∧ (∀ j, j = 18 ∨ j = 19 ∨ (21 ≤ j ∧ j ≤ 27) ∨ (29 ≤ j ∧ j ≤ 36) → K.2.1 j = M.2.1 j)
theorem tG.rf {M : aM} : tG M M := ⟨fun _ _ => rfl, fun _ _ => rfl⟩
theorem tf_G {M K : aM} : tG (tfM M K) K := by
  refine ⟨fun k hk => ?_, fun j hj => ?_⟩
  · rcases hk with rfl | rfl | rfl | rfl | rfl <;> rfl
  · show (if j = 36 then K.2.1 36 else if (21 ≤ j ∧ j < 21 + 7) ∨ (29 ≤ j ∧ j < 29 + 7) then K.2.1 j else if j = 19 then K.2.1 19 else if j = 18 then K.2.1 18 else M.2.1 j) = K.2.1 j
    by_cases e1 : j = 36
    · rw [if_pos e1, e1]
    · rw [if_neg e1]
      by_cases e2 : (21 ≤ j ∧ j < 21 + 7) ∨ (29 ≤ j ∧ j < 29 + 7)
      · rw [if_pos e2]
      · rw [if_neg e2]
        by_cases e3 : j = 19
        · rw [if_pos e3, e3]
        · rw [if_neg e3, if_pos (by omega), show j = 18 by omega]
theorem MW.up {w : aW} {o n n' : Nat} {M : aM} (h : MW w o M n) (hn : n ≤ n') : MW w o M n' := by
  obtain ⟨h0, h1, h2, h3, h4, h5, h6⟩ := h
  exact ⟨h0, h1, h2, h3, h4, h5, by omega⟩
theorem MW.ref {w : aW} {o n : Nat} {M M' : aM} (h : MW w o M n) (h1 : M'.2.1 = M.2.1) (h2 : M'.2.2.1 = M.2.2.1) : MW (upw w o (.inr (6, mob o M'))) o M' n := h.obj h1 h2
theorem XW.lt {w : aW} {M K : aM} {n : Nat} (h : XW w M K n) : n ≤ 167 := by
  have := h.2.2.2
  have a : ∀ v : Value, nnv v ≤ 41 := fun v => by cases v <;> exact Nat.le_of_ble_eq_true rfl
  have := a M.2.2.2.1
  have := a M.2.2.2.2
  omega
theorem XW.mm {w w' : aW} {M M' K : aM} {n : Nat} (h : XW w M K n) (h1 : MW w' 44 M' n) (hF : mFr w w' 44) (e : M'.2.2.2 = M.2.2.2) : XW w' M' K n ∧ xFr w w' := by
  obtain ⟨g0, g1, g2, g3⟩ := h
  have e1 : M'.2.2.2.1 = M.2.2.2.1 := congrArg Prod.fst e
  have e2 : M'.2.2.2.2 = M.2.2.2.2 := congrArg Prod.snd e
  refine ⟨⟨h1, ?_, ?_, by rw [e1, e2]; exact g3⟩, fun j hj => hF j (by omega)⟩
  · rw [e1]
    exact g1.imp id (fun ⟨k, k1, k2, k3⟩ => ⟨k, k1, k2, k3.fr (fun j q1 q2 => hF j (by omega))⟩)
  · rw [e1, e2]
    exact g2.imp id (fun ⟨k, T, k1, k2, k3, k4⟩ => ⟨k, T, k1, k2, k3.fr (fun j q1 q2 => hF j (by omega)), k4⟩)
section MKEEP
variable {G : gE} {w : aW} {n : Nat} {M K : aM}
theorem c_X_image (h : XW w M K n) : Mt G 4 y_M_image [.ref 44] w n 41 840 (fun r w' n' => r = some (.int 1) ∧ (∃ (k : Nat) (K' : aM), XW w' (mK M (.ref k)) K' n' ∧ tG K' M) ∧ xFr w w') := by
  have hlt := h.lt
  have hgB : gB = 1000000000 := rfl
  obtain ⟨g0, g1, g2, g3⟩ := h
  have m0 := g0.1
  have hn9 := g0.2.2.2.2.2.2
  refine Mt.of k_M_image l_M_image (Nat.le_of_ble_eq_true rfl) rfl ?_
  rcases g1 with e | ⟨k, k1, e, hK⟩
  · rw [e] at g3
    have g3 : n = 85 + 0 + nnv M.2.2.2.2 := g3
    refine r_aload_n (i := 0) i_M_image_0 rfl rfl ?_
    refine r_getf (ci := 6) (T := Fk6) (k := 20) o_M_image i_M_image_1 x_M_353 rfl (by decide) rfl (by repeat (first | assumption | exact upw_s | refine (upw_n (by omega)).trans ?_)) (by first | assumption | omega) (by rfl) ?_
    rw [e]
    refine r_ifnonnullN i_M_image_4 ?_
    refine r_aload_n (i := 0) i_M_image_7 rfl rfl ?_
    refine r_new (ci := 6) o_M_image i_M_image_8 x_M_8 rfl rfl (by omega) (by omega) (by omega) ?_
    refine r_dup i_M_image_11 rfl ?_
    refine m_special o_M_image k_M_init i_M_init x_M_348 i_M_image_12 (c_M_init (o := n) upw_s (by omega)) rfl rfl (by decide) (Nat.le_of_ble_eq_true rfl) (by omega) (by omega) (fun r1 w2 n1 hp9 => ?_)
    obtain ⟨rfl, ⟨hN, hF⟩, rfl⟩ := hp9
    have hF : ∀ j, (j < n ∨ n + 40 < j) → w2 j = w j := fun j hj => (hF j hj).trans (upw_n (by omega))
    have q0 := (g0.fr (w' := w2) (fun j q1 q2 => hF j (by omega))).up (n' := n + 41) (by omega)
    have z0 := q0.1
    have q1 : MW (upw w2 44 (.inr (6, mob 44 (mK M (.ref n))))) 44 (mK M (.ref n)) (n + 41) := q0.ref rfl rfl
    have y0 := q1.1
    have hN1 : MW (upw w2 44 (.inr (6, mob 44 (mK M (.ref n))))) n M0 (n + 41) := hN.fr (fun j p1 p2 => upw_n (by omega))
    refine r_putf (ci := 6) (T := Fk6) (k := 20) o_M_image i_M_image_15 x_M_353 rfl (by decide) rfl rfl (ok6 20 (by decide)) rfl (by repeat (first | assumption | exact upw_s | refine (upw_n (by omega)).trans ?_)) (by first | assumption | omega) (by exact Nat.le_of_ble_eq_true rfl) ?_
    refine r_aload_n (i := 0) i_M_image_18 rfl rfl ?_
    refine r_getf (ci := 6) (T := Fk6) (k := 20) o_M_image i_M_image_19 x_M_353 rfl (by decide) rfl (by repeat (first | assumption | exact upw_s | refine (upw_n (by omega)).trans ?_)) (by first | assumption | omega) (by rfl) ?_
    refine r_aload_n (i := 0) i_M_image_22 rfl rfl ?_
    refine m_virtual o_M_image k_M_takeFrom v_M_takeFrom x_M_235 i_M_image_23 o_M_takeFrom (c_M_takeFrom hN1 q1 (by omega)) rfl (rcv_ob hN1.1 rfl (by omega)) rfl (by decide) (Nat.le_of_ble_eq_true rfl) (Nat.zero_le _) (Nat.zero_le _) (fun r3 w3 n3 hp8 => ?_)
    obtain ⟨rfl, ⟨hM3, hF3⟩, rfl⟩ := hp8
    refine r_iconst (v := (1 : Int32)) i_M_image_26 rfl ?_
    refine r_ireturn i_M_image_27 t_M_image rfl ?_
    refine ⟨rfl, ⟨n, _, ⟨q1.fr (fun j p1 p2 => hF3 j (by omega)), Or.inr ⟨n, by omega, rfl, hM3⟩, ?_, ?_⟩, tf_G (K := mK M (.ref n))⟩, fun j hj => (hF3 j (by omega)).trans ((upw_n (by omega)).trans (hF j (by omega)))⟩
    · refine g2.imp id (fun ⟨k, T, k1, k2, k3, k4⟩ => ⟨k, T, k1, k2, (k3.up (n' := n + 41) (by omega)).fr (fun j p1 p2 => (hF3 j (by have := k3.2.2.2.2.2.2; omega)).trans ((upw_n (by omega)).trans (hF j (by have := k3.2.2.2.2.2.2; omega)))), fun k1 hk => ?_⟩)
      have hk : (Value.ref n) = .ref k1 := hk
      have hk : n = k1 := Value.ref.inj hk
      have := k3.2.2.2.2.2.2
      omega
    · show n + 41 = 85 + 41 + nnv M.2.2.2.2
      omega
  · skip
    refine r_aload_n (i := 0) i_M_image_0 rfl rfl ?_
    refine r_getf (ci := 6) (T := Fk6) (k := 20) o_M_image i_M_image_1 x_M_353 rfl (by decide) rfl (by repeat (first | assumption | exact upw_s | refine (upw_n (by omega)).trans ?_)) (by first | assumption | omega) (by rfl) ?_
    rw [e]
    refine r_ifnonnull 18 i_M_image_4 (by decide) ?_
    refine r_aload_n (i := 0) i_M_image_18 rfl rfl ?_
    refine r_getf (ci := 6) (T := Fk6) (k := 20) o_M_image i_M_image_19 x_M_353 rfl (by decide) rfl (by repeat (first | assumption | exact upw_s | refine (upw_n (by omega)).trans ?_)) (by first | assumption | omega) (by rfl) ?_
    rw [e]
    refine r_aload_n (i := 0) i_M_image_22 rfl rfl ?_
    refine m_virtual o_M_image k_M_takeFrom v_M_takeFrom x_M_235 i_M_image_23 o_M_takeFrom (c_M_takeFrom hK g0 (by omega)) rfl (rcv_ob hK.1 rfl (by have := hK.2.2.2.2.2.2; omega)) rfl (by decide) (Nat.le_of_ble_eq_true rfl) (Nat.zero_le _) (Nat.zero_le _) (fun r3 w3 n3 hp8 => ?_)
    obtain ⟨rfl, ⟨hM3, hF3⟩, rfl⟩ := hp8
    refine r_iconst (v := (1 : Int32)) i_M_image_26 rfl ?_
    refine r_ireturn i_M_image_27 t_M_image rfl ?_
    have eM : mK M (.ref k) = M := by rw [← e]; rfl
    refine ⟨rfl, ⟨k, tfM K M, ?_, tf_G (K := M)⟩, fun j hj => hF3 j (by omega)⟩
    rw [eM]
    refine ⟨g0.fr (fun j p1 p2 => hF3 j (by omega)), Or.inr ⟨k, k1, e, hM3⟩, ?_, g3⟩
    refine g2.imp id (fun ⟨k2, T, p1, p2, p3, p4⟩ => ⟨k2, T, p1, p2, p3.fr (fun j z1 z2 => hF3 j (by have := p4 k e; omega)), p4⟩)
theorem c_X_fresh (h : XW w M K n) : Mt G 4 y_M_fresh [.ref 44] w n 41 840 (fun r w' n' => ∃ (k : Nat) (T : aM), r = some (.ref k) ∧ 85 ≤ k ∧ XW w' (mT M (.ref k)) K n' ∧ MW w' k T n' ∧ tG T M ∧ xFr w w') := by
  have hlt := h.lt
  have hgB : gB = 1000000000 := rfl
  obtain ⟨g0, g1, g2, g3⟩ := h
  have m0 := g0.1
  have hn9 := g0.2.2.2.2.2.2
  refine Mt.of k_M_fresh l_M_fresh (Nat.le_of_ble_eq_true rfl) rfl ?_
  rcases g2 with e | ⟨k, T, k1, e, hK, hdj⟩
  · rw [e] at g3
    have g3 : n = 85 + nnv M.2.2.2.1 + 0 := g3
    refine r_aload_n (i := 0) i_M_fresh_0 rfl rfl ?_
    refine r_getf (ci := 6) (T := Fk6) (k := 21) o_M_fresh i_M_fresh_1 x_M_344 rfl (by decide) rfl (by repeat (first | assumption | exact upw_s | refine (upw_n (by omega)).trans ?_)) (by first | assumption | omega) (by rfl) ?_
    rw [e]
    refine r_ifnonnullN i_M_fresh_4 ?_
    refine r_aload_n (i := 0) i_M_fresh_7 rfl rfl ?_
    refine r_new (ci := 6) o_M_fresh i_M_fresh_8 x_M_8 rfl rfl (by omega) (by omega) (by omega) ?_
    refine r_dup i_M_fresh_11 rfl ?_
    refine m_special o_M_fresh k_M_init i_M_init x_M_348 i_M_fresh_12 (c_M_init (o := n) upw_s (by omega)) rfl rfl (by decide) (Nat.le_of_ble_eq_true rfl) (by omega) (by omega) (fun r1 w2 n1 hp9 => ?_)
    obtain ⟨rfl, ⟨hN, hF⟩, rfl⟩ := hp9
    have hF : ∀ j, (j < n ∨ n + 40 < j) → w2 j = w j := fun j hj => (hF j hj).trans (upw_n (by omega))
    have q0 := (g0.fr (w' := w2) (fun j q1 q2 => hF j (by omega))).up (n' := n + 41) (by omega)
    have z0 := q0.1
    have q1 : MW (upw w2 44 (.inr (6, mob 44 (mT M (.ref n))))) 44 (mT M (.ref n)) (n + 41) := q0.ref rfl rfl
    have y0 := q1.1
    have hN1 : MW (upw w2 44 (.inr (6, mob 44 (mT M (.ref n))))) n M0 (n + 41) := hN.fr (fun j p1 p2 => upw_n (by omega))
    refine r_putf (ci := 6) (T := Fk6) (k := 21) o_M_fresh i_M_fresh_15 x_M_344 rfl (by decide) rfl rfl (ok6 21 (by decide)) rfl (by repeat (first | assumption | exact upw_s | refine (upw_n (by omega)).trans ?_)) (by first | assumption | omega) (by exact Nat.le_of_ble_eq_true rfl) ?_
    refine r_aload_n (i := 0) i_M_fresh_18 rfl rfl ?_
    refine r_getf (ci := 6) (T := Fk6) (k := 21) o_M_fresh i_M_fresh_19 x_M_344 rfl (by decide) rfl (by repeat (first | assumption | exact upw_s | refine (upw_n (by omega)).trans ?_)) (by first | assumption | omega) (by rfl) ?_
    refine r_aload_n (i := 0) i_M_fresh_22 rfl rfl ?_
    refine m_virtual o_M_fresh k_M_takeFrom v_M_takeFrom x_M_235 i_M_fresh_23 o_M_takeFrom (c_M_takeFrom hN1 q1 (by omega)) rfl (rcv_ob hN1.1 rfl (by omega)) rfl (by decide) (Nat.le_of_ble_eq_true rfl) (Nat.zero_le _) (Nat.zero_le _) (fun r3 w3 n3 hp8 => ?_)
    obtain ⟨rfl, ⟨hM3, hF3⟩, rfl⟩ := hp8
    have q3 := q1.fr (w' := w3) (fun j p1 p2 => hF3 j (by omega))
    have x0 := q3.1
    refine r_aload_n (i := 0) i_M_fresh_26 rfl rfl ?_
    refine r_getf (ci := 6) (T := Fk6) (k := 21) o_M_fresh i_M_fresh_27 x_M_344 rfl (by decide) rfl (by repeat (first | assumption | exact upw_s | refine (upw_n (by omega)).trans ?_)) (by first | assumption | omega) (by rfl) ?_
    refine r_areturn i_M_fresh_30 t_M_fresh ?_
    refine ⟨n, _, rfl, by omega, ⟨q3, ?_, Or.inr ⟨n, _, by omega, rfl, hM3, fun k1 hk => ?_⟩, ?_⟩, hM3, tf_G (K := mT M (.ref n)), fun j hj => (hF3 j (by omega)).trans ((upw_n (by omega)).trans (hF j (by omega)))⟩
    · refine g1.imp id (fun ⟨k, k1, k2, k3⟩ => ⟨k, k1, k2, (k3.up (n' := n + 41) (by omega)).fr (fun j p1 p2 => (hF3 j (by have := k3.2.2.2.2.2.2; omega)).trans ((upw_n (by omega)).trans (hF j (by have := k3.2.2.2.2.2.2; omega))))⟩)
    · have hk : M.2.2.2.1 = .ref k1 := hk
      obtain ⟨k, q1, q2, q3⟩ := g1.resolve_left (by rw [hk]; intro z; cases z)
      have q2 : k1 = k := Value.ref.inj (hk.symm.trans q2)
      have := q3.2.2.2.2.2.2
      omega
    · show n + 41 = 85 + nnv M.2.2.2.1 + 41
      omega
  · skip
    refine r_aload_n (i := 0) i_M_fresh_0 rfl rfl ?_
    refine r_getf (ci := 6) (T := Fk6) (k := 21) o_M_fresh i_M_fresh_1 x_M_344 rfl (by decide) rfl (by repeat (first | assumption | exact upw_s | refine (upw_n (by omega)).trans ?_)) (by first | assumption | omega) (by rfl) ?_
    rw [e]
    refine r_ifnonnull 18 i_M_fresh_4 (by decide) ?_
    refine r_aload_n (i := 0) i_M_fresh_18 rfl rfl ?_
    refine r_getf (ci := 6) (T := Fk6) (k := 21) o_M_fresh i_M_fresh_19 x_M_344 rfl (by decide) rfl (by repeat (first | assumption | exact upw_s | refine (upw_n (by omega)).trans ?_)) (by first | assumption | omega) (by rfl) ?_
    rw [e]
    refine r_aload_n (i := 0) i_M_fresh_22 rfl rfl ?_
    refine m_virtual o_M_fresh k_M_takeFrom v_M_takeFrom x_M_235 i_M_fresh_23 o_M_takeFrom (c_M_takeFrom hK g0 (by omega)) rfl (rcv_ob hK.1 rfl (by have := hK.2.2.2.2.2.2; omega)) rfl (by decide) (Nat.le_of_ble_eq_true rfl) (Nat.zero_le _) (Nat.zero_le _) (fun r3 w3 n3 hp8 => ?_)
    obtain ⟨rfl, ⟨hM3, hF3⟩, rfl⟩ := hp8
    have q3 := g0.fr (w' := w3) (fun j p1 p2 => hF3 j (by omega))
    have x0 := q3.1
    refine r_aload_n (i := 0) i_M_fresh_26 rfl rfl ?_
    refine r_getf (ci := 6) (T := Fk6) (k := 21) o_M_fresh i_M_fresh_27 x_M_344 rfl (by decide) rfl (by repeat (first | assumption | exact upw_s | refine (upw_n (by omega)).trans ?_)) (by first | assumption | omega) (by rfl) ?_
    rw [e]
    refine r_areturn i_M_fresh_30 t_M_fresh ?_
    have eM : mT M (.ref k) = M := by rw [← e]; rfl
    refine ⟨k, _, rfl, k1, ?_, hM3, tf_G (K := M), fun j hj => hF3 j (by omega)⟩
    rw [eM]
    refine ⟨q3, ?_, Or.inr ⟨k, _, k1, e, hM3, hdj⟩, g3⟩
    exact g1.imp id (fun ⟨k2, p1, p2, p3⟩ => ⟨k2, p1, p2, p3.fr (fun j z1 z2 => hF3 j (by have := hdj k2 p2; omega))⟩)
theorem c_X_back (h : XW w M K n) : Mt G 4 y_M_back [.ref 44] w n 0 0 (fun r w' n' => n' = n ∧ xFr w w' ∧ ((M.2.2.2.1 = .null ∧ r = some (.int (-5)) ∧ XW w' (mR M 5) K n) ∨ (¬ M.2.2.2.1 = .null ∧ r = some (.int 1) ∧ XW w' (tfM M K) K n))) := by
  obtain ⟨g0, g1, g2, g3⟩ := id h
  have m0 := g0.1
  have hn9 := g0.2.2.2.2.2.2
  refine Mt.of k_M_back l_M_back (Nat.le_of_ble_eq_true rfl) rfl ?_
  rcases g1 with e | ⟨k, k1, e, hK⟩
  · skip
    refine r_aload_n (i := 0) i_M_back_0 rfl rfl ?_
    refine r_getf (ci := 6) (T := Fk6) (k := 20) o_M_back i_M_back_1 x_M_353 rfl (by decide) rfl (by repeat (first | assumption | exact upw_s | refine (upw_n (by omega)).trans ?_)) (by first | assumption | omega) (by rfl) ?_
    rw [e]
    refine r_ifnonnullN i_M_back_4 ?_
    refine r_aload_n (i := 0) i_M_back_7 rfl rfl ?_
    refine r_bipush (v := (-5 : Int32)) i_M_back_8 (by decide) ?_
    refine m_virtual o_M_back k_M_refuse v_M_refuse x_M_89 i_M_back_10 o_M_refuse (c_M_refuse (i := 5) g0 (by decide)) rfl (rcv_ob (by repeat (first | assumption | exact upw_s | refine (upw_n (by omega)).trans ?_)) rfl (by first | assumption | omega)) rfl (by decide) (Nat.le_of_ble_eq_true rfl) (Nat.zero_le _) (Nat.zero_le _) (fun rr10 wr10 nr10 hp9 => ?_)
    obtain ⟨rfl, hp9, rfl⟩ := hp9
    refine r_ireturn i_M_back_13 t_M_back rfl ?_
    exact ⟨rfl, (h.mm hp9.1 hp9.2 rfl).2, Or.inl ⟨rfl, rfl, (h.mm hp9.1 hp9.2 rfl).1⟩⟩
  · skip
    refine r_aload_n (i := 0) i_M_back_0 rfl rfl ?_
    refine r_getf (ci := 6) (T := Fk6) (k := 20) o_M_back i_M_back_1 x_M_353 rfl (by decide) rfl (by repeat (first | assumption | exact upw_s | refine (upw_n (by omega)).trans ?_)) (by first | assumption | omega) (by rfl) ?_
    rw [e]
    refine r_ifnonnull 14 i_M_back_4 (by decide) ?_
    refine r_aload_n (i := 0) i_M_back_14 rfl rfl ?_
    refine r_aload_n (i := 0) i_M_back_15 rfl rfl ?_
    refine r_getf (ci := 6) (T := Fk6) (k := 20) o_M_back i_M_back_16 x_M_353 rfl (by decide) rfl (by repeat (first | assumption | exact upw_s | refine (upw_n (by omega)).trans ?_)) (by first | assumption | omega) (by rfl) ?_
    rw [e]
    refine m_virtual o_M_back k_M_takeFrom v_M_takeFrom x_M_235 i_M_back_19 o_M_takeFrom (c_M_takeFrom g0 hK (by omega)) rfl (rcv_ob (by repeat (first | assumption | exact upw_s | refine (upw_n (by omega)).trans ?_)) rfl (by first | assumption | omega)) rfl (by decide) (Nat.le_of_ble_eq_true rfl) (Nat.zero_le _) (Nat.zero_le _) (fun r3 w3 n3 hp8 => ?_)
    obtain ⟨rfl, ⟨hM3, hF3⟩, rfl⟩ := hp8
    refine r_iconst (v := (1 : Int32)) i_M_back_22 rfl ?_
    refine r_ireturn i_M_back_23 t_M_back rfl ?_
    exact ⟨rfl, (h.mm hM3 hF3 rfl).2, Or.inr ⟨(fun z => by cases z), rfl, (h.mm hM3 hF3 rfl).1⟩⟩
end MKEEP
