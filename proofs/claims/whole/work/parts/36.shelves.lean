-- SHELVES
abbrev aH : Type := (Nat → Int32) × (Nat → Int32) × (Nat → Int32) × (Nat → Int64)
abbrev al (len : Nat) (f : Nat → Int64) : aC := .inl (1, (len, .inr (.inl f)))
abbrev sob (k : Nat) : List Value := [.ref (k + 1), .ref (k + 2), .ref (k + 3), .ref (k + 4)]
def SW (w : aW) (k : Nat) (X : aH) (n : Nat) : Prop := w k = .inr (2, sob k) ∧ w (k + 1) = ai 8 X.1 ∧ w (k + 2) = ai 8 X.2.1 ∧ w (k + 3) = ai 8 X.2.2.1 ∧ w (k + 4) = al 320 X.2.2.2 ∧ k + 4 < n
def SU (w w' : aW) (k : Nat) (X : aH) (n : Nat) : Prop := SW w' k X n ∧ ∀ j, (j < k ∨ k + 4 < j) → w' j = w j
def Sm (G : gE) (d z : Nat) (args : List Value) (w : aW) (n : Nat) (r0 : Option Value) (k : Nat) (X : aH) : Prop := Mt G d z args w n 0 0 (fun r w' n' => r = r0 ∧ SU w w' k X n ∧ n' = n)
theorem Sm.of {G : gE} {d z na nL : Nat} {args : List Value} {w : aW} {n : Nat} {r : Option Value} {k : Nat} {X : aH} {ls : List (Option Value)} (hz : okM z na) (hm : ml z = nL) (hfit : Nat.ble (ent args).length nL = true) (hls : ent args ++ List.replicate (nL - (ent args).length) none = ls)
    (h : Go G d z 0 ls [] w n 0 0 (fun r1 w1 n1 => r1 = r ∧ SU w w1 k X n ∧ n1 = n)) : Sm G d z args w n r k X := Mt.of hz hm (Nat.le_of_ble_eq_true hfit) hls h
def heldI (X : aH) (s : Int32) : Int32 := if lt0 s 8 then atI X.1 8 s else -1
def isRow (X : aH) (s : Int32) : Bool := lt0 (heldI X s) 5
def isRule (X : aH) (s : Int32) : Bool := decide (¬ heldI X s < 10)
def rowR (X : aH) (s : Int32) : Int32 := if lt0 s 8 then (if isRule X s then -3 else if isRow X s then 0 else -4) else -2
def ruleR (X : aH) (s : Int32) : Int32 := if lt0 s 8 then (if isRow X s then -3 else if isRule X s then 0 else -4) else -2
def sizeI (X : aH) (s : Int32) : Int32 := if isRow X s then atI X.2.1 8 s else 0
def lowb (sort : Int32) (v : Int64) : Int64 := if sort = 0 then v.toInt32.toInt8.toInt32.toInt64 else if sort = 1 then v.toInt32.toInt16.toInt32.toInt64 else if sort = 2 then v.toInt32.toInt64 else if sort = 4 then (if v = 0 then 0 else 1) else v
theorem ix40 {s i : Nat} : nI s * 40 + nI i = nI (40 * s + i) := by
  rw [show (40 : Int32) = nI 40 from rfl, pk_mul, nI_add, Nat.mul_comm s 40]
theorem lt0_in {k N : Nat} (h : k < N) (hN : N < 2 ^ 31) : lt0 (nI k) (nI N) = true := by
  unfold lt0
  exact decide_eq_true ⟨nI_pos (by omega), nI_ge h hN⟩
theorem lt0_of {v : Int32} {N : Nat} (hN : N < 2 ^ 31) (h : lt0 v (nI N) = true) : ∃ k, k < N ∧ v = nI k := by
  have h := of_decide_eq_true h
  obtain ⟨j, hj, rfl⟩ := nI_of h.1
  exact ⟨j, Nat.not_le.mp fun q => h.2 (nI_le q hj), rfl⟩
section SHELVES
variable {G : gE} {w : aW} {n k : Nat} {X : aH}
theorem c_S_lowest0 {v : Int64} : Fn G 0 y_S_lowestBits [.int 0, .long v] w n (some (.long (lowb 0 v))) w := by
  refine Fn.of k_S_lowestBits l_S_lowestBits rfl rfl ?_
  refine r_iload_n (i := 0) i_S_lowestBits_0 rfl rfl ?_
  refine r_tableIn 36 i_S_lowestBits_1 (by decide) (by decide) (by rfl) (by decide) ?_
  refine r_lload_n (i := 1) i_S_lowestBits_36 rfl rfl ?_
  refine r_l2i i_S_lowestBits_37 ?_
  refine r_i2b i_S_lowestBits_38 ?_
  refine r_i2l i_S_lowestBits_39 ?_
  refine r_lreturn i_S_lowestBits_40 t_S_lowestBits ?_
  exact ⟨rfl, rfl, rfl⟩
theorem c_S_lowest1 {v : Int64} : Fn G 0 y_S_lowestBits [.int 1, .long v] w n (some (.long (lowb 1 v))) w := by
  refine Fn.of k_S_lowestBits l_S_lowestBits rfl rfl ?_
  refine r_iload_n (i := 0) i_S_lowestBits_0 rfl rfl ?_
  refine r_tableIn 41 i_S_lowestBits_1 (by decide) (by decide) (by rfl) (by decide) ?_
  refine r_lload_n (i := 1) i_S_lowestBits_41 rfl rfl ?_
  refine r_l2i i_S_lowestBits_42 ?_
  refine r_i2s i_S_lowestBits_43 ?_
  refine r_i2l i_S_lowestBits_44 ?_
  refine r_lreturn i_S_lowestBits_45 t_S_lowestBits ?_
  exact ⟨rfl, rfl, rfl⟩
theorem c_S_lowest2 {v : Int64} : Fn G 0 y_S_lowestBits [.int 2, .long v] w n (some (.long (lowb 2 v))) w := by
  refine Fn.of k_S_lowestBits l_S_lowestBits rfl rfl ?_
  refine r_iload_n (i := 0) i_S_lowestBits_0 rfl rfl ?_
  refine r_tableIn 46 i_S_lowestBits_1 (by decide) (by decide) (by rfl) (by decide) ?_
  refine r_lload_n (i := 1) i_S_lowestBits_46 rfl rfl ?_
  refine r_l2i i_S_lowestBits_47 ?_
  refine r_i2l i_S_lowestBits_48 ?_
  refine r_lreturn i_S_lowestBits_49 t_S_lowestBits ?_
  exact ⟨rfl, rfl, rfl⟩
theorem c_S_lowest3 {v : Int64} : Fn G 0 y_S_lowestBits [.int 3, .long v] w n (some (.long (lowb 3 v))) w := by
  refine Fn.of k_S_lowestBits l_S_lowestBits rfl rfl ?_
  refine r_iload_n (i := 0) i_S_lowestBits_0 rfl rfl ?_
  refine r_tableIn 62 i_S_lowestBits_1 (by decide) (by decide) (by rfl) (by decide) ?_
  refine r_lload_n (i := 1) i_S_lowestBits_62 rfl rfl ?_
  refine r_lreturn i_S_lowestBits_63 t_S_lowestBits ?_
  exact ⟨rfl, rfl, rfl⟩
theorem c_S_lowest4 {v : Int64} : Fn G 0 y_S_lowestBits [.int 4, .long v] w n (some (.long (lowb 4 v))) w := by
  refine Fn.of k_S_lowestBits l_S_lowestBits rfl rfl ?_
  refine r_iload_n (i := 0) i_S_lowestBits_0 rfl rfl ?_
  refine r_tableIn 50 i_S_lowestBits_1 (by decide) (by decide) (by rfl) (by decide) ?_
  refine r_lload_n (i := 1) i_S_lowestBits_50 rfl rfl ?_
  refine r_lconst (v := (0 : Int64)) i_S_lowestBits_51 rfl ?_
  refine r_lcmp i_S_lowestBits_52 ?_
  refine r_if_eq 60 i_S_lowestBits_53 (by decide) (fun h53 => ?_) (fun h53 => ?_)
  · skip
    have h53 := lcmp_eq.mp h53
    refine r_lconst (v := (0 : Int64)) i_S_lowestBits_60 rfl ?_
    refine r_lreturn i_S_lowestBits_61 t_S_lowestBits ?_
    exact ⟨by simp [lowb, h53], rfl, rfl⟩
  · skip
    have h53 : ¬ v = 0 := fun h => h53 (lcmp_eq.mpr h)
    refine r_lconst (v := (1 : Int64)) i_S_lowestBits_56 rfl ?_
    refine r_goto 61 i_S_lowestBits_57 (by decide) ?_
    refine r_lreturn i_S_lowestBits_61 t_S_lowestBits ?_
    exact ⟨by simp [lowb, h53], rfl, rfl⟩
theorem c_S_lowestBits {c : Nat} {v : Int64} (hc : c < 5) : Fn G 0 y_S_lowestBits [.int (nI c), .long v] w n (some (.long (lowb (nI c) v))) w := by
  match c, hc with
  | 0, _ => exact c_S_lowest0
  | 1, _ => exact c_S_lowest1
  | 2, _ => exact c_S_lowest2
  | 3, _ => exact c_S_lowest3
  | 4, _ => exact c_S_lowest4
theorem c_S_heldIn {s : Int32} (hX : SW w k X n) : Fn G 1 y_S_heldIn [.ref k, .int s] w n (some (.int (heldI X s))) w := by
  obtain ⟨g0, g1, g2, g3, g4, hn⟩ := hX
  refine Fn.of k_S_heldIn l_S_heldIn rfl rfl ?_
  refine r_iload_n (i := 1) i_S_heldIn_0 rfl rfl ?_
  refine r_bipush (v := (8 : Int32)) i_S_heldIn_1 (by decide) ?_
  refine f_staticN o_S_heldIn k_N_isBelow s_N_isBelow x_S_25 i_S_heldIn_3 (c_N_isBelow) rfl rfl (by decide) (Nat.le_of_ble_eq_true rfl) ?_
  refine r_if_eq 20 i_S_heldIn_6 (by decide) (fun h6 => ?_) (fun h6 => ?_)
  · skip
    have h6 := bI_eq0.mp h6
    refine r_iconst (v := (-1 : Int32)) i_S_heldIn_20 rfl ?_
    refine r_ireturn i_S_heldIn_21 t_S_heldIn rfl ?_
    exact ⟨by simp [heldI, h6], rfl, rfl⟩
  · skip
    have h6 := bI_ne0.mp h6
    refine r_aload_n (i := 0) i_S_heldIn_9 rfl rfl ?_
    refine r_getf (ci := 2) (T := Fk2) (k := 0) o_S_heldIn i_S_heldIn_10 x_S_9 rfl (by decide) rfl (by repeat (first | assumption | exact upw_s | refine (upw_n (by omega)).trans ?_)) (by first | assumption | omega) (by rfl) ?_
    refine r_iload_n (i := 1) i_S_heldIn_13 rfl rfl ?_
    refine f_staticN o_S_heldIn k_N_at s_N_at x_S_29 i_S_heldIn_14 (c_N_at (by repeat (first | assumption | exact upw_s | refine (upw_n (by omega)).trans ?_)) (by omega) (by decide)) rfl rfl (by decide) (Nat.le_of_ble_eq_true rfl) ?_
    refine r_goto 21 i_S_heldIn_17 (by decide) ?_
    refine r_ireturn i_S_heldIn_21 t_S_heldIn rfl ?_
    exact ⟨by simp [heldI, h6], rfl, rfl⟩
theorem c_S_holdsRow {s : Int32} (hX : SW w k X n) : Fn G 2 y_S_holdsRow [.ref k, .int s] w n (some (.int (bI (isRow X s)))) w := by
  have hX0 := hX
  obtain ⟨g0, g1, g2, g3, g4, hn⟩ := hX
  refine Fn.of k_S_holdsRow l_S_holdsRow rfl rfl ?_
  refine r_aload_n (i := 0) i_S_holdsRow_0 rfl rfl ?_
  refine r_iload_n (i := 1) i_S_holdsRow_1 rfl rfl ?_
  refine f_virtual o_S_holdsRow k_S_heldIn v_S_heldIn x_S_33 i_S_holdsRow_2 o_S_heldIn (c_S_heldIn hX0) rfl (rcv_ob (by repeat (first | assumption | exact upw_s | refine (upw_n (by omega)).trans ?_)) rfl (by first | assumption | omega)) rfl (by decide) (Nat.le_of_ble_eq_true rfl) ?_
  refine r_iconst (v := (5 : Int32)) i_S_holdsRow_5 rfl ?_
  refine f_staticN o_S_holdsRow k_N_isBelow s_N_isBelow x_S_25 i_S_holdsRow_6 (c_N_isBelow) rfl rfl (by decide) (Nat.le_of_ble_eq_true rfl) ?_
  refine r_ireturn i_S_holdsRow_9 t_S_holdsRow (by first | rfl | exact nar_bI _) ?_
  exact ⟨rfl, rfl, rfl⟩
theorem c_S_holdsRule {s : Int32} (hX : SW w k X n) : Fn G 2 y_S_holdsRule [.ref k, .int s] w n (some (.int (bI (isRule X s)))) w := by
  have hX0 := hX
  obtain ⟨g0, g1, g2, g3, g4, hn⟩ := hX
  refine Fn.of k_S_holdsRule l_S_holdsRule rfl rfl ?_
  refine r_aload_n (i := 0) i_S_holdsRule_0 rfl rfl ?_
  refine r_iload_n (i := 1) i_S_holdsRule_1 rfl rfl ?_
  refine f_virtual o_S_holdsRule k_S_heldIn v_S_heldIn x_S_33 i_S_holdsRule_2 o_S_heldIn (c_S_heldIn hX0) rfl (rcv_ob (by repeat (first | assumption | exact upw_s | refine (upw_n (by omega)).trans ?_)) rfl (by first | assumption | omega)) rfl (by decide) (Nat.le_of_ble_eq_true rfl) ?_
  refine r_bipush (v := (10 : Int32)) i_S_holdsRule_5 (by decide) ?_
  refine r_icmp_lt 14 i_S_holdsRule_7 (by decide) (fun h7 => ?_) (fun h7 => ?_)
  · skip
    refine r_iconst (v := (0 : Int32)) i_S_holdsRule_14 rfl ?_
    refine r_ireturn i_S_holdsRule_15 t_S_holdsRule (by first | rfl | exact nar_bI _) ?_
    exact ⟨by simp [bI, isRule, h7], rfl, rfl⟩
  · skip
    refine r_iconst (v := (1 : Int32)) i_S_holdsRule_10 rfl ?_
    refine r_goto 15 i_S_holdsRule_11 (by decide) ?_
    refine r_ireturn i_S_holdsRule_15 t_S_holdsRule (by first | rfl | exact nar_bI _) ?_
    exact ⟨by simp [bI, isRule, h7], rfl, rfl⟩
theorem c_S_rowRefusal {s : Int32} (hX : SW w k X n) : Fn G 3 y_S_rowRefusal [.ref k, .int s] w n (some (.int (rowR X s))) w := by
  have hX0 := hX
  obtain ⟨g0, g1, g2, g3, g4, hn⟩ := hX
  refine Fn.of k_S_rowRefusal l_S_rowRefusal rfl rfl ?_
  refine r_iload_n (i := 1) i_S_rowRefusal_0 rfl rfl ?_
  refine r_bipush (v := (8 : Int32)) i_S_rowRefusal_1 (by decide) ?_
  refine f_staticN o_S_rowRefusal k_N_isBelow s_N_isBelow x_S_25 i_S_rowRefusal_3 (c_N_isBelow) rfl rfl (by decide) (Nat.le_of_ble_eq_true rfl) ?_
  refine r_if_ne 12 i_S_rowRefusal_6 (by decide) (fun h6 => ?_) (fun h6 => ?_)
  · skip
    refine r_aload_n (i := 0) i_S_rowRefusal_12 rfl rfl ?_
    refine r_iload_n (i := 1) i_S_rowRefusal_13 rfl rfl ?_
    refine f_virtual o_S_rowRefusal k_S_holdsRule v_S_holdsRule x_S_37 i_S_rowRefusal_14 o_S_holdsRule (c_S_holdsRule hX0) rfl (rcv_ob (by repeat (first | assumption | exact upw_s | refine (upw_n (by omega)).trans ?_)) rfl (by first | assumption | omega)) rfl (by decide) (Nat.le_of_ble_eq_true rfl) ?_
    refine r_if_eq 23 i_S_rowRefusal_17 (by decide) (fun h17 => ?_) (fun h17 => ?_)
    · skip
      refine r_aload_n (i := 0) i_S_rowRefusal_23 rfl rfl ?_
      refine r_iload_n (i := 1) i_S_rowRefusal_24 rfl rfl ?_
      refine f_virtual o_S_rowRefusal k_S_holdsRow v_S_holdsRow x_S_41 i_S_rowRefusal_25 o_S_holdsRow (c_S_holdsRow hX0) rfl (rcv_ob (by repeat (first | assumption | exact upw_s | refine (upw_n (by omega)).trans ?_)) rfl (by first | assumption | omega)) rfl (by decide) (Nat.le_of_ble_eq_true rfl) ?_
      refine r_if_eq 35 i_S_rowRefusal_28 (by decide) (fun h28 => ?_) (fun h28 => ?_)
      · skip
        refine r_bipush (v := (-4 : Int32)) i_S_rowRefusal_35 (by decide) ?_
        refine r_ireturn i_S_rowRefusal_37 t_S_rowRefusal rfl ?_
        exact ⟨by simp_all [rowR, bI_eq0, bI_ne0], rfl, rfl⟩
      · skip
        refine r_iconst (v := (0 : Int32)) i_S_rowRefusal_31 rfl ?_
        refine r_goto 37 i_S_rowRefusal_32 (by decide) ?_
        refine r_ireturn i_S_rowRefusal_37 t_S_rowRefusal rfl ?_
        exact ⟨by simp_all [rowR, bI_eq0, bI_ne0], rfl, rfl⟩
    · skip
      refine r_bipush (v := (-3 : Int32)) i_S_rowRefusal_20 (by decide) ?_
      refine r_ireturn i_S_rowRefusal_22 t_S_rowRefusal rfl ?_
      exact ⟨by simp_all [rowR, bI_eq0, bI_ne0], rfl, rfl⟩
  · skip
    refine r_bipush (v := (-2 : Int32)) i_S_rowRefusal_9 (by decide) ?_
    refine r_ireturn i_S_rowRefusal_11 t_S_rowRefusal rfl ?_
    exact ⟨by simp_all [rowR, bI_eq0, bI_ne0], rfl, rfl⟩
theorem c_S_ruleRefusal {s : Int32} (hX : SW w k X n) : Fn G 3 y_S_ruleRefusal [.ref k, .int s] w n (some (.int (ruleR X s))) w := by
  have hX0 := hX
  obtain ⟨g0, g1, g2, g3, g4, hn⟩ := hX
  refine Fn.of k_S_ruleRefusal l_S_ruleRefusal rfl rfl ?_
  refine r_iload_n (i := 1) i_S_ruleRefusal_0 rfl rfl ?_
  refine r_bipush (v := (8 : Int32)) i_S_ruleRefusal_1 (by decide) ?_
  refine f_staticN o_S_ruleRefusal k_N_isBelow s_N_isBelow x_S_25 i_S_ruleRefusal_3 (c_N_isBelow) rfl rfl (by decide) (Nat.le_of_ble_eq_true rfl) ?_
  refine r_if_ne 12 i_S_ruleRefusal_6 (by decide) (fun h6 => ?_) (fun h6 => ?_)
  · skip
    refine r_aload_n (i := 0) i_S_ruleRefusal_12 rfl rfl ?_
    refine r_iload_n (i := 1) i_S_ruleRefusal_13 rfl rfl ?_
    refine f_virtual o_S_ruleRefusal k_S_holdsRow v_S_holdsRow x_S_41 i_S_ruleRefusal_14 o_S_holdsRow (c_S_holdsRow hX0) rfl (rcv_ob (by repeat (first | assumption | exact upw_s | refine (upw_n (by omega)).trans ?_)) rfl (by first | assumption | omega)) rfl (by decide) (Nat.le_of_ble_eq_true rfl) ?_
    refine r_if_eq 23 i_S_ruleRefusal_17 (by decide) (fun h17 => ?_) (fun h17 => ?_)
    · skip
      refine r_aload_n (i := 0) i_S_ruleRefusal_23 rfl rfl ?_
      refine r_iload_n (i := 1) i_S_ruleRefusal_24 rfl rfl ?_
      refine f_virtual o_S_ruleRefusal k_S_holdsRule v_S_holdsRule x_S_37 i_S_ruleRefusal_25 o_S_holdsRule (c_S_holdsRule hX0) rfl (rcv_ob (by repeat (first | assumption | exact upw_s | refine (upw_n (by omega)).trans ?_)) rfl (by first | assumption | omega)) rfl (by decide) (Nat.le_of_ble_eq_true rfl) ?_
      refine r_if_eq 35 i_S_ruleRefusal_28 (by decide) (fun h28 => ?_) (fun h28 => ?_)
      · skip
        refine r_bipush (v := (-4 : Int32)) i_S_ruleRefusal_35 (by decide) ?_
        refine r_ireturn i_S_ruleRefusal_37 t_S_ruleRefusal rfl ?_
        exact ⟨by simp_all [ruleR, bI_eq0, bI_ne0], rfl, rfl⟩
      · skip
        refine r_iconst (v := (0 : Int32)) i_S_ruleRefusal_31 rfl ?_
        refine r_goto 37 i_S_ruleRefusal_32 (by decide) ?_
        refine r_ireturn i_S_ruleRefusal_37 t_S_ruleRefusal rfl ?_
        exact ⟨by simp_all [ruleR, bI_eq0, bI_ne0], rfl, rfl⟩
    · skip
      refine r_bipush (v := (-3 : Int32)) i_S_ruleRefusal_20 (by decide) ?_
      refine r_ireturn i_S_ruleRefusal_22 t_S_ruleRefusal rfl ?_
      exact ⟨by simp_all [ruleR, bI_eq0, bI_ne0], rfl, rfl⟩
  · skip
    refine r_bipush (v := (-2 : Int32)) i_S_ruleRefusal_9 (by decide) ?_
    refine r_ireturn i_S_ruleRefusal_11 t_S_ruleRefusal rfl ?_
    exact ⟨by simp_all [ruleR, bI_eq0, bI_ne0], rfl, rfl⟩
theorem c_S_sizeOf {s : Int32} (hX : SW w k X n) : Fn G 3 y_S_sizeOf [.ref k, .int s] w n (some (.int (sizeI X s))) w := by
  have hX0 := hX
  obtain ⟨g0, g1, g2, g3, g4, hn⟩ := hX
  refine Fn.of k_S_sizeOf l_S_sizeOf rfl rfl ?_
  refine r_aload_n (i := 0) i_S_sizeOf_0 rfl rfl ?_
  refine r_iload_n (i := 1) i_S_sizeOf_1 rfl rfl ?_
  refine f_virtual o_S_sizeOf k_S_holdsRow v_S_holdsRow x_S_41 i_S_sizeOf_2 o_S_holdsRow (c_S_holdsRow hX0) rfl (rcv_ob (by repeat (first | assumption | exact upw_s | refine (upw_n (by omega)).trans ?_)) rfl (by first | assumption | omega)) rfl (by decide) (Nat.le_of_ble_eq_true rfl) ?_
  refine r_if_eq 19 i_S_sizeOf_5 (by decide) (fun h5 => ?_) (fun h5 => ?_)
  · skip
    refine r_iconst (v := (0 : Int32)) i_S_sizeOf_19 rfl ?_
    refine r_ireturn i_S_sizeOf_20 t_S_sizeOf rfl ?_
    exact ⟨by simp_all [sizeI, bI_eq0, bI_ne0], rfl, rfl⟩
  · skip
    refine r_aload_n (i := 0) i_S_sizeOf_8 rfl rfl ?_
    refine r_getf (ci := 2) (T := Fk2) (k := 1) o_S_sizeOf i_S_sizeOf_9 x_S_15 rfl (by decide) rfl (by repeat (first | assumption | exact upw_s | refine (upw_n (by omega)).trans ?_)) (by first | assumption | omega) (by rfl) ?_
    refine r_iload_n (i := 1) i_S_sizeOf_12 rfl rfl ?_
    refine f_staticN o_S_sizeOf k_N_at s_N_at x_S_29 i_S_sizeOf_13 (c_N_at (by repeat (first | assumption | exact upw_s | refine (upw_n (by omega)).trans ?_)) (by omega) (by decide)) rfl rfl (by decide) (Nat.le_of_ble_eq_true rfl) ?_
    refine r_goto 20 i_S_sizeOf_16 (by decide) ?_
    refine r_ireturn i_S_sizeOf_20 t_S_sizeOf rfl ?_
    exact ⟨by simp_all [sizeI, bI_eq0, bI_ne0], rfl, rfl⟩
theorem c_S_kindIn {s : Int32} (hX : SW w k X n) : Fn G 2 y_S_kindIn [.ref k, .int s] w n (some (.int (heldI X s - 10))) w := by
  have hX0 := hX
  obtain ⟨g0, g1, g2, g3, g4, hn⟩ := hX
  refine Fn.of k_S_kindIn l_S_kindIn rfl rfl ?_
  refine r_aload_n (i := 0) i_S_kindIn_0 rfl rfl ?_
  refine r_iload_n (i := 1) i_S_kindIn_1 rfl rfl ?_
  refine f_virtual o_S_kindIn k_S_heldIn v_S_heldIn x_S_33 i_S_kindIn_2 o_S_heldIn (c_S_heldIn hX0) rfl (rcv_ob (by repeat (first | assumption | exact upw_s | refine (upw_n (by omega)).trans ?_)) rfl (by first | assumption | omega)) rfl (by decide) (Nat.le_of_ble_eq_true rfl) ?_
  refine r_bipush (v := (10 : Int32)) i_S_kindIn_5 (by decide) ?_
  refine r_isub i_S_kindIn_7 ?_
  refine r_ireturn i_S_kindIn_8 t_S_kindIn rfl ?_
  exact ⟨rfl, rfl, rfl⟩
theorem c_S_numberIn {s : Int32} (hX : SW w k X n) : Fn G 1 y_S_numberIn [.ref k, .int s] w n (some (.int (atI X.2.2.1 8 s))) w := by
  obtain ⟨g0, g1, g2, g3, g4, hn⟩ := hX
  refine Fn.of k_S_numberIn l_S_numberIn rfl rfl ?_
  refine r_aload_n (i := 0) i_S_numberIn_0 rfl rfl ?_
  refine r_getf (ci := 2) (T := Fk2) (k := 2) o_S_numberIn i_S_numberIn_1 x_S_18 rfl (by decide) rfl (by repeat (first | assumption | exact upw_s | refine (upw_n (by omega)).trans ?_)) (by first | assumption | omega) (by rfl) ?_
  refine r_iload_n (i := 1) i_S_numberIn_4 rfl rfl ?_
  refine f_staticN o_S_numberIn k_N_at s_N_at x_S_29 i_S_numberIn_5 (c_N_at (by repeat (first | assumption | exact upw_s | refine (upw_n (by omega)).trans ?_)) (by omega) (by decide)) rfl rfl (by decide) (Nat.le_of_ble_eq_true rfl) ?_
  refine r_ireturn i_S_numberIn_8 t_S_numberIn rfl ?_
  exact ⟨rfl, rfl, rfl⟩
def spanB (i m z : Int32) : Bool := decide (¬ i < 0) && decide (¬ m < 0) && decide (¬ z - i < m)
theorem c_S_isSpan {i m z : Int32} : Fn G 0 y_S_isSpan [.int i, .int m, .int z] w n (some (.int (bI (spanB i m z)))) w := by
  refine Fn.of k_S_isSpan l_S_isSpan rfl rfl ?_
  refine r_iload_n (i := 0) i_S_isSpan_0 rfl rfl ?_
  refine r_if_lt 19 i_S_isSpan_1 (by decide) (fun h1 => ?_) (fun h1 => ?_)
  · skip
    refine r_iconst (v := (0 : Int32)) i_S_isSpan_19 rfl ?_
    refine r_ireturn i_S_isSpan_20 t_S_isSpan (by first | rfl | exact nar_bI _) ?_
    exact ⟨by simp [bI, spanB, *], rfl, rfl⟩
  · skip
    refine r_iload_n (i := 1) i_S_isSpan_4 rfl rfl ?_
    refine r_if_lt 19 i_S_isSpan_5 (by decide) (fun h5 => ?_) (fun h5 => ?_)
    · skip
      refine r_iconst (v := (0 : Int32)) i_S_isSpan_19 rfl ?_
      refine r_ireturn i_S_isSpan_20 t_S_isSpan (by first | rfl | exact nar_bI _) ?_
      exact ⟨by simp [bI, spanB, *], rfl, rfl⟩
    · skip
      refine r_iload_n (i := 1) i_S_isSpan_8 rfl rfl ?_
      refine r_iload_n (i := 2) i_S_isSpan_9 rfl rfl ?_
      refine r_iload_n (i := 0) i_S_isSpan_10 rfl rfl ?_
      refine r_isub i_S_isSpan_11 ?_
      refine r_icmp_gt 19 i_S_isSpan_12 (by decide) (fun h12 => ?_) (fun h12 => ?_)
      · skip
        refine r_iconst (v := (0 : Int32)) i_S_isSpan_19 rfl ?_
        refine r_ireturn i_S_isSpan_20 t_S_isSpan (by first | rfl | exact nar_bI _) ?_
        exact ⟨by simp [bI, spanB, *], rfl, rfl⟩
      · skip
        refine r_iconst (v := (1 : Int32)) i_S_isSpan_15 rfl ?_
        refine r_goto 20 i_S_isSpan_16 (by decide) ?_
        refine r_ireturn i_S_isSpan_20 t_S_isSpan (by first | rfl | exact nar_bI _) ?_
        exact ⟨by simp [bI, spanB, *], rfl, rfl⟩
def copyR (X : aH) (p q i j m : Int32) : Int32 :=
  if !(lt0 p 8) || !(lt0 q 8) then -2 else if isRule X p || isRule X q then -3 else if isRow X p && isRow X q then (if heldI X p = heldI X q then (if spanB i m (sizeI X p) && spanB j m (sizeI X q) then 0 else -2) else -3) else -4
theorem c_S_copyRefusal {p q i j m : Int32} (hX : SW w k X n) : Fn G 4 y_S_copyRefusal [.ref k, .int p, .int q, .int i, .int j, .int m] w n (some (.int (copyR X p q i j m))) w := by
  have hX0 := hX
  obtain ⟨g0, g1, g2, g3, g4, hn⟩ := hX
  refine Fn.of k_S_copyRefusal l_S_copyRefusal rfl rfl ?_
  refine r_iload_n (i := 1) i_S_copyRefusal_0 rfl rfl ?_
  refine r_bipush (v := (8 : Int32)) i_S_copyRefusal_1 (by decide) ?_
  refine f_staticN o_S_copyRefusal k_N_isBelow s_N_isBelow x_S_25 i_S_copyRefusal_3 (c_N_isBelow) rfl rfl (by decide) (Nat.le_of_ble_eq_true rfl) ?_
  refine r_if_eq 18 i_S_copyRefusal_6 (by decide) (fun h6 => ?_) (fun h6 => ?_)
  · skip
    refine r_bipush (v := (-2 : Int32)) i_S_copyRefusal_18 (by decide) ?_
    refine r_ireturn i_S_copyRefusal_20 t_S_copyRefusal rfl ?_
    exact ⟨by simp_all [copyR, bI_eq0, bI_ne0], rfl, rfl⟩
  · skip
    refine r_iload_n (i := 2) i_S_copyRefusal_9 rfl rfl ?_
    refine r_bipush (v := (8 : Int32)) i_S_copyRefusal_10 (by decide) ?_
    refine f_staticN o_S_copyRefusal k_N_isBelow s_N_isBelow x_S_25 i_S_copyRefusal_12 (c_N_isBelow) rfl rfl (by decide) (Nat.le_of_ble_eq_true rfl) ?_
    refine r_if_ne 21 i_S_copyRefusal_15 (by decide) (fun h15 => ?_) (fun h15 => ?_)
    · skip
      refine r_aload_n (i := 0) i_S_copyRefusal_21 rfl rfl ?_
      refine r_iload_n (i := 1) i_S_copyRefusal_22 rfl rfl ?_
      refine f_virtual o_S_copyRefusal k_S_holdsRule v_S_holdsRule x_S_37 i_S_copyRefusal_23 o_S_holdsRule (c_S_holdsRule hX0) rfl (rcv_ob (by repeat (first | assumption | exact upw_s | refine (upw_n (by omega)).trans ?_)) rfl (by first | assumption | omega)) rfl (by decide) (Nat.le_of_ble_eq_true rfl) ?_
      refine r_if_ne 37 i_S_copyRefusal_26 (by decide) (fun h26 => ?_) (fun h26 => ?_)
      · skip
        refine r_bipush (v := (-3 : Int32)) i_S_copyRefusal_37 (by decide) ?_
        refine r_ireturn i_S_copyRefusal_39 t_S_copyRefusal rfl ?_
        exact ⟨by simp_all [copyR, bI_eq0, bI_ne0], rfl, rfl⟩
      · skip
        refine r_aload_n (i := 0) i_S_copyRefusal_29 rfl rfl ?_
        refine r_iload_n (i := 2) i_S_copyRefusal_30 rfl rfl ?_
        refine f_virtual o_S_copyRefusal k_S_holdsRule v_S_holdsRule x_S_37 i_S_copyRefusal_31 o_S_holdsRule (c_S_holdsRule hX0) rfl (rcv_ob (by repeat (first | assumption | exact upw_s | refine (upw_n (by omega)).trans ?_)) rfl (by first | assumption | omega)) rfl (by decide) (Nat.le_of_ble_eq_true rfl) ?_
        refine r_if_eq 40 i_S_copyRefusal_34 (by decide) (fun h34 => ?_) (fun h34 => ?_)
        · skip
          refine r_aload_n (i := 0) i_S_copyRefusal_40 rfl rfl ?_
          refine r_iload_n (i := 1) i_S_copyRefusal_41 rfl rfl ?_
          refine f_virtual o_S_copyRefusal k_S_holdsRow v_S_holdsRow x_S_41 i_S_copyRefusal_42 o_S_holdsRow (c_S_holdsRow hX0) rfl (rcv_ob (by repeat (first | assumption | exact upw_s | refine (upw_n (by omega)).trans ?_)) rfl (by first | assumption | omega)) rfl (by decide) (Nat.le_of_ble_eq_true rfl) ?_
          refine r_if_eq 60 i_S_copyRefusal_45 (by decide) (fun h45 => ?_) (fun h45 => ?_)
          · skip
            refine r_iconst (v := (0 : Int32)) i_S_copyRefusal_60 rfl ?_
            refine r_istore_6 i_S_copyRefusal_61 (by rw [l_S_copyRefusal]; decide) rfl ?_
            refine r_iload (i := 6) i_S_copyRefusal_63 rfl ?_
            refine r_if_eq 84 i_S_copyRefusal_65 (by decide) (fun h65 => ?_) (fun h65 => ?_)
            · first
              | exact absurd h65 (by decide)
              | skip
                refine r_iload (i := 6) i_S_copyRefusal_84 rfl ?_
                refine r_if_ne 92 i_S_copyRefusal_86 (by decide) (fun h86 => ?_) (fun h86 => ?_)
                · first
                  | exact absurd h86 (by decide)
                  | skip
                    refine r_iload_n (i := 3) i_S_copyRefusal_92 rfl rfl ?_
                    refine r_iload (i := 5) i_S_copyRefusal_93 rfl ?_
                    refine r_aload_n (i := 0) i_S_copyRefusal_95 rfl rfl ?_
                    refine r_iload_n (i := 1) i_S_copyRefusal_96 rfl rfl ?_
                    refine f_virtual o_S_copyRefusal k_S_sizeOf v_S_sizeOf x_S_44 i_S_copyRefusal_97 o_S_sizeOf (c_S_sizeOf hX0) rfl (rcv_ob (by repeat (first | assumption | exact upw_s | refine (upw_n (by omega)).trans ?_)) rfl (by first | assumption | omega)) rfl (by decide) (Nat.le_of_ble_eq_true rfl) ?_
                    refine f_static o_S_copyRefusal k_S_isSpan s_S_isSpan x_S_47 i_S_copyRefusal_100 (c_S_isSpan) rfl rfl (by decide) (Nat.le_of_ble_eq_true rfl) ?_
                    refine r_if_eq 125 i_S_copyRefusal_103 (by decide) (fun h103 => ?_) (fun h103 => ?_)
                    · skip
                      refine r_bipush (v := (-2 : Int32)) i_S_copyRefusal_125 (by decide) ?_
                      refine r_ireturn i_S_copyRefusal_127 t_S_copyRefusal rfl ?_
                      exact ⟨by simp_all [copyR, bI_eq0, bI_ne0], rfl, rfl⟩
                    · skip
                      refine r_iload (i := 4) i_S_copyRefusal_106 rfl ?_
                      refine r_iload (i := 5) i_S_copyRefusal_108 rfl ?_
                      refine r_aload_n (i := 0) i_S_copyRefusal_110 rfl rfl ?_
                      refine r_iload_n (i := 2) i_S_copyRefusal_111 rfl rfl ?_
                      refine f_virtual o_S_copyRefusal k_S_sizeOf v_S_sizeOf x_S_44 i_S_copyRefusal_112 o_S_sizeOf (c_S_sizeOf hX0) rfl (rcv_ob (by repeat (first | assumption | exact upw_s | refine (upw_n (by omega)).trans ?_)) rfl (by first | assumption | omega)) rfl (by decide) (Nat.le_of_ble_eq_true rfl) ?_
                      refine f_static o_S_copyRefusal k_S_isSpan s_S_isSpan x_S_47 i_S_copyRefusal_115 (c_S_isSpan) rfl rfl (by decide) (Nat.le_of_ble_eq_true rfl) ?_
                      refine r_if_eq 125 i_S_copyRefusal_118 (by decide) (fun h118 => ?_) (fun h118 => ?_)
                      · skip
                        refine r_bipush (v := (-2 : Int32)) i_S_copyRefusal_125 (by decide) ?_
                        refine r_ireturn i_S_copyRefusal_127 t_S_copyRefusal rfl ?_
                        exact ⟨by simp_all [copyR, bI_eq0, bI_ne0], rfl, rfl⟩
                      · skip
                        refine r_iconst (v := (0 : Int32)) i_S_copyRefusal_121 rfl ?_
                        refine r_goto 127 i_S_copyRefusal_122 (by decide) ?_
                        refine r_ireturn i_S_copyRefusal_127 t_S_copyRefusal rfl ?_
                        exact ⟨by simp_all [copyR, bI_eq0, bI_ne0], rfl, rfl⟩
                · first
                  | exact absurd h86 (by decide)
                  | skip
                    refine r_bipush (v := (-4 : Int32)) i_S_copyRefusal_89 (by decide) ?_
                    refine r_ireturn i_S_copyRefusal_91 t_S_copyRefusal rfl ?_
                    exact ⟨by simp_all [copyR, bI_eq0, bI_ne0], rfl, rfl⟩
            · first
              | exact absurd h65 (by decide)
              | skip
                refine r_aload_n (i := 0) i_S_copyRefusal_68 rfl rfl ?_
                refine r_iload_n (i := 1) i_S_copyRefusal_69 rfl rfl ?_
                refine f_virtual o_S_copyRefusal k_S_heldIn v_S_heldIn x_S_33 i_S_copyRefusal_70 o_S_heldIn (c_S_heldIn hX0) rfl (rcv_ob (by repeat (first | assumption | exact upw_s | refine (upw_n (by omega)).trans ?_)) rfl (by first | assumption | omega)) rfl (by decide) (Nat.le_of_ble_eq_true rfl) ?_
                refine r_aload_n (i := 0) i_S_copyRefusal_73 rfl rfl ?_
                refine r_iload_n (i := 2) i_S_copyRefusal_74 rfl rfl ?_
                refine f_virtual o_S_copyRefusal k_S_heldIn v_S_heldIn x_S_33 i_S_copyRefusal_75 o_S_heldIn (c_S_heldIn hX0) rfl (rcv_ob (by repeat (first | assumption | exact upw_s | refine (upw_n (by omega)).trans ?_)) rfl (by first | assumption | omega)) rfl (by decide) (Nat.le_of_ble_eq_true rfl) ?_
                refine r_icmp_eq 84 i_S_copyRefusal_78 (by decide) (fun h78 => ?_) (fun h78 => ?_)
                · skip
                  refine r_iload (i := 6) i_S_copyRefusal_84 rfl ?_
                  refine r_if_ne 92 i_S_copyRefusal_86 (by decide) (fun h86 => ?_) (fun h86 => ?_)
                  · first
                    | exact absurd h86 (by decide)
                    | skip
                      refine r_iload_n (i := 3) i_S_copyRefusal_92 rfl rfl ?_
                      refine r_iload (i := 5) i_S_copyRefusal_93 rfl ?_
                      refine r_aload_n (i := 0) i_S_copyRefusal_95 rfl rfl ?_
                      refine r_iload_n (i := 1) i_S_copyRefusal_96 rfl rfl ?_
                      refine f_virtual o_S_copyRefusal k_S_sizeOf v_S_sizeOf x_S_44 i_S_copyRefusal_97 o_S_sizeOf (c_S_sizeOf hX0) rfl (rcv_ob (by repeat (first | assumption | exact upw_s | refine (upw_n (by omega)).trans ?_)) rfl (by first | assumption | omega)) rfl (by decide) (Nat.le_of_ble_eq_true rfl) ?_
                      refine f_static o_S_copyRefusal k_S_isSpan s_S_isSpan x_S_47 i_S_copyRefusal_100 (c_S_isSpan) rfl rfl (by decide) (Nat.le_of_ble_eq_true rfl) ?_
                      refine r_if_eq 125 i_S_copyRefusal_103 (by decide) (fun h103 => ?_) (fun h103 => ?_)
                      · skip
                        refine r_bipush (v := (-2 : Int32)) i_S_copyRefusal_125 (by decide) ?_
                        refine r_ireturn i_S_copyRefusal_127 t_S_copyRefusal rfl ?_
                        exact ⟨by simp_all [copyR, bI_eq0, bI_ne0], rfl, rfl⟩
                      · skip
                        refine r_iload (i := 4) i_S_copyRefusal_106 rfl ?_
                        refine r_iload (i := 5) i_S_copyRefusal_108 rfl ?_
                        refine r_aload_n (i := 0) i_S_copyRefusal_110 rfl rfl ?_
                        refine r_iload_n (i := 2) i_S_copyRefusal_111 rfl rfl ?_
                        refine f_virtual o_S_copyRefusal k_S_sizeOf v_S_sizeOf x_S_44 i_S_copyRefusal_112 o_S_sizeOf (c_S_sizeOf hX0) rfl (rcv_ob (by repeat (first | assumption | exact upw_s | refine (upw_n (by omega)).trans ?_)) rfl (by first | assumption | omega)) rfl (by decide) (Nat.le_of_ble_eq_true rfl) ?_
                        refine f_static o_S_copyRefusal k_S_isSpan s_S_isSpan x_S_47 i_S_copyRefusal_115 (c_S_isSpan) rfl rfl (by decide) (Nat.le_of_ble_eq_true rfl) ?_
                        refine r_if_eq 125 i_S_copyRefusal_118 (by decide) (fun h118 => ?_) (fun h118 => ?_)
                        · skip
                          refine r_bipush (v := (-2 : Int32)) i_S_copyRefusal_125 (by decide) ?_
                          refine r_ireturn i_S_copyRefusal_127 t_S_copyRefusal rfl ?_
                          exact ⟨by simp_all [copyR, bI_eq0, bI_ne0], rfl, rfl⟩
                        · skip
                          refine r_iconst (v := (0 : Int32)) i_S_copyRefusal_121 rfl ?_
                          refine r_goto 127 i_S_copyRefusal_122 (by decide) ?_
                          refine r_ireturn i_S_copyRefusal_127 t_S_copyRefusal rfl ?_
                          exact ⟨by simp_all [copyR, bI_eq0, bI_ne0], rfl, rfl⟩
                  · first
                    | exact absurd h86 (by decide)
                    | skip
                      refine r_bipush (v := (-4 : Int32)) i_S_copyRefusal_89 (by decide) ?_
                      refine r_ireturn i_S_copyRefusal_91 t_S_copyRefusal rfl ?_
                      exact ⟨by simp_all [copyR, bI_eq0, bI_ne0], rfl, rfl⟩
                · skip
                  refine r_bipush (v := (-3 : Int32)) i_S_copyRefusal_81 (by decide) ?_
                  refine r_ireturn i_S_copyRefusal_83 t_S_copyRefusal rfl ?_
                  exact ⟨by simp_all [copyR, bI_eq0, bI_ne0], rfl, rfl⟩
          · skip
            refine r_aload_n (i := 0) i_S_copyRefusal_48 rfl rfl ?_
            refine r_iload_n (i := 2) i_S_copyRefusal_49 rfl rfl ?_
            refine f_virtual o_S_copyRefusal k_S_holdsRow v_S_holdsRow x_S_41 i_S_copyRefusal_50 o_S_holdsRow (c_S_holdsRow hX0) rfl (rcv_ob (by repeat (first | assumption | exact upw_s | refine (upw_n (by omega)).trans ?_)) rfl (by first | assumption | omega)) rfl (by decide) (Nat.le_of_ble_eq_true rfl) ?_
            refine r_if_eq 60 i_S_copyRefusal_53 (by decide) (fun h53 => ?_) (fun h53 => ?_)
            · skip
              refine r_iconst (v := (0 : Int32)) i_S_copyRefusal_60 rfl ?_
              refine r_istore_6 i_S_copyRefusal_61 (by rw [l_S_copyRefusal]; decide) rfl ?_
              refine r_iload (i := 6) i_S_copyRefusal_63 rfl ?_
              refine r_if_eq 84 i_S_copyRefusal_65 (by decide) (fun h65 => ?_) (fun h65 => ?_)
              · first
                | exact absurd h65 (by decide)
                | skip
                  refine r_iload (i := 6) i_S_copyRefusal_84 rfl ?_
                  refine r_if_ne 92 i_S_copyRefusal_86 (by decide) (fun h86 => ?_) (fun h86 => ?_)
                  · first
                    | exact absurd h86 (by decide)
                    | skip
                      refine r_iload_n (i := 3) i_S_copyRefusal_92 rfl rfl ?_
                      refine r_iload (i := 5) i_S_copyRefusal_93 rfl ?_
                      refine r_aload_n (i := 0) i_S_copyRefusal_95 rfl rfl ?_
                      refine r_iload_n (i := 1) i_S_copyRefusal_96 rfl rfl ?_
                      refine f_virtual o_S_copyRefusal k_S_sizeOf v_S_sizeOf x_S_44 i_S_copyRefusal_97 o_S_sizeOf (c_S_sizeOf hX0) rfl (rcv_ob (by repeat (first | assumption | exact upw_s | refine (upw_n (by omega)).trans ?_)) rfl (by first | assumption | omega)) rfl (by decide) (Nat.le_of_ble_eq_true rfl) ?_
                      refine f_static o_S_copyRefusal k_S_isSpan s_S_isSpan x_S_47 i_S_copyRefusal_100 (c_S_isSpan) rfl rfl (by decide) (Nat.le_of_ble_eq_true rfl) ?_
                      refine r_if_eq 125 i_S_copyRefusal_103 (by decide) (fun h103 => ?_) (fun h103 => ?_)
                      · skip
                        refine r_bipush (v := (-2 : Int32)) i_S_copyRefusal_125 (by decide) ?_
                        refine r_ireturn i_S_copyRefusal_127 t_S_copyRefusal rfl ?_
                        exact ⟨by simp_all [copyR, bI_eq0, bI_ne0], rfl, rfl⟩
                      · skip
                        refine r_iload (i := 4) i_S_copyRefusal_106 rfl ?_
                        refine r_iload (i := 5) i_S_copyRefusal_108 rfl ?_
                        refine r_aload_n (i := 0) i_S_copyRefusal_110 rfl rfl ?_
                        refine r_iload_n (i := 2) i_S_copyRefusal_111 rfl rfl ?_
                        refine f_virtual o_S_copyRefusal k_S_sizeOf v_S_sizeOf x_S_44 i_S_copyRefusal_112 o_S_sizeOf (c_S_sizeOf hX0) rfl (rcv_ob (by repeat (first | assumption | exact upw_s | refine (upw_n (by omega)).trans ?_)) rfl (by first | assumption | omega)) rfl (by decide) (Nat.le_of_ble_eq_true rfl) ?_
                        refine f_static o_S_copyRefusal k_S_isSpan s_S_isSpan x_S_47 i_S_copyRefusal_115 (c_S_isSpan) rfl rfl (by decide) (Nat.le_of_ble_eq_true rfl) ?_
                        refine r_if_eq 125 i_S_copyRefusal_118 (by decide) (fun h118 => ?_) (fun h118 => ?_)
                        · skip
                          refine r_bipush (v := (-2 : Int32)) i_S_copyRefusal_125 (by decide) ?_
                          refine r_ireturn i_S_copyRefusal_127 t_S_copyRefusal rfl ?_
                          exact ⟨by simp_all [copyR, bI_eq0, bI_ne0], rfl, rfl⟩
                        · skip
                          refine r_iconst (v := (0 : Int32)) i_S_copyRefusal_121 rfl ?_
                          refine r_goto 127 i_S_copyRefusal_122 (by decide) ?_
                          refine r_ireturn i_S_copyRefusal_127 t_S_copyRefusal rfl ?_
                          exact ⟨by simp_all [copyR, bI_eq0, bI_ne0], rfl, rfl⟩
                  · first
                    | exact absurd h86 (by decide)
                    | skip
                      refine r_bipush (v := (-4 : Int32)) i_S_copyRefusal_89 (by decide) ?_
                      refine r_ireturn i_S_copyRefusal_91 t_S_copyRefusal rfl ?_
                      exact ⟨by simp_all [copyR, bI_eq0, bI_ne0], rfl, rfl⟩
              · first
                | exact absurd h65 (by decide)
                | skip
                  refine r_aload_n (i := 0) i_S_copyRefusal_68 rfl rfl ?_
                  refine r_iload_n (i := 1) i_S_copyRefusal_69 rfl rfl ?_
                  refine f_virtual o_S_copyRefusal k_S_heldIn v_S_heldIn x_S_33 i_S_copyRefusal_70 o_S_heldIn (c_S_heldIn hX0) rfl (rcv_ob (by repeat (first | assumption | exact upw_s | refine (upw_n (by omega)).trans ?_)) rfl (by first | assumption | omega)) rfl (by decide) (Nat.le_of_ble_eq_true rfl) ?_
                  refine r_aload_n (i := 0) i_S_copyRefusal_73 rfl rfl ?_
                  refine r_iload_n (i := 2) i_S_copyRefusal_74 rfl rfl ?_
                  refine f_virtual o_S_copyRefusal k_S_heldIn v_S_heldIn x_S_33 i_S_copyRefusal_75 o_S_heldIn (c_S_heldIn hX0) rfl (rcv_ob (by repeat (first | assumption | exact upw_s | refine (upw_n (by omega)).trans ?_)) rfl (by first | assumption | omega)) rfl (by decide) (Nat.le_of_ble_eq_true rfl) ?_
                  refine r_icmp_eq 84 i_S_copyRefusal_78 (by decide) (fun h78 => ?_) (fun h78 => ?_)
                  · skip
                    refine r_iload (i := 6) i_S_copyRefusal_84 rfl ?_
                    refine r_if_ne 92 i_S_copyRefusal_86 (by decide) (fun h86 => ?_) (fun h86 => ?_)
                    · first
                      | exact absurd h86 (by decide)
                      | skip
                        refine r_iload_n (i := 3) i_S_copyRefusal_92 rfl rfl ?_
                        refine r_iload (i := 5) i_S_copyRefusal_93 rfl ?_
                        refine r_aload_n (i := 0) i_S_copyRefusal_95 rfl rfl ?_
                        refine r_iload_n (i := 1) i_S_copyRefusal_96 rfl rfl ?_
                        refine f_virtual o_S_copyRefusal k_S_sizeOf v_S_sizeOf x_S_44 i_S_copyRefusal_97 o_S_sizeOf (c_S_sizeOf hX0) rfl (rcv_ob (by repeat (first | assumption | exact upw_s | refine (upw_n (by omega)).trans ?_)) rfl (by first | assumption | omega)) rfl (by decide) (Nat.le_of_ble_eq_true rfl) ?_
                        refine f_static o_S_copyRefusal k_S_isSpan s_S_isSpan x_S_47 i_S_copyRefusal_100 (c_S_isSpan) rfl rfl (by decide) (Nat.le_of_ble_eq_true rfl) ?_
                        refine r_if_eq 125 i_S_copyRefusal_103 (by decide) (fun h103 => ?_) (fun h103 => ?_)
                        · skip
                          refine r_bipush (v := (-2 : Int32)) i_S_copyRefusal_125 (by decide) ?_
                          refine r_ireturn i_S_copyRefusal_127 t_S_copyRefusal rfl ?_
                          exact ⟨by simp_all [copyR, bI_eq0, bI_ne0], rfl, rfl⟩
                        · skip
                          refine r_iload (i := 4) i_S_copyRefusal_106 rfl ?_
                          refine r_iload (i := 5) i_S_copyRefusal_108 rfl ?_
                          refine r_aload_n (i := 0) i_S_copyRefusal_110 rfl rfl ?_
                          refine r_iload_n (i := 2) i_S_copyRefusal_111 rfl rfl ?_
                          refine f_virtual o_S_copyRefusal k_S_sizeOf v_S_sizeOf x_S_44 i_S_copyRefusal_112 o_S_sizeOf (c_S_sizeOf hX0) rfl (rcv_ob (by repeat (first | assumption | exact upw_s | refine (upw_n (by omega)).trans ?_)) rfl (by first | assumption | omega)) rfl (by decide) (Nat.le_of_ble_eq_true rfl) ?_
                          refine f_static o_S_copyRefusal k_S_isSpan s_S_isSpan x_S_47 i_S_copyRefusal_115 (c_S_isSpan) rfl rfl (by decide) (Nat.le_of_ble_eq_true rfl) ?_
                          refine r_if_eq 125 i_S_copyRefusal_118 (by decide) (fun h118 => ?_) (fun h118 => ?_)
                          · skip
                            refine r_bipush (v := (-2 : Int32)) i_S_copyRefusal_125 (by decide) ?_
                            refine r_ireturn i_S_copyRefusal_127 t_S_copyRefusal rfl ?_
                            exact ⟨by simp_all [copyR, bI_eq0, bI_ne0], rfl, rfl⟩
                          · skip
                            refine r_iconst (v := (0 : Int32)) i_S_copyRefusal_121 rfl ?_
                            refine r_goto 127 i_S_copyRefusal_122 (by decide) ?_
                            refine r_ireturn i_S_copyRefusal_127 t_S_copyRefusal rfl ?_
                            exact ⟨by simp_all [copyR, bI_eq0, bI_ne0], rfl, rfl⟩
                    · first
                      | exact absurd h86 (by decide)
                      | skip
                        refine r_bipush (v := (-4 : Int32)) i_S_copyRefusal_89 (by decide) ?_
                        refine r_ireturn i_S_copyRefusal_91 t_S_copyRefusal rfl ?_
                        exact ⟨by simp_all [copyR, bI_eq0, bI_ne0], rfl, rfl⟩
                  · skip
                    refine r_bipush (v := (-3 : Int32)) i_S_copyRefusal_81 (by decide) ?_
                    refine r_ireturn i_S_copyRefusal_83 t_S_copyRefusal rfl ?_
                    exact ⟨by simp_all [copyR, bI_eq0, bI_ne0], rfl, rfl⟩
            · skip
              refine r_iconst (v := (1 : Int32)) i_S_copyRefusal_56 rfl ?_
              refine r_goto 61 i_S_copyRefusal_57 (by decide) ?_
              refine r_istore_6 i_S_copyRefusal_61 (by rw [l_S_copyRefusal]; decide) rfl ?_
              refine r_iload (i := 6) i_S_copyRefusal_63 rfl ?_
              refine r_if_eq 84 i_S_copyRefusal_65 (by decide) (fun h65 => ?_) (fun h65 => ?_)
              · first
                | exact absurd h65 (by decide)
                | skip
                  refine r_iload (i := 6) i_S_copyRefusal_84 rfl ?_
                  refine r_if_ne 92 i_S_copyRefusal_86 (by decide) (fun h86 => ?_) (fun h86 => ?_)
                  · first
                    | exact absurd h86 (by decide)
                    | skip
                      refine r_iload_n (i := 3) i_S_copyRefusal_92 rfl rfl ?_
                      refine r_iload (i := 5) i_S_copyRefusal_93 rfl ?_
                      refine r_aload_n (i := 0) i_S_copyRefusal_95 rfl rfl ?_
                      refine r_iload_n (i := 1) i_S_copyRefusal_96 rfl rfl ?_
                      refine f_virtual o_S_copyRefusal k_S_sizeOf v_S_sizeOf x_S_44 i_S_copyRefusal_97 o_S_sizeOf (c_S_sizeOf hX0) rfl (rcv_ob (by repeat (first | assumption | exact upw_s | refine (upw_n (by omega)).trans ?_)) rfl (by first | assumption | omega)) rfl (by decide) (Nat.le_of_ble_eq_true rfl) ?_
                      refine f_static o_S_copyRefusal k_S_isSpan s_S_isSpan x_S_47 i_S_copyRefusal_100 (c_S_isSpan) rfl rfl (by decide) (Nat.le_of_ble_eq_true rfl) ?_
                      refine r_if_eq 125 i_S_copyRefusal_103 (by decide) (fun h103 => ?_) (fun h103 => ?_)
                      · skip
                        refine r_bipush (v := (-2 : Int32)) i_S_copyRefusal_125 (by decide) ?_
                        refine r_ireturn i_S_copyRefusal_127 t_S_copyRefusal rfl ?_
                        exact ⟨by simp_all [copyR, bI_eq0, bI_ne0], rfl, rfl⟩
                      · skip
                        refine r_iload (i := 4) i_S_copyRefusal_106 rfl ?_
                        refine r_iload (i := 5) i_S_copyRefusal_108 rfl ?_
                        refine r_aload_n (i := 0) i_S_copyRefusal_110 rfl rfl ?_
                        refine r_iload_n (i := 2) i_S_copyRefusal_111 rfl rfl ?_
                        refine f_virtual o_S_copyRefusal k_S_sizeOf v_S_sizeOf x_S_44 i_S_copyRefusal_112 o_S_sizeOf (c_S_sizeOf hX0) rfl (rcv_ob (by repeat (first | assumption | exact upw_s | refine (upw_n (by omega)).trans ?_)) rfl (by first | assumption | omega)) rfl (by decide) (Nat.le_of_ble_eq_true rfl) ?_
                        refine f_static o_S_copyRefusal k_S_isSpan s_S_isSpan x_S_47 i_S_copyRefusal_115 (c_S_isSpan) rfl rfl (by decide) (Nat.le_of_ble_eq_true rfl) ?_
                        refine r_if_eq 125 i_S_copyRefusal_118 (by decide) (fun h118 => ?_) (fun h118 => ?_)
                        · skip
                          refine r_bipush (v := (-2 : Int32)) i_S_copyRefusal_125 (by decide) ?_
                          refine r_ireturn i_S_copyRefusal_127 t_S_copyRefusal rfl ?_
                          exact ⟨by simp_all [copyR, bI_eq0, bI_ne0], rfl, rfl⟩
                        · skip
                          refine r_iconst (v := (0 : Int32)) i_S_copyRefusal_121 rfl ?_
                          refine r_goto 127 i_S_copyRefusal_122 (by decide) ?_
                          refine r_ireturn i_S_copyRefusal_127 t_S_copyRefusal rfl ?_
                          exact ⟨by simp_all [copyR, bI_eq0, bI_ne0], rfl, rfl⟩
                  · first
                    | exact absurd h86 (by decide)
                    | skip
                      refine r_bipush (v := (-4 : Int32)) i_S_copyRefusal_89 (by decide) ?_
                      refine r_ireturn i_S_copyRefusal_91 t_S_copyRefusal rfl ?_
                      exact ⟨by simp_all [copyR, bI_eq0, bI_ne0], rfl, rfl⟩
              · first
                | exact absurd h65 (by decide)
                | skip
                  refine r_aload_n (i := 0) i_S_copyRefusal_68 rfl rfl ?_
                  refine r_iload_n (i := 1) i_S_copyRefusal_69 rfl rfl ?_
                  refine f_virtual o_S_copyRefusal k_S_heldIn v_S_heldIn x_S_33 i_S_copyRefusal_70 o_S_heldIn (c_S_heldIn hX0) rfl (rcv_ob (by repeat (first | assumption | exact upw_s | refine (upw_n (by omega)).trans ?_)) rfl (by first | assumption | omega)) rfl (by decide) (Nat.le_of_ble_eq_true rfl) ?_
                  refine r_aload_n (i := 0) i_S_copyRefusal_73 rfl rfl ?_
                  refine r_iload_n (i := 2) i_S_copyRefusal_74 rfl rfl ?_
                  refine f_virtual o_S_copyRefusal k_S_heldIn v_S_heldIn x_S_33 i_S_copyRefusal_75 o_S_heldIn (c_S_heldIn hX0) rfl (rcv_ob (by repeat (first | assumption | exact upw_s | refine (upw_n (by omega)).trans ?_)) rfl (by first | assumption | omega)) rfl (by decide) (Nat.le_of_ble_eq_true rfl) ?_
                  refine r_icmp_eq 84 i_S_copyRefusal_78 (by decide) (fun h78 => ?_) (fun h78 => ?_)
                  · skip
                    refine r_iload (i := 6) i_S_copyRefusal_84 rfl ?_
                    refine r_if_ne 92 i_S_copyRefusal_86 (by decide) (fun h86 => ?_) (fun h86 => ?_)
                    · first
                      | exact absurd h86 (by decide)
                      | skip
                        refine r_iload_n (i := 3) i_S_copyRefusal_92 rfl rfl ?_
                        refine r_iload (i := 5) i_S_copyRefusal_93 rfl ?_
                        refine r_aload_n (i := 0) i_S_copyRefusal_95 rfl rfl ?_
                        refine r_iload_n (i := 1) i_S_copyRefusal_96 rfl rfl ?_
                        refine f_virtual o_S_copyRefusal k_S_sizeOf v_S_sizeOf x_S_44 i_S_copyRefusal_97 o_S_sizeOf (c_S_sizeOf hX0) rfl (rcv_ob (by repeat (first | assumption | exact upw_s | refine (upw_n (by omega)).trans ?_)) rfl (by first | assumption | omega)) rfl (by decide) (Nat.le_of_ble_eq_true rfl) ?_
                        refine f_static o_S_copyRefusal k_S_isSpan s_S_isSpan x_S_47 i_S_copyRefusal_100 (c_S_isSpan) rfl rfl (by decide) (Nat.le_of_ble_eq_true rfl) ?_
                        refine r_if_eq 125 i_S_copyRefusal_103 (by decide) (fun h103 => ?_) (fun h103 => ?_)
                        · skip
                          refine r_bipush (v := (-2 : Int32)) i_S_copyRefusal_125 (by decide) ?_
                          refine r_ireturn i_S_copyRefusal_127 t_S_copyRefusal rfl ?_
                          exact ⟨by simp_all [copyR, bI_eq0, bI_ne0], rfl, rfl⟩
                        · skip
                          refine r_iload (i := 4) i_S_copyRefusal_106 rfl ?_
                          refine r_iload (i := 5) i_S_copyRefusal_108 rfl ?_
                          refine r_aload_n (i := 0) i_S_copyRefusal_110 rfl rfl ?_
                          refine r_iload_n (i := 2) i_S_copyRefusal_111 rfl rfl ?_
                          refine f_virtual o_S_copyRefusal k_S_sizeOf v_S_sizeOf x_S_44 i_S_copyRefusal_112 o_S_sizeOf (c_S_sizeOf hX0) rfl (rcv_ob (by repeat (first | assumption | exact upw_s | refine (upw_n (by omega)).trans ?_)) rfl (by first | assumption | omega)) rfl (by decide) (Nat.le_of_ble_eq_true rfl) ?_
                          refine f_static o_S_copyRefusal k_S_isSpan s_S_isSpan x_S_47 i_S_copyRefusal_115 (c_S_isSpan) rfl rfl (by decide) (Nat.le_of_ble_eq_true rfl) ?_
                          refine r_if_eq 125 i_S_copyRefusal_118 (by decide) (fun h118 => ?_) (fun h118 => ?_)
                          · skip
                            refine r_bipush (v := (-2 : Int32)) i_S_copyRefusal_125 (by decide) ?_
                            refine r_ireturn i_S_copyRefusal_127 t_S_copyRefusal rfl ?_
                            exact ⟨by simp_all [copyR, bI_eq0, bI_ne0], rfl, rfl⟩
                          · skip
                            refine r_iconst (v := (0 : Int32)) i_S_copyRefusal_121 rfl ?_
                            refine r_goto 127 i_S_copyRefusal_122 (by decide) ?_
                            refine r_ireturn i_S_copyRefusal_127 t_S_copyRefusal rfl ?_
                            exact ⟨by simp_all [copyR, bI_eq0, bI_ne0], rfl, rfl⟩
                    · first
                      | exact absurd h86 (by decide)
                      | skip
                        refine r_bipush (v := (-4 : Int32)) i_S_copyRefusal_89 (by decide) ?_
                        refine r_ireturn i_S_copyRefusal_91 t_S_copyRefusal rfl ?_
                        exact ⟨by simp_all [copyR, bI_eq0, bI_ne0], rfl, rfl⟩
                  · skip
                    refine r_bipush (v := (-3 : Int32)) i_S_copyRefusal_81 (by decide) ?_
                    refine r_ireturn i_S_copyRefusal_83 t_S_copyRefusal rfl ?_
                    exact ⟨by simp_all [copyR, bI_eq0, bI_ne0], rfl, rfl⟩
        · skip
          refine r_bipush (v := (-3 : Int32)) i_S_copyRefusal_37 (by decide) ?_
          refine r_ireturn i_S_copyRefusal_39 t_S_copyRefusal rfl ?_
          exact ⟨by simp_all [copyR, bI_eq0, bI_ne0], rfl, rfl⟩
    · skip
      refine r_bipush (v := (-2 : Int32)) i_S_copyRefusal_18 (by decide) ?_
      refine r_ireturn i_S_copyRefusal_20 t_S_copyRefusal rfl ?_
      exact ⟨by simp_all [copyR, bI_eq0, bI_ne0], rfl, rfl⟩
theorem c_S_putRule {s : Nat} {c a : Int32} (hX : SW w k X n) (hs : s < 8) : Sm G 1 y_S_putRule [.ref k, .int (nI s), .int c, .int a] w n none k (upd X.1 s (10 + c), X.2.1, upd X.2.2.1 s a, X.2.2.2) := by
  obtain ⟨g0, g1, g2, g3, g4, hn⟩ := hX
  refine Sm.of k_S_putRule l_S_putRule rfl rfl ?_
  refine r_aload_n (i := 0) i_S_putRule_0 rfl rfl ?_
  refine r_getf (ci := 2) (T := Fk2) (k := 0) o_S_putRule i_S_putRule_1 x_S_9 rfl (by decide) rfl (by repeat (first | assumption | exact upw_s | refine (upw_n (by omega)).trans ?_)) (by first | assumption | omega) (by rfl) ?_
  refine r_iload_n (i := 1) i_S_putRule_4 rfl rfl ?_
  refine r_bipush (v := (10 : Int32)) i_S_putRule_5 (by decide) ?_
  refine r_iload_n (i := 2) i_S_putRule_7 rfl rfl ?_
  refine r_iadd i_S_putRule_8 ?_
  refine f_staticN o_S_putRule k_N_put s_N_put x_S_51 i_S_putRule_9 (c_N_put (by repeat (first | assumption | exact upw_s | refine (upw_n (by omega)).trans ?_)) (by omega) (by decide)) rfl rfl (by decide) (Nat.le_of_ble_eq_true rfl) ?_
  rw [puI_in hs (by decide)]
  refine r_aload_n (i := 0) i_S_putRule_12 rfl rfl ?_
  refine r_getf (ci := 2) (T := Fk2) (k := 2) o_S_putRule i_S_putRule_13 x_S_18 rfl (by decide) rfl (by repeat (first | assumption | exact upw_s | refine (upw_n (by omega)).trans ?_)) (by first | assumption | omega) (by rfl) ?_
  refine r_iload_n (i := 1) i_S_putRule_16 rfl rfl ?_
  refine r_iload_n (i := 3) i_S_putRule_17 rfl rfl ?_
  refine f_staticN o_S_putRule k_N_put s_N_put x_S_51 i_S_putRule_18 (c_N_put (by repeat (first | assumption | exact upw_s | refine (upw_n (by omega)).trans ?_)) (by omega) (by decide)) rfl rfl (by decide) (Nat.le_of_ble_eq_true rfl) ?_
  rw [puI_in hs (by decide)]
  refine r_return i_S_putRule_21 t_S_putRule ?_
  exact ⟨rfl, ⟨⟨(by repeat (first | assumption | exact upw_s | refine (upw_n (by omega)).trans ?_)), (by repeat (first | assumption | exact upw_s | refine (upw_n (by omega)).trans ?_)), (by repeat (first | assumption | exact upw_s | refine (upw_n (by omega)).trans ?_)), (by repeat (first | assumption | exact upw_s | refine (upw_n (by omega)).trans ?_)), (by repeat (first | assumption | exact upw_s | refine (upw_n (by omega)).trans ?_)), hn⟩, fun k hk => (by (repeat (refine (upw_n (by omega)).trans ?_)); rfl)⟩, rfl⟩
theorem heldI_in {s : Nat} (hs : s < 8) : heldI X (nI s) = X.1 s := by
  unfold heldI
  rw [show (8 : Int32) = nI 8 from rfl, lt0_in hs (by decide)]
  exact (if_pos rfl).trans (atI_in hs (by decide))
def putE (X : aH) (s i : Nat) (v : Int64) : aH := (X.1, X.2.1, X.2.2.1, vp_updL X.2.2.2 (40 * s + i) (lowb (X.1 s) v))
theorem c_S_putElement {s i c : Nat} {v : Int64} (hX : SW w k X n) (hs : s < 8) (hi : i < 40) (hc : X.1 s = nI c) (hc5 : c < 5) : Sm G 2 y_S_putElement [.ref k, .int (nI s), .int (nI i), .long v] w n none k (putE X s i v) := by
  have hX0 := hX
  obtain ⟨g0, g1, g2, g3, g4, hn⟩ := hX
  have hcl : (nI (40 * s + i)).toNatClampNeg = 40 * s + i := nI_clamp (by omega)
  refine Sm.of k_S_putElement l_S_putElement rfl rfl ?_
  refine r_iload_n (i := 1) i_S_putElement_0 rfl rfl ?_
  refine r_bipush (v := (40 : Int32)) i_S_putElement_1 (by decide) ?_
  refine r_imul i_S_putElement_3 ?_
  refine r_iload_n (i := 2) i_S_putElement_4 rfl rfl ?_
  refine r_iadd i_S_putElement_5 ?_
  rw [ix40]
  refine r_istore_5 i_S_putElement_6 (by rw [l_S_putElement]; decide) rfl ?_
  refine r_iload (i := 5) i_S_putElement_8 rfl ?_
  refine r_if_lt 39 i_S_putElement_10 (by decide) (fun h10 => (absurd h10 (nI_pos (by omega)))) (fun h10 => ?_)
  refine r_iload (i := 5) i_S_putElement_13 rfl ?_
  refine r_aload_n (i := 0) i_S_putElement_15 rfl rfl ?_
  refine r_getf (ci := 2) (T := Fk2) (k := 3) o_S_putElement i_S_putElement_16 x_S_21 rfl (by decide) rfl (by repeat (first | assumption | exact upw_s | refine (upw_n (by omega)).trans ?_)) (by first | assumption | omega) (by rfl) ?_
  refine r_alen i_S_putElement_19 (by repeat (first | assumption | exact upw_s | refine (upw_n (by omega)).trans ?_)) (by decide) (by first | assumption | omega) ?_
  refine r_icmp_ge 39 i_S_putElement_20 (by decide) (fun h20 => (absurd h20 (nI_ge (by omega) (by decide)))) (fun h20 => ?_)
  refine r_aload_n (i := 0) i_S_putElement_23 rfl rfl ?_
  refine r_getf (ci := 2) (T := Fk2) (k := 3) o_S_putElement i_S_putElement_24 x_S_21 rfl (by decide) rfl (by repeat (first | assumption | exact upw_s | refine (upw_n (by omega)).trans ?_)) (by first | assumption | omega) (by rfl) ?_
  refine r_iload (i := 5) i_S_putElement_27 rfl ?_
  refine r_aload_n (i := 0) i_S_putElement_29 rfl rfl ?_
  refine r_iload_n (i := 1) i_S_putElement_30 rfl rfl ?_
  refine f_virtual o_S_putElement k_S_heldIn v_S_heldIn x_S_33 i_S_putElement_31 o_S_heldIn (c_S_heldIn hX0) rfl (rcv_ob (by repeat (first | assumption | exact upw_s | refine (upw_n (by omega)).trans ?_)) rfl (by first | assumption | omega)) rfl (by decide) (Nat.le_of_ble_eq_true rfl) ?_
  rw [heldI_in hs, hc]
  refine r_lload_n (i := 3) i_S_putElement_34 rfl rfl ?_
  refine f_static o_S_putElement k_S_lowestBits s_S_lowestBits x_S_59 i_S_putElement_35 (c_S_lowestBits hc5) rfl rfl (by decide) (Nat.le_of_ble_eq_true rfl) ?_
  rw [← hc]
  refine r_last i_S_putElement_38 (by repeat (first | assumption | exact upw_s | refine (upw_n (by omega)).trans ?_)) (by first | assumption | omega) (vp_in_nI (by omega) (by decide)) ?_
  refine r_return i_S_putElement_39 t_S_putElement ?_
  exact ⟨rfl, ⟨⟨(by repeat (first | assumption | exact upw_s | refine (upw_n (by omega)).trans ?_)), (by repeat (first | assumption | exact upw_s | refine (upw_n (by omega)).trans ?_)), (by repeat (first | assumption | exact upw_s | refine (upw_n (by omega)).trans ?_)), (by repeat (first | assumption | exact upw_s | refine (upw_n (by omega)).trans ?_)), by rw [upw_s, hcl]; rfl, hn⟩, fun k hk => (by (repeat (refine (upw_n (by omega)).trans ?_)); rfl)⟩, rfl⟩
def elemI (X : aH) (s : Nat) (i : Int32) : Int64 := if lt0 i (sizeI X (nI s)) then X.2.2.2 (40 * s + i.toNatClampNeg) else 0
theorem c_S_elementAt {s m : Nat} {i : Int32} (hX : SW w k X n) (hs : s < 8) (hm : sizeI X (nI s) = nI m) (hm4 : m ≤ 40) : Fn G 4 y_S_elementAt [.ref k, .int (nI s), .int i] w n (some (.long (elemI X s i))) w := by
  have hX0 := hX
  obtain ⟨g0, g1, g2, g3, g4, hn⟩ := hX
  refine Fn.of k_S_elementAt l_S_elementAt rfl rfl ?_
  refine r_iload_n (i := 2) i_S_elementAt_0 rfl rfl ?_
  refine r_aload_n (i := 0) i_S_elementAt_1 rfl rfl ?_
  refine r_iload_n (i := 1) i_S_elementAt_2 rfl rfl ?_
  refine f_virtual o_S_elementAt k_S_sizeOf v_S_sizeOf x_S_44 i_S_elementAt_3 o_S_sizeOf (c_S_sizeOf hX0) rfl (rcv_ob (by repeat (first | assumption | exact upw_s | refine (upw_n (by omega)).trans ?_)) rfl (by first | assumption | omega)) rfl (by decide) (Nat.le_of_ble_eq_true rfl) ?_
  refine f_staticN o_S_elementAt k_N_isBelow s_N_isBelow x_S_25 i_S_elementAt_6 (c_N_isBelow) rfl rfl (by decide) (Nat.le_of_ble_eq_true rfl) ?_
  refine r_if_ne 14 i_S_elementAt_9 (by decide) (fun h9 => ?_) (fun h9 => ?_)
  · skip
    have h9 := bI_ne0.mp h9
    obtain ⟨i, hi, rfl⟩ := lt0_of (by omega) (hm ▸ h9)
    have hcl : (nI (40 * s + i)).toNatClampNeg = 40 * s + i := nI_clamp (by omega)
    have hcl2 : (nI i).toNatClampNeg = i := nI_clamp (by omega)
    refine r_iload_n (i := 1) i_S_elementAt_14 rfl rfl ?_
    refine r_bipush (v := (40 : Int32)) i_S_elementAt_15 (by decide) ?_
    refine r_imul i_S_elementAt_17 ?_
    refine r_iload_n (i := 2) i_S_elementAt_18 rfl rfl ?_
    refine r_iadd i_S_elementAt_19 ?_
    rw [ix40]
    refine r_istore_3 i_S_elementAt_20 (by rw [l_S_elementAt]; decide) rfl ?_
    refine r_iload_n (i := 3) i_S_elementAt_21 rfl rfl ?_
    refine r_if_lt 43 i_S_elementAt_22 (by decide) (fun h22 => (absurd h22 (nI_pos (by omega)))) (fun h22 => ?_)
    refine r_iload_n (i := 3) i_S_elementAt_25 rfl rfl ?_
    refine r_aload_n (i := 0) i_S_elementAt_26 rfl rfl ?_
    refine r_getf (ci := 2) (T := Fk2) (k := 3) o_S_elementAt i_S_elementAt_27 x_S_21 rfl (by decide) rfl (by repeat (first | assumption | exact upw_s | refine (upw_n (by omega)).trans ?_)) (by first | assumption | omega) (by rfl) ?_
    refine r_alen i_S_elementAt_30 (by repeat (first | assumption | exact upw_s | refine (upw_n (by omega)).trans ?_)) (by decide) (by first | assumption | omega) ?_
    refine r_icmp_ge 43 i_S_elementAt_31 (by decide) (fun h31 => (absurd h31 (nI_ge (by omega) (by decide)))) (fun h31 => ?_)
    refine r_aload_n (i := 0) i_S_elementAt_34 rfl rfl ?_
    refine r_getf (ci := 2) (T := Fk2) (k := 3) o_S_elementAt i_S_elementAt_35 x_S_21 rfl (by decide) rfl (by repeat (first | assumption | exact upw_s | refine (upw_n (by omega)).trans ?_)) (by first | assumption | omega) (by rfl) ?_
    refine r_iload_n (i := 3) i_S_elementAt_38 rfl rfl ?_
    refine r_lald i_S_elementAt_39 (by repeat (first | assumption | exact upw_s | refine (upw_n (by omega)).trans ?_)) (by first | assumption | omega) (vp_in_nI (by omega) (by decide)) ?_
    refine r_goto 44 i_S_elementAt_40 (by decide) ?_
    refine r_lreturn i_S_elementAt_44 t_S_elementAt ?_
    exact ⟨by simp [elemI, h9, hcl, hcl2], rfl, rfl⟩
  · skip
    have h9 := bI_eq0.mp h9
    refine r_lconst (v := (0 : Int64)) i_S_elementAt_12 rfl ?_
    refine r_lreturn i_S_elementAt_13 t_S_elementAt ?_
    exact ⟨by simp [elemI, h9], rfl, rfl⟩
def cntH (X : aH) : Nat → Int32
  | 0 => 0
  | k + 1 => if X.1 k = -1 then cntH X k else cntH X k + 1
theorem c_S_countHeld (hX : SW w k X n) : Fn G 2 y_S_countHeld [.ref k] w n (some (.int (cntH X 8))) w := by
  have hX0 := hX
  obtain ⟨g0, g1, g2, g3, g4, hn⟩ := hX
  refine Fn.of k_S_countHeld l_S_countHeld rfl rfl ?_
  have hloop : ∀ m i : Nat, i + m = 8 → Go G 2 y_S_countHeld 4 [some (.ref k), some (.int (cntH X i)), some (.int (nI i))] [] w n 0 0 (fun r1 w1 n1 => r1 = some (.int (cntH X 8)) ∧ w1 = w ∧ n1 = n) := by
    intro m
    induction m with
    | zero =>
      intro i hi
      have hi : i = 8 := by omega
      subst hi
      refine r_iload_n (i := 2) i_S_countHeld_4 rfl rfl ?_
      refine r_bipush (v := (8 : Int32)) i_S_countHeld_5 (by decide) ?_
      refine r_icmp_ge 28 i_S_countHeld_7 (by decide) (fun h7 => ?_) (fun h7 => (absurd (Int32.le_refl _) h7))
      refine r_iload_n (i := 1) i_S_countHeld_28 rfl rfl ?_
      refine r_ireturn i_S_countHeld_29 t_S_countHeld rfl ?_
      exact ⟨rfl, rfl, rfl⟩
    | succ m ih =>
      intro i hi
      refine r_iload_n (i := 2) i_S_countHeld_4 rfl rfl ?_
      refine r_bipush (v := (8 : Int32)) i_S_countHeld_5 (by decide) ?_
      refine r_icmp_ge 28 i_S_countHeld_7 (by decide) (fun h7 => (absurd h7 (nI_ge (b := 8) (by omega) (by decide)))) (fun h7 => ?_)
      refine r_aload_n (i := 0) i_S_countHeld_10 rfl rfl ?_
      refine r_iload_n (i := 2) i_S_countHeld_11 rfl rfl ?_
      refine f_virtual o_S_countHeld k_S_heldIn v_S_heldIn x_S_33 i_S_countHeld_12 o_S_heldIn (c_S_heldIn hX0) rfl (rcv_ob (by repeat (first | assumption | exact upw_s | refine (upw_n (by omega)).trans ?_)) rfl (by first | assumption | omega)) rfl (by decide) (Nat.le_of_ble_eq_true rfl) ?_
      rw [heldI_in (by omega)]
      refine r_iconst (v := (-1 : Int32)) i_S_countHeld_15 rfl ?_
      refine r_icmp_eq 22 i_S_countHeld_16 (by decide) (fun h16 => ?_) (fun h16 => ?_)
      · skip
        refine r_iinc_2 (v := (1 : Int32)) i_S_countHeld_22 rfl (by rw [l_S_countHeld]; decide) rfl ?_
        refine r_goto 4 i_S_countHeld_25 (by decide) ?_
        rw [nI_1]
        refine Eq.mp ?_ (ih (i + 1) (by omega))
        simp [cntH, h16]
      · skip
        refine r_iinc_1 (v := (1 : Int32)) i_S_countHeld_19 rfl (by rw [l_S_countHeld]; decide) rfl ?_
        refine r_iinc_2 (v := (1 : Int32)) i_S_countHeld_22 rfl (by rw [l_S_countHeld]; decide) rfl ?_
        refine r_goto 4 i_S_countHeld_25 (by decide) ?_
        rw [nI_1]
        refine Eq.mp ?_ (ih (i + 1) (by omega))
        simp [cntH, h16]
  refine r_iconst (v := (0 : Int32)) i_S_countHeld_0 rfl ?_
  refine r_istore_1 i_S_countHeld_1 (by rw [l_S_countHeld]; decide) rfl ?_
  refine r_iconst (v := (0 : Int32)) i_S_countHeld_2 rfl ?_
  refine r_istore_2 i_S_countHeld_3 (by rw [l_S_countHeld]; decide) rfl ?_
  exact hloop 8 0 (by omega)
end SHELVES
