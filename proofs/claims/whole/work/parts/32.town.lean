-- TOWN: what it holds, and what it answers without a change
abbrev aS : Type := (Nat → Int32) × (Nat → Nat → Int32)
abbrev ai (len : Nat) (f : Nat → Int32) : aC := .inl (0, (len, .inl f))
abbrev tob (t : Nat) (S : aS) : List Value := [.int (S.1 0), .int (S.1 1), .int (S.1 2), .int (S.1 3), .int (S.1 4), .int (S.1 5), .int (S.1 6), .int (S.1 7), .int (S.1 8), .ref (t + 1), .ref (t + 2), .ref (t + 3), .ref (t + 4), .ref (t + 5), .ref (t + 6), .ref (t + 7), .ref (t + 8)]
def TW (w : aW) (t : Nat) (S : aS) (n : Nat) : Prop := w t = .inr (1, tob t S) ∧ w (t + 1) = ai 7 (S.2 0) ∧ w (t + 2) = ai 7 (S.2 1) ∧ w (t + 3) = ai 7 (S.2 2) ∧ w (t + 4) = ai 7 (S.2 3) ∧ w (t + 5) = ai 7 (S.2 4) ∧ w (t + 6) = ai 7 (S.2 5) ∧ w (t + 7) = ai 7 (S.2 6) ∧ w (t + 8) = ai 49 (S.2 7) ∧ t + 8 < n
def TU (w w' : aW) (t : Nat) (S' : aS) (n : Nat) : Prop := TW w' t S' n ∧ ∀ k, (k < t ∨ t + 8 < k) → w' k = w k
def Tm (G : gE) (d z : Nat) (args : List Value) (w : aW) (n : Nat) (r0 : Option Value) (t : Nat) (S' : aS) : Prop := Mt G d z args w n 0 0 (fun r w' n' => r = r0 ∧ TU w w' t S' n ∧ n' = n)
theorem Tm.of {G : gE} {d z na nL : Nat} {args : List Value} {w : aW} {n : Nat} {r : Option Value} {t : Nat} {S' : aS} {ls : List (Option Value)} (hz : okM z na) (hm : ml z = nL) (hfit : Nat.ble (ent args).length nL = true) (hls : ent args ++ List.replicate (nL - (ent args).length) none = ls)
    (h : Go G d z 0 ls [] w n 0 0 (fun r1 w1 n1 => r1 = r ∧ TU w w1 t S' n ∧ n1 = n)) : Tm G d z args w n r t S' := Mt.of hz hm (Nat.le_of_ble_eq_true hfit) hls h
def upS (S : aS) (k : Nat) (v : Int32) : aS := (fun j => if j = k then v else S.1 j, S.2)
def upA (S : aS) (j : Nat) (f : Nat → Int32) : aS := (S.1, fun j' => if j' = j then f else S.2 j')
def lossN (S : aS) (b t : Nat) : Int32 := S.2 7 (7 * b + t)
def partyN (S : aS) (b : Nat) (x : Int32) : Bool := decide (S.2 2 b = x) || decide (S.2 3 b = x)
def gd (S : aS) (b t : Nat) : Bool := decide (¬ lossN S b t < S.1 2) && !partyN S b (nI t)
def cbs (S : aS) (b t : Nat) : Bool := decide (lossN S b t < S.1 2) && !partyN S b (nI t)
def gainN (S : aS) (b : Nat) : Int32 := S.2 4 b + S.2 5 b
def valN (S : aS) (b t : Nat) : Int32 := gainN S b - lossN S b t
def b1 (k : Nat) : Int32 := (1 : Int32) <<< (nI k &&& 31)
def bitsOf (p : Nat → Bool) : Nat → Int32
  | 0 => 0
  | k + 1 => if p k then bitsOf p k ||| b1 k else bitsOf p k
theorem ix7 {b t : Nat} : nI b * 7 + nI t = nI (7 * b + t) := by
  rw [show (7 : Int32) = nI 7 from rfl, pk_mul, nI_add, Nat.mul_comm b 7]
section TOWN
variable {G : gE} {w : aW} {n t : Nat} {S : aS}
theorem c_T_lossBy {b i : Nat} (hT : TW w t S n) (hb : b < 7) (hi : i < 7) : Fn G 0 y_T_lossBy [.ref t, .int (nI b), .int (nI i)] w n (some (.int (lossN S b i))) w := by
  obtain ⟨g0, g1, g2, g3, g4, g5, g6, g7, g8, hn⟩ := hT
  have hc : (nI (7 * b + i)).toNatClampNeg = 7 * b + i := nI_clamp (by omega)
  refine Fn.of k_T_lossBy l_T_lossBy rfl rfl ?_
  refine r_iload_n (i := 1) i_T_lossBy_0 rfl rfl ?_
  refine r_bipush (v := (7 : Int32)) i_T_lossBy_1 (by decide) ?_
  refine r_imul i_T_lossBy_3 ?_
  refine r_iload_n (i := 2) i_T_lossBy_4 rfl rfl ?_
  refine r_iadd i_T_lossBy_5 ?_
  rw [ix7]
  refine r_istore_3 i_T_lossBy_6 (by rw [l_T_lossBy]; decide) rfl ?_
  refine r_iload_n (i := 3) i_T_lossBy_7 rfl rfl ?_
  refine r_if_lt 29 i_T_lossBy_8 (by decide) (fun h8 => (absurd h8 (nI_pos (by omega)))) (fun h8 => ?_)
  refine r_iload_n (i := 3) i_T_lossBy_11 rfl rfl ?_
  refine r_aload_n (i := 0) i_T_lossBy_12 rfl rfl ?_
  refine r_getf (ci := 1) (T := Fk1) (k := 16) o_T_lossBy i_T_lossBy_13 x_T_61 rfl (by decide) rfl (by repeat (first | assumption | exact upw_s | refine (upw_n (by omega)).trans ?_)) (by first | assumption | omega) (by rfl) ?_
  refine r_alen i_T_lossBy_16 (by repeat (first | assumption | exact upw_s | refine (upw_n (by omega)).trans ?_)) (by decide) (by first | assumption | omega) ?_
  refine r_icmp_ge 29 i_T_lossBy_17 (by decide) (fun h17 => (absurd h17 (nI_ge (by omega) (by decide)))) (fun h17 => ?_)
  refine r_aload_n (i := 0) i_T_lossBy_20 rfl rfl ?_
  refine r_getf (ci := 1) (T := Fk1) (k := 16) o_T_lossBy i_T_lossBy_21 x_T_61 rfl (by decide) rfl (by repeat (first | assumption | exact upw_s | refine (upw_n (by omega)).trans ?_)) (by first | assumption | omega) (by rfl) ?_
  refine r_iload_n (i := 3) i_T_lossBy_24 rfl rfl ?_
  refine r_iald i_T_lossBy_25 (by repeat (first | assumption | exact upw_s | refine (upw_n (by omega)).trans ?_)) (by first | assumption | omega) (vp_in_nI (by omega) (by decide)) ?_
  refine r_goto 30 i_T_lossBy_26 (by decide) ?_
  refine r_ireturn i_T_lossBy_30 t_T_lossBy rfl ?_
  exact ⟨by rw [hc]; rfl, rfl, rfl⟩
theorem c_T_isParty {b : Nat} {x : Int32} (hT : TW w t S n) (hb : b < 7) : Fn G 0 y_T_isParty [.ref t, .int (nI b), .int x] w n (some (.int (bI (partyN S b x)))) w := by
  obtain ⟨g0, g1, g2, g3, g4, g5, g6, g7, g8, hn⟩ := hT
  have hc : (nI b).toNatClampNeg = b := nI_clamp (by omega)
  refine Fn.of k_T_isParty l_T_isParty rfl rfl ?_
  refine r_iload_n (i := 1) i_T_isParty_0 rfl rfl ?_
  refine r_if_lt 46 i_T_isParty_1 (by decide) (fun h1 => (absurd h1 (nI_pos (by omega)))) (fun h1 => ?_)
  refine r_iload_n (i := 1) i_T_isParty_4 rfl rfl ?_
  refine r_aload_n (i := 0) i_T_isParty_5 rfl rfl ?_
  refine r_getf (ci := 1) (T := Fk1) (k := 11) o_T_isParty i_T_isParty_6 x_T_46 rfl (by decide) rfl (by repeat (first | assumption | exact upw_s | refine (upw_n (by omega)).trans ?_)) (by first | assumption | omega) (by rfl) ?_
  refine r_alen i_T_isParty_9 (by repeat (first | assumption | exact upw_s | refine (upw_n (by omega)).trans ?_)) (by decide) (by first | assumption | omega) ?_
  refine r_icmp_ge 46 i_T_isParty_10 (by decide) (fun h10 => (absurd h10 (nI_ge (by omega) (by decide)))) (fun h10 => ?_)
  refine r_iload_n (i := 1) i_T_isParty_13 rfl rfl ?_
  refine r_aload_n (i := 0) i_T_isParty_14 rfl rfl ?_
  refine r_getf (ci := 1) (T := Fk1) (k := 12) o_T_isParty i_T_isParty_15 x_T_49 rfl (by decide) rfl (by repeat (first | assumption | exact upw_s | refine (upw_n (by omega)).trans ?_)) (by first | assumption | omega) (by rfl) ?_
  refine r_alen i_T_isParty_18 (by repeat (first | assumption | exact upw_s | refine (upw_n (by omega)).trans ?_)) (by decide) (by first | assumption | omega) ?_
  refine r_icmp_ge 46 i_T_isParty_19 (by decide) (fun h19 => (absurd h19 (nI_ge (by omega) (by decide)))) (fun h19 => ?_)
  refine r_aload_n (i := 0) i_T_isParty_22 rfl rfl ?_
  refine r_getf (ci := 1) (T := Fk1) (k := 11) o_T_isParty i_T_isParty_23 x_T_46 rfl (by decide) rfl (by repeat (first | assumption | exact upw_s | refine (upw_n (by omega)).trans ?_)) (by first | assumption | omega) (by rfl) ?_
  refine r_iload_n (i := 1) i_T_isParty_26 rfl rfl ?_
  refine r_iald i_T_isParty_27 (by repeat (first | assumption | exact upw_s | refine (upw_n (by omega)).trans ?_)) (by first | assumption | omega) (vp_in_nI (by omega) (by decide)) ?_
  rw [hc]
  refine r_iload_n (i := 2) i_T_isParty_28 rfl rfl ?_
  refine r_icmp_eq 42 i_T_isParty_29 (by decide) (fun h29 => ?_) (fun h29 => ?_)
  · skip
    refine r_iconst (v := (1 : Int32)) i_T_isParty_42 rfl ?_
    refine r_goto 47 i_T_isParty_43 (by decide) ?_
    refine r_ireturn i_T_isParty_47 t_T_isParty (by first | rfl | exact nar_bI _) ?_
    exact ⟨by simp [bI, partyN, *], rfl, rfl⟩
  · skip
    refine r_aload_n (i := 0) i_T_isParty_32 rfl rfl ?_
    refine r_getf (ci := 1) (T := Fk1) (k := 12) o_T_isParty i_T_isParty_33 x_T_49 rfl (by decide) rfl (by repeat (first | assumption | exact upw_s | refine (upw_n (by omega)).trans ?_)) (by first | assumption | omega) (by rfl) ?_
    refine r_iload_n (i := 1) i_T_isParty_36 rfl rfl ?_
    refine r_iald i_T_isParty_37 (by repeat (first | assumption | exact upw_s | refine (upw_n (by omega)).trans ?_)) (by first | assumption | omega) (vp_in_nI (by omega) (by decide)) ?_
    rw [hc]
    refine r_iload_n (i := 2) i_T_isParty_38 rfl rfl ?_
    refine r_icmp_ne 46 i_T_isParty_39 (by decide) (fun h39 => ?_) (fun h39 => ?_)
    · skip
      refine r_iconst (v := (0 : Int32)) i_T_isParty_46 rfl ?_
      refine r_ireturn i_T_isParty_47 t_T_isParty (by first | rfl | exact nar_bI _) ?_
      exact ⟨by simp [bI, partyN, *], rfl, rfl⟩
    · skip
      refine r_iconst (v := (1 : Int32)) i_T_isParty_42 rfl ?_
      refine r_goto 47 i_T_isParty_43 (by decide) ?_
      refine r_ireturn i_T_isParty_47 t_T_isParty (by first | rfl | exact nar_bI _) ?_
      exact ⟨by simp [bI, partyN, *], rfl, rfl⟩
theorem c_T_isGoodBy {b i : Nat} (hT : TW w t S n) (hb : b < 7) (hi : i < 7) : Fn G 1 y_T_isGoodBy [.ref t, .int (nI b), .int (nI i)] w n (some (.int (bI (gd S b i)))) w := by
  have hT0 := hT
  obtain ⟨g0, g1, g2, g3, g4, g5, g6, g7, g8, hn⟩ := hT
  refine Fn.of k_T_isGoodBy l_T_isGoodBy rfl rfl ?_
  refine r_aload_n (i := 0) i_T_isGoodBy_0 rfl rfl ?_
  refine r_iload_n (i := 1) i_T_isGoodBy_1 rfl rfl ?_
  refine r_iload_n (i := 2) i_T_isGoodBy_2 rfl rfl ?_
  refine f_virtual o_T_isGoodBy k_T_lossBy v_T_lossBy x_T_98 i_T_isGoodBy_3 o_T_lossBy (c_T_lossBy hT0 hb hi) rfl (rcv_ob (by repeat (first | assumption | exact upw_s | refine (upw_n (by omega)).trans ?_)) rfl (by first | assumption | omega)) rfl (by decide) (Nat.le_of_ble_eq_true rfl) ?_
  refine r_aload_n (i := 0) i_T_isGoodBy_6 rfl rfl ?_
  refine r_getf (ci := 1) (T := Fk1) (k := 2) o_T_isGoodBy i_T_isGoodBy_7 x_T_18 rfl (by decide) rfl (by repeat (first | assumption | exact upw_s | refine (upw_n (by omega)).trans ?_)) (by first | assumption | omega) (by rfl) ?_
  refine r_icmp_lt 26 i_T_isGoodBy_10 (by decide) (fun h10 => ?_) (fun h10 => ?_)
  · skip
    refine r_iconst (v := (0 : Int32)) i_T_isGoodBy_26 rfl ?_
    refine r_ireturn i_T_isGoodBy_27 t_T_isGoodBy (by first | rfl | exact nar_bI _) ?_
    exact ⟨by simp_all [bI, gd, bI_eq0, bI_ne0], rfl, rfl⟩
  · skip
    refine r_aload_n (i := 0) i_T_isGoodBy_13 rfl rfl ?_
    refine r_iload_n (i := 1) i_T_isGoodBy_14 rfl rfl ?_
    refine r_iload_n (i := 2) i_T_isGoodBy_15 rfl rfl ?_
    refine f_virtual o_T_isGoodBy k_T_isParty v_T_isParty x_T_102 i_T_isGoodBy_16 o_T_isParty (c_T_isParty hT0 hb) rfl (rcv_ob (by repeat (first | assumption | exact upw_s | refine (upw_n (by omega)).trans ?_)) rfl (by first | assumption | omega)) rfl (by decide) (Nat.le_of_ble_eq_true rfl) ?_
    refine r_if_ne 26 i_T_isGoodBy_19 (by decide) (fun h19 => ?_) (fun h19 => ?_)
    · skip
      refine r_iconst (v := (0 : Int32)) i_T_isGoodBy_26 rfl ?_
      refine r_ireturn i_T_isGoodBy_27 t_T_isGoodBy (by first | rfl | exact nar_bI _) ?_
      exact ⟨by simp_all [bI, gd, bI_eq0, bI_ne0], rfl, rfl⟩
    · skip
      refine r_iconst (v := (1 : Int32)) i_T_isGoodBy_22 rfl ?_
      refine r_goto 27 i_T_isGoodBy_23 (by decide) ?_
      refine r_ireturn i_T_isGoodBy_27 t_T_isGoodBy (by first | rfl | exact nar_bI _) ?_
      exact ⟨by simp_all [bI, gd, bI_eq0, bI_ne0], rfl, rfl⟩
theorem c_T_canBeSaid {b i : Nat} (hT : TW w t S n) (hb : b < 7) (hi : i < 7) : Fn G 1 y_T_canBeSaid [.ref t, .int (nI b), .int (nI i)] w n (some (.int (bI (cbs S b i)))) w := by
  have hT0 := hT
  obtain ⟨g0, g1, g2, g3, g4, g5, g6, g7, g8, hn⟩ := hT
  refine Fn.of k_T_canBeSaid l_T_canBeSaid rfl rfl ?_
  refine r_aload_n (i := 0) i_T_canBeSaid_0 rfl rfl ?_
  refine r_iload_n (i := 1) i_T_canBeSaid_1 rfl rfl ?_
  refine r_iload_n (i := 2) i_T_canBeSaid_2 rfl rfl ?_
  refine f_virtual o_T_canBeSaid k_T_lossBy v_T_lossBy x_T_98 i_T_canBeSaid_3 o_T_lossBy (c_T_lossBy hT0 hb hi) rfl (rcv_ob (by repeat (first | assumption | exact upw_s | refine (upw_n (by omega)).trans ?_)) rfl (by first | assumption | omega)) rfl (by decide) (Nat.le_of_ble_eq_true rfl) ?_
  refine r_aload_n (i := 0) i_T_canBeSaid_6 rfl rfl ?_
  refine r_getf (ci := 1) (T := Fk1) (k := 2) o_T_canBeSaid i_T_canBeSaid_7 x_T_18 rfl (by decide) rfl (by repeat (first | assumption | exact upw_s | refine (upw_n (by omega)).trans ?_)) (by first | assumption | omega) (by rfl) ?_
  refine r_icmp_ge 26 i_T_canBeSaid_10 (by decide) (fun h10 => ?_) (fun h10 => ?_)
  · skip
    have h10 := Int32.not_lt.mpr h10
    refine r_iconst (v := (0 : Int32)) i_T_canBeSaid_26 rfl ?_
    refine r_ireturn i_T_canBeSaid_27 t_T_canBeSaid (by first | rfl | exact nar_bI _) ?_
    exact ⟨by first | (simp [bI, cbs, h10]; done) | (simp_all [bI, cbs, bI_eq0, bI_ne0]; done), rfl, rfl⟩
  · skip
    have h10 := Int32.not_le.mp h10
    refine r_aload_n (i := 0) i_T_canBeSaid_13 rfl rfl ?_
    refine r_iload_n (i := 1) i_T_canBeSaid_14 rfl rfl ?_
    refine r_iload_n (i := 2) i_T_canBeSaid_15 rfl rfl ?_
    refine f_virtual o_T_canBeSaid k_T_isParty v_T_isParty x_T_102 i_T_canBeSaid_16 o_T_isParty (c_T_isParty hT0 hb) rfl (rcv_ob (by repeat (first | assumption | exact upw_s | refine (upw_n (by omega)).trans ?_)) rfl (by first | assumption | omega)) rfl (by decide) (Nat.le_of_ble_eq_true rfl) ?_
    refine r_if_ne 26 i_T_canBeSaid_19 (by decide) (fun h19 => ?_) (fun h19 => ?_)
    · skip
      refine r_iconst (v := (0 : Int32)) i_T_canBeSaid_26 rfl ?_
      refine r_ireturn i_T_canBeSaid_27 t_T_canBeSaid (by first | rfl | exact nar_bI _) ?_
      exact ⟨by first | (simp [bI, cbs, h10]; done) | (simp_all [bI, cbs, bI_eq0, bI_ne0]; done), rfl, rfl⟩
    · skip
      refine r_iconst (v := (1 : Int32)) i_T_canBeSaid_22 rfl ?_
      refine r_goto 27 i_T_canBeSaid_23 (by decide) ?_
      refine r_ireturn i_T_canBeSaid_27 t_T_canBeSaid (by first | rfl | exact nar_bI _) ?_
      exact ⟨by first | (simp [bI, cbs, h10]; done) | (simp_all [bI, cbs, bI_eq0, bI_ne0]; done), rfl, rfl⟩
theorem c_T_gainsOf {b : Nat} (hT : TW w t S n) (hb : b < 7) : Fn G 1 y_T_gainsOf [.ref t, .int (nI b)] w n (some (.int (gainN S b))) w := by
  obtain ⟨g0, g1, g2, g3, g4, g5, g6, g7, g8, hn⟩ := hT
  refine Fn.of k_T_gainsOf l_T_gainsOf rfl rfl ?_
  refine r_aload_n (i := 0) i_T_gainsOf_0 rfl rfl ?_
  refine r_getf (ci := 1) (T := Fk1) (k := 13) o_T_gainsOf i_T_gainsOf_1 x_T_52 rfl (by decide) rfl (by repeat (first | assumption | exact upw_s | refine (upw_n (by omega)).trans ?_)) (by first | assumption | omega) (by rfl) ?_
  refine r_iload_n (i := 1) i_T_gainsOf_4 rfl rfl ?_
  refine f_staticN o_T_gainsOf k_N_at s_N_at x_T_91 i_T_gainsOf_5 (c_N_at (by repeat (first | assumption | exact upw_s | refine (upw_n (by omega)).trans ?_)) (by omega) (by decide)) rfl rfl (by decide) (Nat.le_of_ble_eq_true rfl) ?_
  refine r_aload_n (i := 0) i_T_gainsOf_8 rfl rfl ?_
  refine r_getf (ci := 1) (T := Fk1) (k := 14) o_T_gainsOf i_T_gainsOf_9 x_T_55 rfl (by decide) rfl (by repeat (first | assumption | exact upw_s | refine (upw_n (by omega)).trans ?_)) (by first | assumption | omega) (by rfl) ?_
  refine r_iload_n (i := 1) i_T_gainsOf_12 rfl rfl ?_
  refine f_staticN o_T_gainsOf k_N_at s_N_at x_T_91 i_T_gainsOf_13 (c_N_at (by repeat (first | assumption | exact upw_s | refine (upw_n (by omega)).trans ?_)) (by omega) (by decide)) rfl rfl (by decide) (Nat.le_of_ble_eq_true rfl) ?_
  refine r_iadd i_T_gainsOf_16 ?_
  refine r_ireturn i_T_gainsOf_17 t_T_gainsOf rfl ?_
  exact ⟨by rw [atI_in hb (by decide), atI_in hb (by decide)]; rfl, rfl, rfl⟩
theorem c_T_valueBy {b i : Nat} (hT : TW w t S n) (hb : b < 7) (hi : i < 7) : Fn G 2 y_T_valueBy [.ref t, .int (nI b), .int (nI i)] w n (some (.int (valN S b i))) w := by
  have hT0 := hT
  obtain ⟨g0, g1, g2, g3, g4, g5, g6, g7, g8, hn⟩ := hT
  refine Fn.of k_T_valueBy l_T_valueBy rfl rfl ?_
  refine r_aload_n (i := 0) i_T_valueBy_0 rfl rfl ?_
  refine r_iload_n (i := 1) i_T_valueBy_1 rfl rfl ?_
  refine f_virtual o_T_valueBy k_T_gainsOf v_T_gainsOf x_T_95 i_T_valueBy_2 o_T_gainsOf (c_T_gainsOf hT0 hb) rfl (rcv_ob (by repeat (first | assumption | exact upw_s | refine (upw_n (by omega)).trans ?_)) rfl (by first | assumption | omega)) rfl (by decide) (Nat.le_of_ble_eq_true rfl) ?_
  refine r_aload_n (i := 0) i_T_valueBy_5 rfl rfl ?_
  refine r_iload_n (i := 1) i_T_valueBy_6 rfl rfl ?_
  refine r_iload_n (i := 2) i_T_valueBy_7 rfl rfl ?_
  refine f_virtual o_T_valueBy k_T_lossBy v_T_lossBy x_T_98 i_T_valueBy_8 o_T_lossBy (c_T_lossBy hT0 hb hi) rfl (rcv_ob (by repeat (first | assumption | exact upw_s | refine (upw_n (by omega)).trans ?_)) rfl (by first | assumption | omega)) rfl (by decide) (Nat.le_of_ble_eq_true rfl) ?_
  refine r_isub i_T_valueBy_11 ?_
  refine r_ireturn i_T_valueBy_12 t_T_valueBy rfl ?_
  exact ⟨rfl, rfl, rfl⟩
theorem c_T_shareOfSaid {b i : Nat} (hT : TW w t S n) (hb : b < 7) (hi : i < 7) : Fn G 3 y_T_shareOfSaid [.ref t, .int (nI b), .int (nI i)] w n (some (.int ((10 - S.1 4) * valN S b i))) w := by
  have hT0 := hT
  obtain ⟨g0, g1, g2, g3, g4, g5, g6, g7, g8, hn⟩ := hT
  refine Fn.of k_T_shareOfSaid l_T_shareOfSaid rfl rfl ?_
  refine r_bipush (v := (10 : Int32)) i_T_shareOfSaid_0 (by decide) ?_
  refine r_aload_n (i := 0) i_T_shareOfSaid_2 rfl rfl ?_
  refine r_getf (ci := 1) (T := Fk1) (k := 4) o_T_shareOfSaid i_T_shareOfSaid_3 x_T_24 rfl (by decide) rfl (by repeat (first | assumption | exact upw_s | refine (upw_n (by omega)).trans ?_)) (by first | assumption | omega) (by rfl) ?_
  refine r_isub i_T_shareOfSaid_6 ?_
  refine r_aload_n (i := 0) i_T_shareOfSaid_7 rfl rfl ?_
  refine r_iload_n (i := 1) i_T_shareOfSaid_8 rfl rfl ?_
  refine r_iload_n (i := 2) i_T_shareOfSaid_9 rfl rfl ?_
  refine f_virtual o_T_shareOfSaid k_T_valueBy v_T_valueBy x_T_111 i_T_shareOfSaid_10 o_T_valueBy (c_T_valueBy hT0 hb hi) rfl (rcv_ob (by repeat (first | assumption | exact upw_s | refine (upw_n (by omega)).trans ?_)) rfl (by first | assumption | omega)) rfl (by decide) (Nat.le_of_ble_eq_true rfl) ?_
  refine r_imul i_T_shareOfSaid_13 ?_
  refine r_ireturn i_T_shareOfSaid_14 t_T_shareOfSaid rfl ?_
  exact ⟨rfl, rfl, rfl⟩
theorem c_T_hasPerson {v : Int32} (hT : TW w t S n) : Fn G 1 y_T_hasPerson [.ref t, .int v] w n (some (.int (bI (lt0 v (S.1 0))))) w := by
  obtain ⟨g0, g1, g2, g3, g4, g5, g6, g7, g8, hn⟩ := hT
  refine Fn.of k_T_hasPerson l_T_hasPerson rfl rfl ?_
  refine r_iload_n (i := 1) i_T_hasPerson_0 rfl rfl ?_
  refine r_aload_n (i := 0) i_T_hasPerson_1 rfl rfl ?_
  refine r_getf (ci := 1) (T := Fk1) (k := 0) o_T_hasPerson i_T_hasPerson_2 x_T_9 rfl (by decide) rfl (by repeat (first | assumption | exact upw_s | refine (upw_n (by omega)).trans ?_)) (by first | assumption | omega) (by rfl) ?_
  refine f_staticN o_T_hasPerson k_N_isBelow s_N_isBelow x_T_68 i_T_hasPerson_5 (c_N_isBelow) rfl rfl (by decide) (Nat.le_of_ble_eq_true rfl) ?_
  refine r_ireturn i_T_hasPerson_8 t_T_hasPerson (by first | rfl | exact nar_bI _) ?_
  exact ⟨rfl, rfl, rfl⟩
theorem c_T_hasBargain {v : Int32} (hT : TW w t S n) : Fn G 1 y_T_hasBargain [.ref t, .int v] w n (some (.int (bI (lt0 v (S.1 1))))) w := by
  obtain ⟨g0, g1, g2, g3, g4, g5, g6, g7, g8, hn⟩ := hT
  refine Fn.of k_T_hasBargain l_T_hasBargain rfl rfl ?_
  refine r_iload_n (i := 1) i_T_hasBargain_0 rfl rfl ?_
  refine r_aload_n (i := 0) i_T_hasBargain_1 rfl rfl ?_
  refine r_getf (ci := 1) (T := Fk1) (k := 1) o_T_hasBargain i_T_hasBargain_2 x_T_15 rfl (by decide) rfl (by repeat (first | assumption | exact upw_s | refine (upw_n (by omega)).trans ?_)) (by first | assumption | omega) (by rfl) ?_
  refine f_staticN o_T_hasBargain k_N_isBelow s_N_isBelow x_T_68 i_T_hasBargain_5 (c_N_isBelow) rfl rfl (by decide) (Nat.le_of_ble_eq_true rfl) ?_
  refine r_ireturn i_T_hasBargain_8 t_T_hasBargain (by first | rfl | exact nar_bI _) ?_
  exact ⟨rfl, rfl, rfl⟩
theorem c_T_hasPair {u v : Int32} (hT : TW w t S n) : Fn G 2 y_T_hasPair [.ref t, .int u, .int v] w n (some (.int (bI (lt0 u (S.1 1) && lt0 v (S.1 0))))) w := by
  have hT0 := hT
  obtain ⟨g0, g1, g2, g3, g4, g5, g6, g7, g8, hn⟩ := hT
  refine Fn.of k_T_hasPair l_T_hasPair rfl rfl ?_
  refine r_aload_n (i := 0) i_T_hasPair_0 rfl rfl ?_
  refine r_iload_n (i := 1) i_T_hasPair_1 rfl rfl ?_
  refine f_virtual o_T_hasPair k_T_hasBargain v_T_hasBargain x_T_72 i_T_hasPair_2 o_T_hasBargain (c_T_hasBargain hT0) rfl (rcv_ob (by repeat (first | assumption | exact upw_s | refine (upw_n (by omega)).trans ?_)) rfl (by first | assumption | omega)) rfl (by decide) (Nat.le_of_ble_eq_true rfl) ?_
  refine r_if_eq 20 i_T_hasPair_5 (by decide) (fun h5 => ?_) (fun h5 => ?_)
  · skip
    refine r_iconst (v := (0 : Int32)) i_T_hasPair_20 rfl ?_
    refine r_ireturn i_T_hasPair_21 t_T_hasPair (by first | rfl | exact nar_bI _) ?_
    exact ⟨by simp_all [bI, bI_eq0, bI_ne0], rfl, rfl⟩
  · skip
    refine r_aload_n (i := 0) i_T_hasPair_8 rfl rfl ?_
    refine r_iload_n (i := 2) i_T_hasPair_9 rfl rfl ?_
    refine f_virtual o_T_hasPair k_T_hasPerson v_T_hasPerson x_T_76 i_T_hasPair_10 o_T_hasPerson (c_T_hasPerson hT0) rfl (rcv_ob (by repeat (first | assumption | exact upw_s | refine (upw_n (by omega)).trans ?_)) rfl (by first | assumption | omega)) rfl (by decide) (Nat.le_of_ble_eq_true rfl) ?_
    refine r_if_eq 20 i_T_hasPair_13 (by decide) (fun h13 => ?_) (fun h13 => ?_)
    · skip
      refine r_iconst (v := (0 : Int32)) i_T_hasPair_20 rfl ?_
      refine r_ireturn i_T_hasPair_21 t_T_hasPair (by first | rfl | exact nar_bI _) ?_
      exact ⟨by simp_all [bI, bI_eq0, bI_ne0], rfl, rfl⟩
    · skip
      refine r_iconst (v := (1 : Int32)) i_T_hasPair_16 rfl ?_
      refine r_goto 21 i_T_hasPair_17 (by decide) ?_
      refine r_ireturn i_T_hasPair_21 t_T_hasPair (by first | rfl | exact nar_bI _) ?_
      exact ⟨by simp_all [bI, bI_eq0, bI_ne0], rfl, rfl⟩
theorem c_T_hasUnlike {u v : Int32} (hT : TW w t S n) : Fn G 2 y_T_hasUnlike [.ref t, .int u, .int v] w n (some (.int (bI (lt0 u (S.1 1) && lt0 v (S.1 1) && !decide (u = v))))) w := by
  have hT0 := hT
  obtain ⟨g0, g1, g2, g3, g4, g5, g6, g7, g8, hn⟩ := hT
  refine Fn.of k_T_hasUnlike l_T_hasUnlike rfl rfl ?_
  refine r_aload_n (i := 0) i_T_hasUnlike_0 rfl rfl ?_
  refine r_iload_n (i := 1) i_T_hasUnlike_1 rfl rfl ?_
  refine f_virtual o_T_hasUnlike k_T_hasBargain v_T_hasBargain x_T_72 i_T_hasUnlike_2 o_T_hasBargain (c_T_hasBargain hT0) rfl (rcv_ob (by repeat (first | assumption | exact upw_s | refine (upw_n (by omega)).trans ?_)) rfl (by first | assumption | omega)) rfl (by decide) (Nat.le_of_ble_eq_true rfl) ?_
  refine r_if_eq 25 i_T_hasUnlike_5 (by decide) (fun h5 => ?_) (fun h5 => ?_)
  · skip
    refine r_iconst (v := (0 : Int32)) i_T_hasUnlike_25 rfl ?_
    refine r_ireturn i_T_hasUnlike_26 t_T_hasUnlike (by first | rfl | exact nar_bI _) ?_
    exact ⟨by simp_all [bI, bI_eq0, bI_ne0], rfl, rfl⟩
  · skip
    refine r_aload_n (i := 0) i_T_hasUnlike_8 rfl rfl ?_
    refine r_iload_n (i := 2) i_T_hasUnlike_9 rfl rfl ?_
    refine f_virtual o_T_hasUnlike k_T_hasBargain v_T_hasBargain x_T_72 i_T_hasUnlike_10 o_T_hasBargain (c_T_hasBargain hT0) rfl (rcv_ob (by repeat (first | assumption | exact upw_s | refine (upw_n (by omega)).trans ?_)) rfl (by first | assumption | omega)) rfl (by decide) (Nat.le_of_ble_eq_true rfl) ?_
    refine r_if_eq 25 i_T_hasUnlike_13 (by decide) (fun h13 => ?_) (fun h13 => ?_)
    · skip
      refine r_iconst (v := (0 : Int32)) i_T_hasUnlike_25 rfl ?_
      refine r_ireturn i_T_hasUnlike_26 t_T_hasUnlike (by first | rfl | exact nar_bI _) ?_
      exact ⟨by simp_all [bI, bI_eq0, bI_ne0], rfl, rfl⟩
    · skip
      refine r_iload_n (i := 1) i_T_hasUnlike_16 rfl rfl ?_
      refine r_iload_n (i := 2) i_T_hasUnlike_17 rfl rfl ?_
      refine r_icmp_eq 25 i_T_hasUnlike_18 (by decide) (fun h18 => ?_) (fun h18 => ?_)
      · skip
        refine r_iconst (v := (0 : Int32)) i_T_hasUnlike_25 rfl ?_
        refine r_ireturn i_T_hasUnlike_26 t_T_hasUnlike (by first | rfl | exact nar_bI _) ?_
        exact ⟨by simp_all [bI, bI_eq0, bI_ne0], rfl, rfl⟩
      · skip
        refine r_iconst (v := (1 : Int32)) i_T_hasUnlike_21 rfl ?_
        refine r_goto 26 i_T_hasUnlike_22 (by decide) ?_
        refine r_ireturn i_T_hasUnlike_26 t_T_hasUnlike (by first | rfl | exact nar_bI _) ?_
        exact ⟨by simp_all [bI, bI_eq0, bI_ne0], rfl, rfl⟩
theorem c_T_everybody (hT : TW w t S n) : Fn G 0 y_T_everybody [.ref t] w n (some (.int ((1 : Int32) <<< (S.1 0 &&& 31) - 1))) w := by
  obtain ⟨g0, g1, g2, g3, g4, g5, g6, g7, g8, hn⟩ := hT
  refine Fn.of k_T_everybody l_T_everybody rfl rfl ?_
  refine r_iconst (v := (1 : Int32)) i_T_everybody_0 rfl ?_
  refine r_aload_n (i := 0) i_T_everybody_1 rfl rfl ?_
  refine r_getf (ci := 1) (T := Fk1) (k := 0) o_T_everybody i_T_everybody_2 x_T_9 rfl (by decide) rfl (by repeat (first | assumption | exact upw_s | refine (upw_n (by omega)).trans ?_)) (by first | assumption | omega) (by rfl) ?_
  refine r_ishl i_T_everybody_5 ?_
  refine r_iconst (v := (1 : Int32)) i_T_everybody_6 rfl ?_
  refine r_isub i_T_everybody_7 ?_
  refine r_ireturn i_T_everybody_8 t_T_everybody rfl ?_
  exact ⟨rfl, rfl, rfl⟩
theorem c_T_barredBy {b : Nat} (hT : TW w t S n) (hb : b < 7) : Fn G 1 y_T_barredBy [.ref t, .int (nI b)] w n (some (.int (S.2 6 b))) w := by
  obtain ⟨g0, g1, g2, g3, g4, g5, g6, g7, g8, hn⟩ := hT
  refine Fn.of k_T_barredBy l_T_barredBy rfl rfl ?_
  refine r_aload_n (i := 0) i_T_barredBy_0 rfl rfl ?_
  refine r_getf (ci := 1) (T := Fk1) (k := 15) o_T_barredBy i_T_barredBy_1 x_T_58 rfl (by decide) rfl (by repeat (first | assumption | exact upw_s | refine (upw_n (by omega)).trans ?_)) (by first | assumption | omega) (by rfl) ?_
  refine r_iload_n (i := 1) i_T_barredBy_4 rfl rfl ?_
  refine f_staticN o_T_barredBy k_N_at s_N_at x_T_91 i_T_barredBy_5 (c_N_at (by repeat (first | assumption | exact upw_s | refine (upw_n (by omega)).trans ?_)) (by omega) (by decide)) rfl rfl (by decide) (Nat.le_of_ble_eq_true rfl) ?_
  refine r_ireturn i_T_barredBy_8 t_T_barredBy rfl ?_
  exact ⟨by rw [atI_in hb (by decide)], rfl, rfl⟩
theorem c_T_partyBits {b : Nat} (hT : TW w t S n) (hb : b < 7) : Fn G 1 y_T_partyBits [.ref t, .int (nI b)] w n (some (.int ((1 : Int32) <<< (S.2 2 b &&& 31) ||| (1 : Int32) <<< (S.2 3 b &&& 31)))) w := by
  obtain ⟨g0, g1, g2, g3, g4, g5, g6, g7, g8, hn⟩ := hT
  refine Fn.of k_T_partyBits l_T_partyBits rfl rfl ?_
  refine r_iconst (v := (1 : Int32)) i_T_partyBits_0 rfl ?_
  refine r_aload_n (i := 0) i_T_partyBits_1 rfl rfl ?_
  refine r_getf (ci := 1) (T := Fk1) (k := 11) o_T_partyBits i_T_partyBits_2 x_T_46 rfl (by decide) rfl (by repeat (first | assumption | exact upw_s | refine (upw_n (by omega)).trans ?_)) (by first | assumption | omega) (by rfl) ?_
  refine r_iload_n (i := 1) i_T_partyBits_5 rfl rfl ?_
  refine f_staticN o_T_partyBits k_N_at s_N_at x_T_91 i_T_partyBits_6 (c_N_at (by repeat (first | assumption | exact upw_s | refine (upw_n (by omega)).trans ?_)) (by omega) (by decide)) rfl rfl (by decide) (Nat.le_of_ble_eq_true rfl) ?_
  refine r_ishl i_T_partyBits_9 ?_
  refine r_iconst (v := (1 : Int32)) i_T_partyBits_10 rfl ?_
  refine r_aload_n (i := 0) i_T_partyBits_11 rfl rfl ?_
  refine r_getf (ci := 1) (T := Fk1) (k := 12) o_T_partyBits i_T_partyBits_12 x_T_49 rfl (by decide) rfl (by repeat (first | assumption | exact upw_s | refine (upw_n (by omega)).trans ?_)) (by first | assumption | omega) (by rfl) ?_
  refine r_iload_n (i := 1) i_T_partyBits_15 rfl rfl ?_
  refine f_staticN o_T_partyBits k_N_at s_N_at x_T_91 i_T_partyBits_16 (c_N_at (by repeat (first | assumption | exact upw_s | refine (upw_n (by omega)).trans ?_)) (by omega) (by decide)) rfl rfl (by decide) (Nat.le_of_ble_eq_true rfl) ?_
  refine r_ishl i_T_partyBits_19 ?_
  refine r_ior i_T_partyBits_20 ?_
  refine r_ireturn i_T_partyBits_21 t_T_partyBits rfl ?_
  exact ⟨by rw [atI_in hb (by decide), atI_in hb (by decide)], rfl, rfl⟩
def wbit (x p b : Int32) : Int32 := if b = 0 then x &&& ((1 : Int32) <<< (p &&& 31) ^^^ (-1)) else x ||| (1 : Int32) <<< (p &&& 31)
theorem c_T_withBit {x p b : Int32} : Fn G 0 y_T_withBit [.int x, .int p, .int b] w n (some (.int (wbit x p b))) w := by
  refine Fn.of k_T_withBit l_T_withBit rfl rfl ?_
  refine r_iload_n (i := 2) i_T_withBit_0 rfl rfl ?_
  refine r_if_eq 12 i_T_withBit_1 (by decide) (fun h1 => ?_) (fun h1 => ?_)
  · skip
    refine r_iload_n (i := 0) i_T_withBit_12 rfl rfl ?_
    refine r_iconst (v := (1 : Int32)) i_T_withBit_13 rfl ?_
    refine r_iload_n (i := 1) i_T_withBit_14 rfl rfl ?_
    refine r_ishl i_T_withBit_15 ?_
    refine r_iconst (v := (-1 : Int32)) i_T_withBit_16 rfl ?_
    refine r_ixor i_T_withBit_17 ?_
    refine r_iand i_T_withBit_18 ?_
    refine r_ireturn i_T_withBit_19 t_T_withBit rfl ?_
    exact ⟨by simp [wbit, *], rfl, rfl⟩
  · skip
    refine r_iload_n (i := 0) i_T_withBit_4 rfl rfl ?_
    refine r_iconst (v := (1 : Int32)) i_T_withBit_5 rfl ?_
    refine r_iload_n (i := 1) i_T_withBit_6 rfl rfl ?_
    refine r_ishl i_T_withBit_7 ?_
    refine r_ior i_T_withBit_8 ?_
    refine r_goto 19 i_T_withBit_9 (by decide) ?_
    refine r_ireturn i_T_withBit_19 t_T_withBit rfl ?_
    exact ⟨by simp [wbit, *], rfl, rfl⟩
theorem c_T_leastOfLaw {x : Int32} : Fn G 0 y_T_leastOfLaw [.int x] w n (some (.int (if x = 0 then 1 else 0))) w := by
  refine Fn.of k_T_leastOfLaw l_T_leastOfLaw rfl rfl ?_
  refine r_iload_n (i := 0) i_T_leastOfLaw_0 rfl rfl ?_
  refine r_if_ne 8 i_T_leastOfLaw_1 (by decide) (fun h1 => ?_) (fun h1 => ?_)
  · skip
    refine r_iconst (v := (0 : Int32)) i_T_leastOfLaw_8 rfl ?_
    refine r_ireturn i_T_leastOfLaw_9 t_T_leastOfLaw rfl ?_
    exact ⟨by simp [*], rfl, rfl⟩
  · skip
    refine r_iconst (v := (1 : Int32)) i_T_leastOfLaw_4 rfl ?_
    refine r_goto 9 i_T_leastOfLaw_5 (by decide) ?_
    refine r_ireturn i_T_leastOfLaw_9 t_T_leastOfLaw rfl ?_
    exact ⟨by simp [*], rfl, rfl⟩
theorem c_T_goodBits {b P : Nat} (hT : TW w t S n) (hb : b < 7) (hP : S.1 0 = nI P) (hP7 : P ≤ 7) : Fn G 2 y_T_goodBits [.ref t, .int (nI b)] w n (some (.int (bitsOf (gd S b) P))) w := by
  have hT0 := hT
  obtain ⟨g0, g1, g2, g3, g4, g5, g6, g7, g8, hn⟩ := hT
  refine Fn.of k_T_goodBits l_T_goodBits rfl rfl ?_
  have hloop : ∀ m k : Nat, k + m = P → Go G 2 y_T_goodBits 4 [some (.ref t), some (.int (nI b)), some (.int (bitsOf (gd S b) k)), some (.int (nI k))] [] w n 0 0 (fun r1 w1 n1 => r1 = some (.int (bitsOf (gd S b) P)) ∧ w1 = w ∧ n1 = n) := by
    intro m
    induction m with
    | zero =>
      intro k hk
      have hk : k = P := by omega
      subst hk
      refine r_iload_n (i := 3) i_T_goodBits_4 rfl rfl ?_
      refine r_aload_n (i := 0) i_T_goodBits_5 rfl rfl ?_
      refine r_getf (ci := 1) (T := Fk1) (k := 0) o_T_goodBits i_T_goodBits_6 x_T_9 rfl (by decide) rfl (by repeat (first | assumption | exact upw_s | refine (upw_n (by omega)).trans ?_)) (by first | assumption | omega) (by rfl) ?_
      refine r_icmp_ge 33 i_T_goodBits_9 (by decide) (fun h9 => ?_) (fun h9 => (absurd (by rw [hP]; exact nI_le (Nat.le_refl _) (by omega)) h9))
      refine r_iload_n (i := 2) i_T_goodBits_33 rfl rfl ?_
      refine r_ireturn i_T_goodBits_34 t_T_goodBits rfl ?_
      exact ⟨rfl, rfl, rfl⟩
    | succ m ih =>
      intro k hk
      refine r_iload_n (i := 3) i_T_goodBits_4 rfl rfl ?_
      refine r_aload_n (i := 0) i_T_goodBits_5 rfl rfl ?_
      refine r_getf (ci := 1) (T := Fk1) (k := 0) o_T_goodBits i_T_goodBits_6 x_T_9 rfl (by decide) rfl (by repeat (first | assumption | exact upw_s | refine (upw_n (by omega)).trans ?_)) (by first | assumption | omega) (by rfl) ?_
      refine r_icmp_ge 33 i_T_goodBits_9 (by decide) (fun h9 => (absurd (hP ▸ h9) (nI_ge (by omega) (by omega)))) (fun h9 => ?_)
      refine r_aload_n (i := 0) i_T_goodBits_12 rfl rfl ?_
      refine r_iload_n (i := 1) i_T_goodBits_13 rfl rfl ?_
      refine r_iload_n (i := 3) i_T_goodBits_14 rfl rfl ?_
      refine f_virtual o_T_goodBits k_T_isGoodBy v_T_isGoodBy x_T_105 i_T_goodBits_15 o_T_isGoodBy (c_T_isGoodBy hT0 hb (by omega)) rfl (rcv_ob (by repeat (first | assumption | exact upw_s | refine (upw_n (by omega)).trans ?_)) rfl (by first | assumption | omega)) rfl (by decide) (Nat.le_of_ble_eq_true rfl) ?_
      refine r_if_eq 27 i_T_goodBits_18 (by decide) (fun h18 => ?_) (fun h18 => ?_)
      · skip
        refine r_iinc_3 (v := (1 : Int32)) i_T_goodBits_27 rfl (by rw [l_T_goodBits]; decide) rfl ?_
        refine r_goto 4 i_T_goodBits_30 (by decide) ?_
        rw [nI_1]
        refine Eq.mp ?_ (ih (k + 1) (by omega))
        simp_all [bitsOf, bI_eq0, bI_ne0, b1]
      · skip
        refine r_iload_n (i := 2) i_T_goodBits_21 rfl rfl ?_
        refine r_iconst (v := (1 : Int32)) i_T_goodBits_22 rfl ?_
        refine r_iload_n (i := 3) i_T_goodBits_23 rfl rfl ?_
        refine r_ishl i_T_goodBits_24 ?_
        refine r_ior i_T_goodBits_25 ?_
        refine r_istore_2 i_T_goodBits_26 (by rw [l_T_goodBits]; decide) rfl ?_
        refine r_iinc_3 (v := (1 : Int32)) i_T_goodBits_27 rfl (by rw [l_T_goodBits]; decide) rfl ?_
        refine r_goto 4 i_T_goodBits_30 (by decide) ?_
        rw [nI_1]
        refine Eq.mp ?_ (ih (k + 1) (by omega))
        simp_all [bitsOf, bI_eq0, bI_ne0, b1]
  refine r_iconst (v := (0 : Int32)) i_T_goodBits_0 rfl ?_
  refine r_istore_2 i_T_goodBits_1 (by rw [l_T_goodBits]; decide) rfl ?_
  refine r_iconst (v := (0 : Int32)) i_T_goodBits_2 rfl ?_
  refine r_istore_3 i_T_goodBits_3 (by rw [l_T_goodBits]; decide) rfl ?_
  exact hloop P 0 (by omega)
theorem c_T_bargainsGoodBy {i B : Nat} (hT : TW w t S n) (hi : i < 7) (hB : S.1 1 = nI B) (hB7 : B ≤ 7) : Fn G 2 y_T_bargainsGoodBy [.ref t, .int (nI i)] w n (some (.int (bitsOf (fun b => gd S b i) B))) w := by
  have hT0 := hT
  obtain ⟨g0, g1, g2, g3, g4, g5, g6, g7, g8, hn⟩ := hT
  refine Fn.of k_T_bargainsGoodBy l_T_bargainsGoodBy rfl rfl ?_
  have hloop : ∀ m k : Nat, k + m = B → Go G 2 y_T_bargainsGoodBy 4 [some (.ref t), some (.int (nI i)), some (.int (bitsOf (fun b => gd S b i) k)), some (.int (nI k))] [] w n 0 0 (fun r1 w1 n1 => r1 = some (.int (bitsOf (fun b => gd S b i) B)) ∧ w1 = w ∧ n1 = n) := by
    intro m
    induction m with
    | zero =>
      intro k hk
      have hk : k = B := by omega
      subst hk
      refine r_iload_n (i := 3) i_T_bargainsGoodBy_4 rfl rfl ?_
      refine r_aload_n (i := 0) i_T_bargainsGoodBy_5 rfl rfl ?_
      refine r_getf (ci := 1) (T := Fk1) (k := 1) o_T_bargainsGoodBy i_T_bargainsGoodBy_6 x_T_15 rfl (by decide) rfl (by repeat (first | assumption | exact upw_s | refine (upw_n (by omega)).trans ?_)) (by first | assumption | omega) (by rfl) ?_
      refine r_icmp_ge 33 i_T_bargainsGoodBy_9 (by decide) (fun h9 => ?_) (fun h9 => (absurd (by rw [hB]; exact nI_le (Nat.le_refl _) (by omega)) h9))
      refine r_iload_n (i := 2) i_T_bargainsGoodBy_33 rfl rfl ?_
      refine r_ireturn i_T_bargainsGoodBy_34 t_T_bargainsGoodBy rfl ?_
      exact ⟨rfl, rfl, rfl⟩
    | succ m ih =>
      intro k hk
      refine r_iload_n (i := 3) i_T_bargainsGoodBy_4 rfl rfl ?_
      refine r_aload_n (i := 0) i_T_bargainsGoodBy_5 rfl rfl ?_
      refine r_getf (ci := 1) (T := Fk1) (k := 1) o_T_bargainsGoodBy i_T_bargainsGoodBy_6 x_T_15 rfl (by decide) rfl (by repeat (first | assumption | exact upw_s | refine (upw_n (by omega)).trans ?_)) (by first | assumption | omega) (by rfl) ?_
      refine r_icmp_ge 33 i_T_bargainsGoodBy_9 (by decide) (fun h9 => (absurd (hB ▸ h9) (nI_ge (by omega) (by omega)))) (fun h9 => ?_)
      refine r_aload_n (i := 0) i_T_bargainsGoodBy_12 rfl rfl ?_
      refine r_iload_n (i := 3) i_T_bargainsGoodBy_13 rfl rfl ?_
      refine r_iload_n (i := 1) i_T_bargainsGoodBy_14 rfl rfl ?_
      refine f_virtual o_T_bargainsGoodBy k_T_isGoodBy v_T_isGoodBy x_T_105 i_T_bargainsGoodBy_15 o_T_isGoodBy (c_T_isGoodBy hT0 (by omega) hi) rfl (rcv_ob (by repeat (first | assumption | exact upw_s | refine (upw_n (by omega)).trans ?_)) rfl (by first | assumption | omega)) rfl (by decide) (Nat.le_of_ble_eq_true rfl) ?_
      refine r_if_eq 27 i_T_bargainsGoodBy_18 (by decide) (fun h18 => ?_) (fun h18 => ?_)
      · skip
        refine r_iinc_3 (v := (1 : Int32)) i_T_bargainsGoodBy_27 rfl (by rw [l_T_bargainsGoodBy]; decide) rfl ?_
        refine r_goto 4 i_T_bargainsGoodBy_30 (by decide) ?_
        rw [nI_1]
        refine Eq.mp ?_ (ih (k + 1) (by omega))
        simp_all [bitsOf, bI_eq0, bI_ne0, b1]
      · skip
        refine r_iload_n (i := 2) i_T_bargainsGoodBy_21 rfl rfl ?_
        refine r_iconst (v := (1 : Int32)) i_T_bargainsGoodBy_22 rfl ?_
        refine r_iload_n (i := 3) i_T_bargainsGoodBy_23 rfl rfl ?_
        refine r_ishl i_T_bargainsGoodBy_24 ?_
        refine r_ior i_T_bargainsGoodBy_25 ?_
        refine r_istore_2 i_T_bargainsGoodBy_26 (by rw [l_T_bargainsGoodBy]; decide) rfl ?_
        refine r_iinc_3 (v := (1 : Int32)) i_T_bargainsGoodBy_27 rfl (by rw [l_T_bargainsGoodBy]; decide) rfl ?_
        refine r_goto 4 i_T_bargainsGoodBy_30 (by decide) ?_
        rw [nI_1]
        refine Eq.mp ?_ (ih (k + 1) (by omega))
        simp_all [bitsOf, bI_eq0, bI_ne0, b1]
  refine r_iconst (v := (0 : Int32)) i_T_bargainsGoodBy_0 rfl ?_
  refine r_istore_2 i_T_bargainsGoodBy_1 (by rw [l_T_bargainsGoodBy]; decide) rfl ?_
  refine r_iconst (v := (0 : Int32)) i_T_bargainsGoodBy_2 rfl ?_
  refine r_istore_3 i_T_bargainsGoodBy_3 (by rw [l_T_bargainsGoodBy]; decide) rfl ?_
  exact hloop B 0 (by omega)
def mayB (S : aS) (b P : Nat) (x : Int32) : Int32 := if S.1 3 = 1 then bitsOf (gd S b) P &&& (x ^^^ (-1)) else bitsOf (gd S b) P
theorem c_T_mayBits {b P : Nat} {x : Int32} (hT : TW w t S n) (hb : b < 7) (hP : S.1 0 = nI P) (hP7 : P ≤ 7) : Fn G 3 y_T_mayBits [.ref t, .int (nI b), .int x] w n (some (.int (mayB S b P x))) w := by
  have hT0 := hT
  obtain ⟨g0, g1, g2, g3, g4, g5, g6, g7, g8, hn⟩ := hT
  refine Fn.of k_T_mayBits l_T_mayBits rfl rfl ?_
  refine r_aload_n (i := 0) i_T_mayBits_0 rfl rfl ?_
  refine r_getf (ci := 1) (T := Fk1) (k := 3) o_T_mayBits i_T_mayBits_1 x_T_21 rfl (by decide) rfl (by repeat (first | assumption | exact upw_s | refine (upw_n (by omega)).trans ?_)) (by first | assumption | omega) (by rfl) ?_
  refine r_iconst (v := (1 : Int32)) i_T_mayBits_4 rfl ?_
  refine r_icmp_ne 20 i_T_mayBits_5 (by decide) (fun h5 => ?_) (fun h5 => ?_)
  · skip
    refine r_aload_n (i := 0) i_T_mayBits_20 rfl rfl ?_
    refine r_iload_n (i := 1) i_T_mayBits_21 rfl rfl ?_
    refine f_virtual o_T_mayBits k_T_goodBits v_T_goodBits x_T_108 i_T_mayBits_22 o_T_goodBits (c_T_goodBits hT0 hb hP hP7) rfl (rcv_ob (by repeat (first | assumption | exact upw_s | refine (upw_n (by omega)).trans ?_)) rfl (by first | assumption | omega)) rfl (by decide) (Nat.le_of_ble_eq_true rfl) ?_
    refine r_ireturn i_T_mayBits_25 t_T_mayBits rfl ?_
    exact ⟨by simp [mayB, *], rfl, rfl⟩
  · skip
    refine r_aload_n (i := 0) i_T_mayBits_8 rfl rfl ?_
    refine r_iload_n (i := 1) i_T_mayBits_9 rfl rfl ?_
    refine f_virtual o_T_mayBits k_T_goodBits v_T_goodBits x_T_108 i_T_mayBits_10 o_T_goodBits (c_T_goodBits hT0 hb hP hP7) rfl (rcv_ob (by repeat (first | assumption | exact upw_s | refine (upw_n (by omega)).trans ?_)) rfl (by first | assumption | omega)) rfl (by decide) (Nat.le_of_ble_eq_true rfl) ?_
    refine r_iload_n (i := 2) i_T_mayBits_13 rfl rfl ?_
    refine r_iconst (v := (-1 : Int32)) i_T_mayBits_14 rfl ?_
    refine r_ixor i_T_mayBits_15 ?_
    refine r_iand i_T_mayBits_16 ?_
    refine r_goto 25 i_T_mayBits_17 (by decide) ?_
    refine r_ireturn i_T_mayBits_25 t_T_mayBits rfl ?_
    exact ⟨by simp [mayB, *], rfl, rfl⟩
end TOWN
