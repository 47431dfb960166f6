-- SHELVES: rows; RULES: isUnder; WEEK
theorem low0 : ∀ c, c < 5 → lowb (nI c) 0 = 0 := by decide
def rowX (X : aH) (s c m i : Nat) : aH := (upd X.1 s (nI c), upd X.2.1 s (nI m), X.2.2.1, fun j => if 40 * s ≤ j ∧ j < 40 * s + i then 0 else X.2.2.2 j)
section ROWS
variable {G : gE} {w : aW} {n k : Nat} {X : aH}
theorem c_S_putRow {s c m : Nat} (hX : SW w k X n) (hs : s < 8) (hc : c < 5) (hm : m ≤ 40) : Sm G 3 y_S_putRow [.ref k, .int (nI s), .int (nI c), .int (nI m)] w n none k (rowX X s c m m) := by
  have hloop : ∀ r i : Nat, i + r = m → ∀ w1 : aW, SW w1 k (rowX X s c m i) n → (∀ j, (j < k ∨ k + 4 < j) → w1 j = w j) → Go G 3 y_S_putRow 21 [some (.ref k), some (.int (nI s)), some (.int (nI c)), some (.int (nI m)), some (.int (nI i))] [] w1 n 0 0 (fun r1 w2 n1 => r1 = none ∧ SU w w2 k (rowX X s c m m) n ∧ n1 = n) := by
    intro r
    induction r with
    | zero =>
      intro i hi w1 hX1 hF1
      have hi : i = m := by omega
      subst hi
      refine r_iload (i := 4) i_S_putRow_21 rfl ?_
      refine r_iload_n (i := 3) i_S_putRow_23 rfl rfl ?_
      refine r_icmp_ge 41 i_S_putRow_24 (by decide) (fun h24 => ?_) (fun h24 => (absurd (Int32.le_refl _) h24))
      refine r_return i_S_putRow_41 t_S_putRow ?_
      exact ⟨rfl, ⟨hX1, hF1⟩, rfl⟩
    | succ r ih =>
      intro i hi w1 hX1 hF1
      have hX0 := hX1
      obtain ⟨g0, g1, g2, g3, g4, hn⟩ := hX1
      refine r_iload (i := 4) i_S_putRow_21 rfl ?_
      refine r_iload_n (i := 3) i_S_putRow_23 rfl rfl ?_
      refine r_icmp_ge 41 i_S_putRow_24 (by decide) (fun h24 => (absurd h24 (nI_ge (by omega) (by omega)))) (fun h24 => ?_)
      refine r_aload_n (i := 0) i_S_putRow_27 rfl rfl ?_
      refine r_iload_n (i := 1) i_S_putRow_28 rfl rfl ?_
      refine r_iload (i := 4) i_S_putRow_29 rfl ?_
      refine r_lconst (v := (0 : Int64)) i_S_putRow_31 rfl ?_
      refine m_virtual o_S_putRow k_S_putElement v_S_putElement x_S_55 i_S_putRow_32 o_S_putElement (c_S_putElement hX0 hs (i := i) (by omega) (c := c) (by simp [rowX, upd]) hc) rfl (rcv_ob (by repeat (first | assumption | exact upw_s | refine (upw_n (by omega)).trans ?_)) rfl (by first | assumption | omega)) rfl (by decide) (Nat.le_of_ble_eq_true rfl) (Nat.zero_le _) (Nat.zero_le _) (fun r1 w2 n1 hp => ?_)
      obtain ⟨rfl, ⟨hX2, hF2⟩, rfl⟩ := hp
      refine r_iinc_4 (v := (1 : Int32)) i_S_putRow_35 rfl (by rw [l_S_putRow]; decide) rfl ?_
      refine r_goto 21 i_S_putRow_38 (by decide) ?_
      rw [nI_1]
      refine ih (i + 1) (by omega) w2 ?_ (fun j hj => (hF2 j hj).trans (hF1 j hj))
      have e9 : putE (rowX X s c m i) s i 0 = rowX X s c m (i + 1) := by
        unfold putE rowX
        refine congrArg (fun z => (upd X.1 s (nI c), upd X.2.1 s (nI m), X.2.2.1, z)) (funext fun j => ?_)
        have e8 : upd X.1 s (nI c) s = nI c := if_pos rfl
        have hh : lowb (upd X.1 s (nI c) s) 0 = 0 := by rw [e8]; exact low0 c hc
        show vp_updL (fun j => if 40 * s ≤ j ∧ j < 40 * s + i then 0 else X.2.2.2 j) (40 * s + i) (lowb (upd X.1 s (nI c) s) 0) j = _
        rw [hh]
        unfold vp_updL
        by_cases e1 : j = 40 * s + i
        · rw [if_pos e1, if_pos (by omega)]
        · rw [if_neg e1]
          show (if 40 * s ≤ j ∧ j < 40 * s + i then (0 : Int64) else X.2.2.2 j) = _
          by_cases e2 : 40 * s ≤ j ∧ j < 40 * s + i
          · rw [if_pos e2, if_pos (by omega)]
          · rw [if_neg e2, if_neg (by omega)]
      rw [← e9]
      exact hX2
  obtain ⟨g0, g1, g2, g3, g4, hn⟩ := hX
  refine Sm.of k_S_putRow l_S_putRow rfl rfl ?_
  refine r_aload_n (i := 0) i_S_putRow_0 rfl rfl ?_
  refine r_getf (ci := 2) (T := Fk2) (k := 0) o_S_putRow i_S_putRow_1 x_S_9 rfl (by decide) rfl (by repeat (first | assumption | exact upw_s | refine (upw_n (by omega)).trans ?_)) (by first | assumption | omega) (by rfl) ?_
  refine r_iload_n (i := 1) i_S_putRow_4 rfl rfl ?_
  refine r_iload_n (i := 2) i_S_putRow_5 rfl rfl ?_
  refine f_staticN o_S_putRow k_N_put s_N_put x_S_51 i_S_putRow_6 (c_N_put (by repeat (first | assumption | exact upw_s | refine (upw_n (by omega)).trans ?_)) (by omega) (by decide)) rfl rfl (by decide) (Nat.le_of_ble_eq_true rfl) ?_
  rw [puI_in hs (by decide)]
  refine r_aload_n (i := 0) i_S_putRow_9 rfl rfl ?_
  refine r_getf (ci := 2) (T := Fk2) (k := 1) o_S_putRow i_S_putRow_10 x_S_15 rfl (by decide) rfl (by repeat (first | assumption | exact upw_s | refine (upw_n (by omega)).trans ?_)) (by first | assumption | omega) (by rfl) ?_
  refine r_iload_n (i := 1) i_S_putRow_13 rfl rfl ?_
  refine r_iload_n (i := 3) i_S_putRow_14 rfl rfl ?_
  refine f_staticN o_S_putRow k_N_put s_N_put x_S_51 i_S_putRow_15 (c_N_put (by repeat (first | assumption | exact upw_s | refine (upw_n (by omega)).trans ?_)) (by omega) (by decide)) rfl rfl (by decide) (Nat.le_of_ble_eq_true rfl) ?_
  rw [puI_in hs (by decide)]
  refine r_iconst (v := (0 : Int32)) i_S_putRow_18 rfl ?_
  refine r_istore_4 i_S_putRow_19 (by rw [l_S_putRow]; decide) rfl ?_
  refine hloop m 0 (by omega) _ ⟨(by repeat (first | assumption | exact upw_s | refine (upw_n (by omega)).trans ?_)), (by repeat (first | assumption | exact upw_s | refine (upw_n (by omega)).trans ?_)), (by repeat (first | assumption | exact upw_s | refine (upw_n (by omega)).trans ?_)), (by repeat (first | assumption | exact upw_s | refine (upw_n (by omega)).trans ?_)), ?_, hn⟩ (fun k hk => (by (repeat (refine (upw_n (by omega)).trans ?_)); rfl))
  have e9 : (rowX X s c m 0).2.2.2 = X.2.2.2 := funext fun j => if_neg (by omega)
  rw [e9]
  exact (by repeat (first | assumption | exact upw_s | refine (upw_n (by omega)).trans ?_))
end ROWS
section UNDER
variable {G : gE} {w : aW} {n : Nat}
def nxtA (a : Int32) : Int32 := if lt0 a 7 then aboveL.getD a.toNatClampNeg 0 else -1
def isU (q : Int32) : Nat → Int32 → Bool
  | 0, _ => false
  | m + 1, a => if a = -1 then false else if a = q then true else isU q m (nxtA a)
theorem c_U_isUnder {a q : Int32} : Fn G 1 y_U_isUnder [.int a, .int q] w n (some (.int (bI (isU q 7 a)))) w := by
  refine Fn.of k_U_isUnder l_U_isUnder rfl rfl ?_
  have hloop : ∀ m i : Nat, i + m = 7 → ∀ z : Int32, Go G 1 y_U_isUnder 4 [some (.int a), some (.int q), some (.int z), some (.int (nI i))] [] w n 0 0 (fun r1 w1 n1 => r1 = some (.int (bI (isU q m z))) ∧ w1 = w ∧ n1 = n) := by
    intro m
    induction m with
    | zero =>
      intro i hi z
      have hi : i = 7 := by omega
      subst hi
      refine r_iload_n (i := 3) i_U_isUnder_4 rfl rfl ?_
      refine r_getsAbove o_U_isUnder i_U_isUnder_5 x_U_9 ?_
      refine r_aboveLen i_U_isUnder_8 ?_
      refine r_icmp_ge 51 i_U_isUnder_9 (by decide) (fun h9 => ?_) (fun h9 => (absurd (Int32.le_refl _) h9))
      refine r_iconst (v := (0 : Int32)) i_U_isUnder_51 rfl ?_
      refine r_ireturn i_U_isUnder_52 t_U_isUnder (by first | rfl | exact nar_bI _) ?_
      exact ⟨rfl, rfl, rfl⟩
    | succ m ih =>
      intro i hi z
      refine r_iload_n (i := 3) i_U_isUnder_4 rfl rfl ?_
      refine r_getsAbove o_U_isUnder i_U_isUnder_5 x_U_9 ?_
      refine r_aboveLen i_U_isUnder_8 ?_
      refine r_icmp_ge 51 i_U_isUnder_9 (by decide) (fun h9 => (absurd h9 (nI_ge (b := 7) (by omega) (by decide)))) (fun h9 => ?_)
      refine r_iload_n (i := 2) i_U_isUnder_12 rfl rfl ?_
      refine r_iconst (v := (-1 : Int32)) i_U_isUnder_13 rfl ?_
      refine r_icmp_eq 51 i_U_isUnder_14 (by decide) (fun h14 => ?_) (fun h14 => ?_)
      · skip
        refine r_iconst (v := (0 : Int32)) i_U_isUnder_51 rfl ?_
        refine r_ireturn i_U_isUnder_52 t_U_isUnder (by first | rfl | exact nar_bI _) ?_
        exact ⟨by first | (simp [isU, bI, h14]; done) | (rw [h19] at h14; simp [isU, bI, h14, h19]; done), rfl, rfl⟩
      · skip
        refine r_iload_n (i := 2) i_U_isUnder_17 rfl rfl ?_
        refine r_iload_n (i := 1) i_U_isUnder_18 rfl rfl ?_
        refine r_icmp_ne 24 i_U_isUnder_19 (by decide) (fun h19 => ?_) (fun h19 => ?_)
        · skip
          refine r_iload_n (i := 2) i_U_isUnder_24 rfl rfl ?_
          refine r_getsAbove o_U_isUnder i_U_isUnder_25 x_U_9 ?_
          refine r_aboveLen i_U_isUnder_28 ?_
          refine f_staticN o_U_isUnder k_N_isBelow s_N_isBelow x_U_15 i_U_isUnder_29 (c_N_isBelow) rfl rfl (by decide) (Nat.le_of_ble_eq_true rfl) ?_
          refine r_if_eq 43 i_U_isUnder_32 (by decide) (fun h32 => ?_) (fun h32 => ?_)
          · skip
            have h32 := bI_eq0.mp h32
            refine r_iconst (v := (-1 : Int32)) i_U_isUnder_43 rfl ?_
            refine r_istore_2 i_U_isUnder_44 (by rw [l_U_isUnder]; decide) rfl ?_
            refine r_iinc_3 (v := (1 : Int32)) i_U_isUnder_45 rfl (by rw [l_U_isUnder]; decide) rfl ?_
            refine r_goto 4 i_U_isUnder_48 (by decide) ?_
            rw [nI_1]
            refine Eq.mp ?_ (ih (i + 1) (by omega) (nxtA z))
            simp [isU, nxtA, *]
          · skip
            have h32 := h32
            have h33 := bI_ne0.mp h32
            refine r_getsAbove o_U_isUnder i_U_isUnder_35 x_U_9 ?_
            refine r_iload_n (i := 2) i_U_isUnder_38 rfl rfl ?_
            refine r_aboveAt i_U_isUnder_39 (vp_of (of_decide_eq_true (bI_ne0.mp h32)).1 (of_decide_eq_true (bI_ne0.mp h32)).2 (by decide)) ?_
            refine r_goto 44 i_U_isUnder_40 (by decide) ?_
            refine r_istore_2 i_U_isUnder_44 (by rw [l_U_isUnder]; decide) rfl ?_
            refine r_iinc_3 (v := (1 : Int32)) i_U_isUnder_45 rfl (by rw [l_U_isUnder]; decide) rfl ?_
            refine r_goto 4 i_U_isUnder_48 (by decide) ?_
            rw [nI_1]
            refine Eq.mp ?_ (ih (i + 1) (by omega) (nxtA z))
            simp [isU, nxtA, *]
        · skip
          refine r_iconst (v := (1 : Int32)) i_U_isUnder_22 rfl ?_
          refine r_ireturn i_U_isUnder_23 t_U_isUnder (by first | rfl | exact nar_bI _) ?_
          exact ⟨by first | (simp [isU, bI, h14]; done) | (rw [h19] at h14; simp [isU, bI, h14, h19]; done), rfl, rfl⟩
  refine r_iload_n (i := 0) i_U_isUnder_0 rfl rfl ?_
  refine r_istore_2 i_U_isUnder_1 (by rw [l_U_isUnder]; decide) rfl ?_
  refine r_iconst (v := (0 : Int32)) i_U_isUnder_2 rfl ?_
  refine r_istore_3 i_U_isUnder_3 (by rw [l_U_isUnder]; decide) rfl ?_
  exact hloop 7 0 (by omega) _
end UNDER
-- WEEK
abbrev aK : Type := Int32 × Int32 × (Nat → Int32)
def WW (w : aW) (k : Nat) (X : aK) (n : Nat) : Prop := w k = .inr (4, [.ref (k + 1), .int X.1, .int X.2.1]) ∧ w (k + 1) = ai 7 X.2.2 ∧ k + 1 < n
def WU (w w' : aW) (k : Nat) (X : aK) (n : Nat) : Prop := WW w' k X n ∧ ∀ j, (j < k ∨ k + 1 < j) → w' j = w j
def Wm (G : gE) (d z : Nat) (args : List Value) (w : aW) (n : Nat) (r0 : Option Value) (k : Nat) (X : aK) : Prop := Mt G d z args w n 0 0 (fun r w' n' => r = r0 ∧ WU w w' k X n ∧ n' = n)
theorem Wm.of {G : gE} {d z na nL : Nat} {args : List Value} {w : aW} {n : Nat} {r : Option Value} {k : Nat} {X : aK} {ls : List (Option Value)} (hz : okM z na) (hm : ml z = nL) (hfit : Nat.ble (ent args).length nL = true) (hls : ent args ++ List.replicate (nL - (ent args).length) none = ls)
    (h : Go G d z 0 ls [] w n 0 0 (fun r1 w1 n1 => r1 = r ∧ WU w w1 k X n ∧ n1 = n)) : Wm G d z args w n r k X := Mt.of hz hm (Nat.le_of_ble_eq_true hfit) hls h
def takeW (X : aK) (b : Nat) (c : Int32) : aK := if c = -1 then X else (X.1 ||| b1 b, X.2.1 ||| (1 : Int32) <<< (c &&& 31), upd X.2.2 b c)
def barN (S : aS) (X : aK) (b : Nat) : Bool := !decide (S.2 6 b &&& X.1 = 0)
theorem TW.fr {w w' : aW} {t n : Nat} {S : aS} (h : TW w t S n) (hf : ∀ j, t ≤ j → j ≤ t + 8 → w' j = w j) : TW w' t S n := by
  obtain ⟨g0, g1, g2, g3, g4, g5, g6, g7, g8, hn⟩ := h
  exact ⟨(hf _ (by omega) (by omega)).trans g0, (hf _ (by omega) (by omega)).trans g1, (hf _ (by omega) (by omega)).trans g2, (hf _ (by omega) (by omega)).trans g3, (hf _ (by omega) (by omega)).trans g4, (hf _ (by omega) (by omega)).trans g5, (hf _ (by omega) (by omega)).trans g6, (hf _ (by omega) (by omega)).trans g7, (hf _ (by omega) (by omega)).trans g8, hn⟩
theorem SW.fr {w w' : aW} {t n : Nat} {S : aH} (h : SW w t S n) (hf : ∀ j, t ≤ j → j ≤ t + 4 → w' j = w j) : SW w' t S n := by
  obtain ⟨g0, g1, g2, g3, g4, hn⟩ := h
  exact ⟨(hf _ (by omega) (by omega)).trans g0, (hf _ (by omega) (by omega)).trans g1, (hf _ (by omega) (by omega)).trans g2, (hf _ (by omega) (by omega)).trans g3, (hf _ (by omega) (by omega)).trans g4, hn⟩
theorem WW.fr {w w' : aW} {t n : Nat} {S : aK} (h : WW w t S n) (hf : ∀ j, t ≤ j → j ≤ t + 1 → w' j = w j) : WW w' t S n := by
  obtain ⟨g0, g1, hn⟩ := h
  exact ⟨(hf _ (by omega) (by omega)).trans g0, (hf _ (by omega) (by omega)).trans g1, hn⟩
section WEEK
variable {G : gE} {w : aW} {n k t : Nat} {X : aK} {S : aS}
theorem c_W_begin (hX : WW w k X n) : Wm G 0 y_W_begin [.ref k] w n none k (0, 0, X.2.2) := by
  obtain ⟨g0, g1, hn⟩ := hX
  refine Wm.of k_W_begin l_W_begin rfl rfl ?_
  refine r_aload_n (i := 0) i_W_begin_0 rfl rfl ?_
  refine r_iconst (v := (0 : Int32)) i_W_begin_1 rfl ?_
  refine r_putf (ci := 4) (T := Fk4) (k := 1) o_W_begin i_W_begin_2 x_W_15 rfl (by decide) rfl rfl (ok4 1 (by decide)) rfl (by repeat (first | assumption | exact upw_s | refine (upw_n (by omega)).trans ?_)) (by first | assumption | omega) (by exact Nat.le_of_ble_eq_true rfl) ?_
  refine r_aload_n (i := 0) i_W_begin_5 rfl rfl ?_
  refine r_iconst (v := (0 : Int32)) i_W_begin_6 rfl ?_
  refine r_putf (ci := 4) (T := Fk4) (k := 2) o_W_begin i_W_begin_7 x_W_19 rfl (by decide) rfl rfl (ok4 2 (by decide)) rfl (by repeat (first | assumption | exact upw_s | refine (upw_n (by omega)).trans ?_)) (by first | assumption | omega) (by exact Nat.le_of_ble_eq_true rfl) ?_
  refine r_return i_W_begin_10 t_W_begin ?_
  exact ⟨rfl, ⟨⟨(by repeat (first | assumption | exact upw_s | refine (upw_n (by omega)).trans ?_)), (by repeat (first | assumption | exact upw_s | refine (upw_n (by omega)).trans ?_)), hn⟩, fun k hk => (by (repeat (refine (upw_n (by omega)).trans ?_)); rfl)⟩, rfl⟩
theorem c_W_isBarred {b : Nat} (hX : WW w k X n) (hT : TW w t S n) (hb : b < 7) : Fn G 2 y_W_isBarred [.ref k, .ref t, .int (nI b)] w n (some (.int (bI (barN S X b)))) w := by
  have hT0 := hT
  obtain ⟨e0, e1, e2, e3, e4, e5, e6, e7, e8, hm⟩ := hT
  obtain ⟨g0, g1, hn⟩ := hX
  refine Fn.of k_W_isBarred l_W_isBarred rfl rfl ?_
  refine r_aload_n (i := 1) i_W_isBarred_0 rfl rfl ?_
  refine r_iload_n (i := 2) i_W_isBarred_1 rfl rfl ?_
  refine f_virtual o_W_isBarred k_T_barredBy v_T_barredBy x_W_87 i_W_isBarred_2 o_T_barredBy (c_T_barredBy hT0 hb) rfl (rcv_ob (by repeat (first | assumption | exact upw_s | refine (upw_n (by omega)).trans ?_)) rfl (by first | assumption | omega)) rfl (by decide) (Nat.le_of_ble_eq_true rfl) ?_
  refine r_aload_n (i := 0) i_W_isBarred_5 rfl rfl ?_
  refine r_getf (ci := 4) (T := Fk4) (k := 1) o_W_isBarred i_W_isBarred_6 x_W_15 rfl (by decide) rfl (by repeat (first | assumption | exact upw_s | refine (upw_n (by omega)).trans ?_)) (by first | assumption | omega) (by rfl) ?_
  refine r_iand i_W_isBarred_9 ?_
  refine r_if_eq 17 i_W_isBarred_10 (by decide) (fun h10 => ?_) (fun h10 => ?_)
  · skip
    refine r_iconst (v := (0 : Int32)) i_W_isBarred_17 rfl ?_
    refine r_ireturn i_W_isBarred_18 t_W_isBarred (by first | rfl | exact nar_bI _) ?_
    exact ⟨by simp [bI, barN, h10], rfl, rfl⟩
  · skip
    refine r_iconst (v := (1 : Int32)) i_W_isBarred_13 rfl ?_
    refine r_goto 18 i_W_isBarred_14 (by decide) ?_
    refine r_ireturn i_W_isBarred_18 t_W_isBarred (by first | rfl | exact nar_bI _) ?_
    exact ⟨by simp [bI, barN, h10], rfl, rfl⟩
theorem c_W_take {b : Nat} {c : Int32} (hX : WW w k X n) (hb : b < 7) : Wm G 1 y_W_take [.ref k, .int (nI b), .int c] w n none k (takeW X b c) := by
  obtain ⟨g0, g1, hn⟩ := hX
  refine Wm.of k_W_take l_W_take rfl rfl ?_
  unfold takeW
  refine r_iload_n (i := 2) i_W_take_0 rfl rfl ?_
  refine r_iconst (v := (-1 : Int32)) i_W_take_1 rfl ?_
  refine r_icmp_eq 38 i_W_take_2 (by decide) (fun h2 => ?_) (fun h2 => ?_)
  · skip
    rw [if_pos h2]
    refine r_return i_W_take_38 t_W_take ?_
    first | exact ⟨rfl, ⟨⟨g0, g1, hn⟩, fun _ _ => rfl⟩, rfl⟩ | exact ⟨rfl, ⟨⟨(by repeat (first | assumption | exact upw_s | refine (upw_n (by omega)).trans ?_)), (by repeat (first | assumption | exact upw_s | refine (upw_n (by omega)).trans ?_)), hn⟩, fun k hk => (by (repeat (refine (upw_n (by omega)).trans ?_)); rfl)⟩, rfl⟩
  · skip
    rw [if_neg h2]
    refine r_aload_n (i := 0) i_W_take_5 rfl rfl ?_
    refine r_getf (ci := 4) (T := Fk4) (k := 0) o_W_take i_W_take_6 x_W_9 rfl (by decide) rfl (by repeat (first | assumption | exact upw_s | refine (upw_n (by omega)).trans ?_)) (by first | assumption | omega) (by rfl) ?_
    refine r_iload_n (i := 1) i_W_take_9 rfl rfl ?_
    refine r_iload_n (i := 2) i_W_take_10 rfl rfl ?_
    refine f_staticN o_W_take k_N_put s_N_put x_W_90 i_W_take_11 (c_N_put (by repeat (first | assumption | exact upw_s | refine (upw_n (by omega)).trans ?_)) (by omega) (by decide)) rfl rfl (by decide) (Nat.le_of_ble_eq_true rfl) ?_
    rw [puI_in hb (by decide)]
    refine r_aload_n (i := 0) i_W_take_14 rfl rfl ?_
    refine r_dup i_W_take_15 rfl ?_
    refine r_getf (ci := 4) (T := Fk4) (k := 1) o_W_take i_W_take_16 x_W_15 rfl (by decide) rfl (by repeat (first | assumption | exact upw_s | refine (upw_n (by omega)).trans ?_)) (by first | assumption | omega) (by rfl) ?_
    refine r_iconst (v := (1 : Int32)) i_W_take_19 rfl ?_
    refine r_iload_n (i := 1) i_W_take_20 rfl rfl ?_
    refine r_ishl i_W_take_21 ?_
    refine r_ior i_W_take_22 ?_
    refine r_putf (ci := 4) (T := Fk4) (k := 1) o_W_take i_W_take_23 x_W_15 rfl (by decide) rfl rfl (ok4 1 (by decide)) rfl (by repeat (first | assumption | exact upw_s | refine (upw_n (by omega)).trans ?_)) (by first | assumption | omega) (by exact Nat.le_of_ble_eq_true rfl) ?_
    refine r_aload_n (i := 0) i_W_take_26 rfl rfl ?_
    refine r_dup i_W_take_27 rfl ?_
    refine r_getf (ci := 4) (T := Fk4) (k := 2) o_W_take i_W_take_28 x_W_19 rfl (by decide) rfl (by repeat (first | assumption | exact upw_s | refine (upw_n (by omega)).trans ?_)) (by first | assumption | omega) (by rfl) ?_
    refine r_iconst (v := (1 : Int32)) i_W_take_31 rfl ?_
    refine r_iload_n (i := 2) i_W_take_32 rfl rfl ?_
    refine r_ishl i_W_take_33 ?_
    refine r_ior i_W_take_34 ?_
    refine r_putf (ci := 4) (T := Fk4) (k := 2) o_W_take i_W_take_35 x_W_19 rfl (by decide) rfl rfl (ok4 2 (by decide)) rfl (by repeat (first | assumption | exact upw_s | refine (upw_n (by omega)).trans ?_)) (by first | assumption | omega) (by exact Nat.le_of_ble_eq_true rfl) ?_
    refine r_return i_W_take_38 t_W_take ?_
    first | exact ⟨rfl, ⟨⟨g0, g1, hn⟩, fun _ _ => rfl⟩, rfl⟩ | exact ⟨rfl, ⟨⟨(by repeat (first | assumption | exact upw_s | refine (upw_n (by omega)).trans ?_)), (by repeat (first | assumption | exact upw_s | refine (upw_n (by omega)).trans ?_)), hn⟩, fun k hk => (by (repeat (refine (upw_n (by omega)).trans ?_)); rfl)⟩, rfl⟩
def sumV (S : aS) (X : aK) : Nat → Int32
  | 0 => 0
  | b + 1 => if hbI X.1 (nI b) then sumV S X b + valN S b (X.2.2 b).toNatClampNeg else sumV S X b
def WOk (X : aK) (P : Nat) : Prop := ∀ b, b < 7 → hbI X.1 (nI b) = true → ∃ c, c < P ∧ X.2.2 b = nI c
theorem c_W_sumOfValues {P B : Nat} (hX : WW w k X n) (hT : TW w t S n) (hB : S.1 1 = nI B) (hB7 : B ≤ 7) (hP7 : P ≤ 7) (hok : WOk X P) : Fn G 3 y_W_sumOfValues [.ref k, .ref t] w n (some (.int (sumV S X B))) w := by
  have hT0 := hT
  obtain ⟨e0, e1, e2, e3, e4, e5, e6, e7, e8, hm⟩ := hT
  obtain ⟨g0, g1, hn⟩ := hX
  refine Fn.of k_W_sumOfValues l_W_sumOfValues rfl rfl ?_
  have hloop : ∀ m i : Nat, i + m = B → Go G 3 y_W_sumOfValues 4 [some (.ref k), some (.ref t), some (.int (sumV S X i)), some (.int (nI i))] [] w n 0 0 (fun r1 w1 n1 => r1 = some (.int (sumV S X B)) ∧ w1 = w ∧ n1 = n) := by
    intro m
    induction m with
    | zero =>
      intro i hi
      have hi : i = B := by omega
      subst hi
      refine r_iload_n (i := 3) i_W_sumOfValues_4 rfl rfl ?_
      refine r_aload_n (i := 1) i_W_sumOfValues_5 rfl rfl ?_
      refine r_getfN (ci := 1) (T := Fk1) (k := 1) o_W_sumOfValues i_W_sumOfValues_6 x_W_25 rfl (by decide) rfl (by repeat (first | assumption | exact upw_s | refine (upw_n (by omega)).trans ?_)) (by first | assumption | omega) (by rfl) ?_
      refine r_icmp_ge 45 i_W_sumOfValues_9 (by decide) (fun h9 => ?_) (fun h9 => (absurd (by rw [hB]; exact Int32.le_refl _) h9))
      refine r_iload_n (i := 2) i_W_sumOfValues_45 rfl rfl ?_
      refine r_ireturn i_W_sumOfValues_46 t_W_sumOfValues rfl ?_
      exact ⟨rfl, rfl, rfl⟩
    | succ m ih =>
      intro i hi
      refine r_iload_n (i := 3) i_W_sumOfValues_4 rfl rfl ?_
      refine r_aload_n (i := 1) i_W_sumOfValues_5 rfl rfl ?_
      refine r_getfN (ci := 1) (T := Fk1) (k := 1) o_W_sumOfValues i_W_sumOfValues_6 x_W_25 rfl (by decide) rfl (by repeat (first | assumption | exact upw_s | refine (upw_n (by omega)).trans ?_)) (by first | assumption | omega) (by rfl) ?_
      refine r_icmp_ge 45 i_W_sumOfValues_9 (by decide) (fun h9 => (absurd (hB ▸ h9) (nI_ge (by omega) (by omega)))) (fun h9 => ?_)
      refine r_aload_n (i := 0) i_W_sumOfValues_12 rfl rfl ?_
      refine r_getf (ci := 4) (T := Fk4) (k := 1) o_W_sumOfValues i_W_sumOfValues_13 x_W_15 rfl (by decide) rfl (by repeat (first | assumption | exact upw_s | refine (upw_n (by omega)).trans ?_)) (by first | assumption | omega) (by rfl) ?_
      refine r_iload_n (i := 3) i_W_sumOfValues_16 rfl rfl ?_
      refine f_staticN o_W_sumOfValues k_N_hasBit s_N_hasBit x_W_47 i_W_sumOfValues_17 (c_N_hasBit) rfl rfl (by decide) (Nat.le_of_ble_eq_true rfl) ?_
      refine r_if_eq 39 i_W_sumOfValues_20 (by decide) (fun h20 => ?_) (fun h20 => ?_)
      · skip
        have h20 := bI_eq0.mp h20
        refine r_iinc_3 (v := (1 : Int32)) i_W_sumOfValues_39 rfl (by rw [l_W_sumOfValues]; decide) rfl ?_
        refine r_goto 4 i_W_sumOfValues_42 (by decide) ?_
        rw [nI_1]
        refine Eq.mp ?_ (ih (i + 1) (by omega))
        simp [sumV, *]
      · skip
        have h20 := bI_ne0.mp h20
        obtain ⟨c, hc, ec⟩ := hok i (by omega) h20
        have hcl : (nI c).toNatClampNeg = c := nI_clamp (by omega)
        refine r_iload_n (i := 2) i_W_sumOfValues_23 rfl rfl ?_
        refine r_aload_n (i := 1) i_W_sumOfValues_24 rfl rfl ?_
        refine r_iload_n (i := 3) i_W_sumOfValues_25 rfl rfl ?_
        refine r_aload_n (i := 0) i_W_sumOfValues_26 rfl rfl ?_
        refine r_getf (ci := 4) (T := Fk4) (k := 0) o_W_sumOfValues i_W_sumOfValues_27 x_W_9 rfl (by decide) rfl (by repeat (first | assumption | exact upw_s | refine (upw_n (by omega)).trans ?_)) (by first | assumption | omega) (by rfl) ?_
        refine r_iload_n (i := 3) i_W_sumOfValues_30 rfl rfl ?_
        refine f_staticN o_W_sumOfValues k_N_at s_N_at x_W_77 i_W_sumOfValues_31 (c_N_at (by repeat (first | assumption | exact upw_s | refine (upw_n (by omega)).trans ?_)) (by omega) (by decide)) rfl rfl (by decide) (Nat.le_of_ble_eq_true rfl) ?_
        rw [atI_in (by omega) (by decide), ec]
        refine f_virtual o_W_sumOfValues k_T_valueBy v_T_valueBy x_W_94 i_W_sumOfValues_34 o_T_valueBy (c_T_valueBy (i := c) hT0 (by omega) (by omega)) rfl (rcv_ob (by repeat (first | assumption | exact upw_s | refine (upw_n (by omega)).trans ?_)) rfl (by first | assumption | omega)) rfl (by decide) (Nat.le_of_ble_eq_true rfl) ?_
        refine r_iadd i_W_sumOfValues_37 ?_
        refine r_istore_2 i_W_sumOfValues_38 (by rw [l_W_sumOfValues]; decide) rfl ?_
        refine r_iinc_3 (v := (1 : Int32)) i_W_sumOfValues_39 rfl (by rw [l_W_sumOfValues]; decide) rfl ?_
        refine r_goto 4 i_W_sumOfValues_42 (by decide) ?_
        rw [nI_1]
        refine Eq.mp ?_ (ih (i + 1) (by omega))
        simp [sumV, *]
  refine r_iconst (v := (0 : Int32)) i_W_sumOfValues_0 rfl ?_
  refine r_istore_2 i_W_sumOfValues_1 (by rw [l_W_sumOfValues]; decide) rfl ?_
  refine r_iconst (v := (0 : Int32)) i_W_sumOfValues_2 rfl ?_
  refine r_istore_3 i_W_sumOfValues_3 (by rw [l_W_sumOfValues]; decide) rfl ?_
  exact hloop B 0 (by omega)
def tellN (S : aS) (X : aK) (B : Nat) (q : Int32) : Int32 := if q = 1 then bcount X.1 else if q = 0 then sumV S X B else X.2.1
theorem c_W_tell {P B : Nat} {q : Int32} (hX : WW w k X n) (hT : TW w t S n) (hB : S.1 1 = nI B) (hB7 : B ≤ 7) (hP7 : P ≤ 7) (hok : WOk X P) : Fn G 4 y_W_tell [.ref k, .ref t, .int q] w n (some (.int (tellN S X B q))) w := by
  have hT0 := hT
  have hX0 := hX
  obtain ⟨e0, e1, e2, e3, e4, e5, e6, e7, e8, hm⟩ := hT
  obtain ⟨g0, g1, hn⟩ := hX
  refine Fn.of k_W_tell l_W_tell rfl rfl ?_
  refine r_iload_n (i := 2) i_W_tell_0 rfl rfl ?_
  refine r_iconst (v := (1 : Int32)) i_W_tell_1 rfl ?_
  refine r_icmp_ne 13 i_W_tell_2 (by decide) (fun h2 => ?_) (fun h2 => ?_)
  · skip
    refine r_iload_n (i := 2) i_W_tell_13 rfl rfl ?_
    refine r_if_ne 25 i_W_tell_14 (by decide) (fun h14 => ?_) (fun h14 => ?_)
    · skip
      refine r_aload_n (i := 0) i_W_tell_25 rfl rfl ?_
      refine r_getf (ci := 4) (T := Fk4) (k := 2) o_W_tell i_W_tell_26 x_W_19 rfl (by decide) rfl (by repeat (first | assumption | exact upw_s | refine (upw_n (by omega)).trans ?_)) (by first | assumption | omega) (by rfl) ?_
      refine r_ireturn i_W_tell_29 t_W_tell rfl ?_
      exact ⟨by simp [tellN, *], rfl, rfl⟩
    · skip
      refine r_aload_n (i := 0) i_W_tell_17 rfl rfl ?_
      refine r_aload_n (i := 1) i_W_tell_18 rfl rfl ?_
      refine f_virtual o_W_tell k_W_sumOfValues v_W_sumOfValues x_W_73 i_W_tell_19 o_W_sumOfValues (c_W_sumOfValues hX0 hT0 hB hB7 hP7 hok) rfl (rcv_ob (by repeat (first | assumption | exact upw_s | refine (upw_n (by omega)).trans ?_)) rfl (by first | assumption | omega)) rfl (by decide) (Nat.le_of_ble_eq_true rfl) ?_
      refine r_goto 29 i_W_tell_22 (by decide) ?_
      refine r_ireturn i_W_tell_29 t_W_tell rfl ?_
      exact ⟨by simp [tellN, *], rfl, rfl⟩
  · skip
    refine r_aload_n (i := 0) i_W_tell_5 rfl rfl ?_
    refine r_getf (ci := 4) (T := Fk4) (k := 1) o_W_tell i_W_tell_6 x_W_15 rfl (by decide) rfl (by repeat (first | assumption | exact upw_s | refine (upw_n (by omega)).trans ?_)) (by first | assumption | omega) (by rfl) ?_
    refine f_static o_W_tell k_JI_bitCount s_JI_bitCount x_W_61 i_W_tell_9 (c_JI_bitCount) rfl rfl (by decide) (Nat.le_of_ble_eq_true rfl) ?_
    refine r_ireturn i_W_tell_12 t_W_tell rfl ?_
    exact ⟨by simp [tellN, *], rfl, rfl⟩
end WEEK
