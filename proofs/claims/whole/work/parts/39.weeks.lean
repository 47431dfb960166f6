-- WEEK: how it is filled
section FILL
variable {G : gE} {w : aW} {n k t : Nat} {X : aK} {S : aS}
def bopF (x pl : Int32) : Nat → Nat → Int32 → Int32
  | 0, _, _ => -1
  | m + 1, t, ah => if hbI x (nI t) then (if ah = pl then nI t else bopF x pl m (t + 1) (ah + 1)) else bopF x pl m (t + 1) ah
theorem c_W_bitOfPlace {x pl : Int32} : Fn G 2 y_W_bitOfPlace [.int x, .int pl] w n (some (.int (bopF x pl 7 0 0))) w := by
  refine Fn.of k_W_bitOfPlace l_W_bitOfPlace rfl rfl ?_
  have hloop : ∀ m i : Nat, i + m = 7 → ∀ ah : Int32, Go G 2 y_W_bitOfPlace 4 [some (.int x), some (.int pl), some (.int ah), some (.int (nI i))] [] w n 0 0 (fun r1 w1 n1 => r1 = some (.int (bopF x pl m i ah)) ∧ w1 = w ∧ n1 = n) := by
    intro m
    induction m with
    | zero =>
      intro i hi ah
      have hi : i = 7 := by omega
      subst hi
      refine r_iload_n (i := 3) i_W_bitOfPlace_4 rfl rfl ?_
      refine r_bipush (v := (7 : Int32)) i_W_bitOfPlace_5 (by decide) ?_
      refine r_icmp_ge 34 i_W_bitOfPlace_7 (by decide) (fun h7 => ?_) (fun h7 => (absurd (Int32.le_refl _) h7))
      refine r_iconst (v := (-1 : Int32)) i_W_bitOfPlace_34 rfl ?_
      refine r_ireturn i_W_bitOfPlace_35 t_W_bitOfPlace rfl ?_
      exact ⟨rfl, rfl, rfl⟩
    | succ m ih =>
      intro i hi ah
      refine r_iload_n (i := 3) i_W_bitOfPlace_4 rfl rfl ?_
      refine r_bipush (v := (7 : Int32)) i_W_bitOfPlace_5 (by decide) ?_
      refine r_icmp_ge 34 i_W_bitOfPlace_7 (by decide) (fun h7 => (absurd h7 (nI_ge (b := 7) (by omega) (by decide)))) (fun h7 => ?_)
      refine r_iload_n (i := 0) i_W_bitOfPlace_10 rfl rfl ?_
      refine r_iload_n (i := 3) i_W_bitOfPlace_11 rfl rfl ?_
      refine f_staticN o_W_bitOfPlace k_N_hasBit s_N_hasBit x_W_47 i_W_bitOfPlace_12 (c_N_hasBit) rfl rfl (by decide) (Nat.le_of_ble_eq_true rfl) ?_
      refine r_if_eq 28 i_W_bitOfPlace_15 (by decide) (fun h15 => ?_) (fun h15 => ?_)
      · skip
        have h15 := bI_eq0.mp h15
        refine r_iinc_3 (v := (1 : Int32)) i_W_bitOfPlace_28 rfl (by rw [l_W_bitOfPlace]; decide) rfl ?_
        refine r_goto 4 i_W_bitOfPlace_31 (by decide) ?_
        rw [nI_1]
        rw [show bopF x pl (m + 1) i ah = (if hbI x (nI i) then (if ah = pl then nI i else bopF x pl m (i + 1) (ah + 1)) else bopF x pl m (i + 1) ah) from rfl, h15]
        first | exact ih (i + 1) (by omega) ah | (rw [if_pos rfl, if_neg h20]; exact ih (i + 1) (by omega) (ah + 1))
      · skip
        have h15 := bI_ne0.mp h15
        refine r_iload_n (i := 2) i_W_bitOfPlace_18 rfl rfl ?_
        refine r_iload_n (i := 1) i_W_bitOfPlace_19 rfl rfl ?_
        refine r_icmp_ne 25 i_W_bitOfPlace_20 (by decide) (fun h20 => ?_) (fun h20 => ?_)
        · skip
          refine r_iinc_2 (v := (1 : Int32)) i_W_bitOfPlace_25 rfl (by rw [l_W_bitOfPlace]; decide) rfl ?_
          refine r_iinc_3 (v := (1 : Int32)) i_W_bitOfPlace_28 rfl (by rw [l_W_bitOfPlace]; decide) rfl ?_
          refine r_goto 4 i_W_bitOfPlace_31 (by decide) ?_
          rw [nI_1]
          rw [show bopF x pl (m + 1) i ah = (if hbI x (nI i) then (if ah = pl then nI i else bopF x pl m (i + 1) (ah + 1)) else bopF x pl m (i + 1) ah) from rfl, h15]
          first | exact ih (i + 1) (by omega) ah | (rw [if_pos rfl, if_neg h20]; exact ih (i + 1) (by omega) (ah + 1))
        · skip
          refine r_iload_n (i := 3) i_W_bitOfPlace_23 rfl rfl ?_
          refine r_ireturn i_W_bitOfPlace_24 t_W_bitOfPlace rfl ?_
          exact ⟨by simp [bopF, *], rfl, rfl⟩
  refine r_iconst (v := (0 : Int32)) i_W_bitOfPlace_0 rfl ?_
  refine r_istore_2 i_W_bitOfPlace_1 (by rw [l_W_bitOfPlace]; decide) rfl ?_
  refine r_iconst (v := (0 : Int32)) i_W_bitOfPlace_2 rfl ?_
  refine r_istore_3 i_W_bitOfPlace_3 (by rw [l_W_bitOfPlace]; decide) rfl ?_
  exact hloop 7 0 (by omega) 0
def fbr (S : aS) (P kd : Nat) (a : Int32) (X : aK) : Nat → aK
  | 0 => (0, 0, X.2.2)
  | b + 1 => if barN S (fbr S P kd a X b) b then fbr S P kd a X b else takeW (fbr S P kd a X b) b (thirdN S P kd a b (mayB S b P (fbr S P kd a X b).2.1))
theorem takeW_ok {P : Nat} {X : aK} {b : Nat} {c : Int32} (hb : b < 7) (hP : P ≤ 7) (h : WOk X P) (hc : c = -1 ∨ ∃ i, i < P ∧ c = nI i) : WOk (takeW X b c) P := by
  unfold takeW
  rcases hc with rfl | ⟨i, hi, rfl⟩
  · rw [if_pos rfl]; exact h
  · rw [if_neg (nI_nem1 (by omega))]
    intro q hq hh
    by_cases e : q = b
    · subst e
      exact ⟨i, hi, if_pos rfl⟩
    · have hh2 : hbI (X.1 ||| b1 b) (nI q) = true := hh
      rw [hb_bt (by omega), b_or, b1_bt (by omega) (by omega), decide_eq_false e, Bool.or_false, ← hb_bt (by omega)] at hh2
      obtain ⟨c, h1, h2⟩ := h q hq hh2
      exact ⟨c, h1, (if_neg e).trans h2⟩
theorem WOk_0 {P : Nat} {f : Nat → Int32} : WOk (0, 0, f) P := by
  intro q hq hh
  have hh2 : hbI 0 (nI q) = true := hh
  rw [hb_bt (by omega), b_0] at hh2
  cases hh2
theorem fbr_ok {P kd : Nat} {a : Int32} (hP : P ≤ 7) : ∀ B, B ≤ 7 → WOk (fbr S P kd a X B) P
  | 0, _ => WOk_0
  | b + 1, hb => by
    unfold fbr
    split
    · exact fbr_ok hP b (by omega)
    · refine takeW_ok (by omega) hP (fbr_ok hP b (by omega)) ?_
      rcases third_in (S := S) (P := P) (kd := kd) (b := b) (a := a) (x := (fbr S P kd a X b).2.1) hP with h | ⟨i, h1, h2, -⟩
      · exact Or.inl h
      · exact Or.inr ⟨i, h1, h2⟩
theorem c_W_fillByRule {P B kd : Nat} {a : Int32} (hX : WW w k X n) (hT : TW w t S n) (hd : k + 1 < t ∨ t + 8 < k) (hP : S.1 0 = nI P) (hP7 : P ≤ 7) (hB : S.1 1 = nI B) (hB7 : B ≤ 7) (h1 : 1 ≤ kd) (h6 : kd ≤ 6) : Wm G 5 y_W_fillByRule [.ref k, .ref t, .int (nI kd), .int a] w n none k (fbr S P kd a X B) := by
  have hloop : ∀ m i : Nat, i + m = B → ∀ w1 : aW, WW w1 k (fbr S P kd a X i) n → (∀ j, (j < k ∨ k + 1 < j) → w1 j = w j) → Go G 5 y_W_fillByRule 7 [some (.ref k), some (.ref t), some (.int (nI kd)), some (.int a), some (.int (nI i))] [] w1 n 0 0 (fun r1 w2 n1 => r1 = none ∧ WU w w2 k (fbr S P kd a X B) n ∧ n1 = n) := by
    intro m
    induction m with
    | zero =>
      intro i hi w1 hX1 hF1
      have hi : i = B := by omega
      subst hi
      have hT1 : TW w1 t S n := hT.fr (fun j q1 q2 => hF1 j (by omega))
      obtain ⟨e0, e1, e2, e3, e4, e5, e6, e7, e8, hm⟩ := hT1
      refine r_iload (i := 4) i_W_fillByRule_7 rfl ?_
      refine r_aload_n (i := 1) i_W_fillByRule_9 rfl rfl ?_
      refine r_getfN (ci := 1) (T := Fk1) (k := 1) o_W_fillByRule i_W_fillByRule_10 x_W_25 rfl (by decide) rfl (by repeat (first | assumption | exact upw_s | refine (upw_n (by omega)).trans ?_)) (by first | assumption | omega) (by rfl) ?_
      refine r_icmp_ge 56 i_W_fillByRule_13 (by decide) (fun h13 => ?_) (fun h13 => (absurd (by rw [hB]; exact Int32.le_refl _) h13))
      refine r_return i_W_fillByRule_56 t_W_fillByRule ?_
      exact ⟨rfl, ⟨hX1, hF1⟩, rfl⟩
    | succ m ih =>
      intro i hi w1 hX1 hF1
      have hT1 : TW w1 t S n := hT.fr (fun j q1 q2 => hF1 j (by omega))
      have hT0 := hT1
      obtain ⟨e0, e1, e2, e3, e4, e5, e6, e7, e8, hm⟩ := hT1
      have hX0 := hX1
      obtain ⟨g0, g1, hn⟩ := hX1
      refine r_iload (i := 4) i_W_fillByRule_7 rfl ?_
      refine r_aload_n (i := 1) i_W_fillByRule_9 rfl rfl ?_
      refine r_getfN (ci := 1) (T := Fk1) (k := 1) o_W_fillByRule i_W_fillByRule_10 x_W_25 rfl (by decide) rfl (by repeat (first | assumption | exact upw_s | refine (upw_n (by omega)).trans ?_)) (by first | assumption | omega) (by rfl) ?_
      refine r_icmp_ge 56 i_W_fillByRule_13 (by decide) (fun h13 => (absurd (hB ▸ h13) (nI_ge (by omega) (by omega)))) (fun h13 => ?_)
      refine r_aload_n (i := 0) i_W_fillByRule_16 rfl rfl ?_
      refine r_aload_n (i := 1) i_W_fillByRule_17 rfl rfl ?_
      refine r_iload (i := 4) i_W_fillByRule_18 rfl ?_
      refine f_virtual o_W_fillByRule k_W_isBarred v_W_isBarred x_W_39 i_W_fillByRule_20 o_W_isBarred (c_W_isBarred hX0 hT0 (by omega)) rfl (rcv_ob (by repeat (first | assumption | exact upw_s | refine (upw_n (by omega)).trans ?_)) rfl (by first | assumption | omega)) rfl (by decide) (Nat.le_of_ble_eq_true rfl) ?_
      refine r_if_ne 50 i_W_fillByRule_23 (by decide) (fun h23 => ?_) (fun h23 => ?_)
      · skip
        have h23 := bI_ne0.mp h23
        refine r_iinc_4 (v := (1 : Int32)) i_W_fillByRule_50 rfl (by rw [l_W_fillByRule]; decide) rfl ?_
        refine r_goto 7 i_W_fillByRule_53 (by decide) ?_
        rw [nI_1]
        have e9 : fbr S P kd a X (i + 1) = if barN S (fbr S P kd a X i) i then fbr S P kd a X i else takeW (fbr S P kd a X i) i (thirdN S P kd a i (mayB S i P (fbr S P kd a X i).2.1)) := rfl
        rw [h23] at e9
        first | exact ih (i + 1) (by omega) w1 (by rw [e9, if_pos rfl]; exact hX0) hF1 | exact ih (i + 1) (by omega) w2 (by rw [e9, if_neg (by decide)]; exact hX2) (fun j hj => (hF2 j hj).trans (hF1 j hj))
      · skip
        have h23 := bI_eq0.mp h23
        refine r_aload_n (i := 0) i_W_fillByRule_26 rfl rfl ?_
        refine r_iload (i := 4) i_W_fillByRule_27 rfl ?_
        refine r_aload_n (i := 1) i_W_fillByRule_29 rfl rfl ?_
        refine r_iload_n (i := 2) i_W_fillByRule_30 rfl rfl ?_
        refine r_iload_n (i := 3) i_W_fillByRule_31 rfl rfl ?_
        refine r_iload (i := 4) i_W_fillByRule_32 rfl ?_
        refine r_aload_n (i := 1) i_W_fillByRule_34 rfl rfl ?_
        refine r_iload (i := 4) i_W_fillByRule_35 rfl ?_
        refine r_aload_n (i := 0) i_W_fillByRule_37 rfl rfl ?_
        refine r_getf (ci := 4) (T := Fk4) (k := 2) o_W_fillByRule i_W_fillByRule_38 x_W_19 rfl (by decide) rfl (by repeat (first | assumption | exact upw_s | refine (upw_n (by omega)).trans ?_)) (by first | assumption | omega) (by rfl) ?_
        refine f_virtual o_W_fillByRule k_T_mayBits v_T_mayBits x_W_43 i_W_fillByRule_41 o_T_mayBits (c_T_mayBits hT0 (by omega) hP hP7) rfl (rcv_ob (by repeat (first | assumption | exact upw_s | refine (upw_n (by omega)).trans ?_)) rfl (by first | assumption | omega)) rfl (by decide) (Nat.le_of_ble_eq_true rfl) ?_
        refine f_static o_W_fillByRule k_U_thirdFor s_U_thirdFor x_W_55 i_W_fillByRule_44 (c_U_thirdFor hT0 (by omega) hP hP7 h1 h6) rfl rfl (by decide) (Nat.le_of_ble_eq_true rfl) ?_
        refine m_virtual o_W_fillByRule k_W_take v_W_take x_W_51 i_W_fillByRule_47 o_W_take (c_W_take hX0 (by omega)) rfl (rcv_ob (by repeat (first | assumption | exact upw_s | refine (upw_n (by omega)).trans ?_)) rfl (by first | assumption | omega)) rfl (by decide) (Nat.le_of_ble_eq_true rfl) (Nat.zero_le _) (Nat.zero_le _) (fun r1 w2 n1 hp => ?_)
        obtain ⟨rfl, ⟨hX2, hF2⟩, rfl⟩ := hp
        refine r_iinc_4 (v := (1 : Int32)) i_W_fillByRule_50 rfl (by rw [l_W_fillByRule]; decide) rfl ?_
        refine r_goto 7 i_W_fillByRule_53 (by decide) ?_
        rw [nI_1]
        have e9 : fbr S P kd a X (i + 1) = if barN S (fbr S P kd a X i) i then fbr S P kd a X i else takeW (fbr S P kd a X i) i (thirdN S P kd a i (mayB S i P (fbr S P kd a X i).2.1)) := rfl
        rw [h23] at e9
        first | exact ih (i + 1) (by omega) w1 (by rw [e9, if_pos rfl]; exact hX0) hF1 | exact ih (i + 1) (by omega) w2 (by rw [e9, if_neg (by decide)]; exact hX2) (fun j hj => (hF2 j hj).trans (hF1 j hj))
  have hX0 := hX
  obtain ⟨g0, g1, hn⟩ := hX
  refine Wm.of k_W_fillByRule l_W_fillByRule rfl rfl ?_
  refine r_aload_n (i := 0) i_W_fillByRule_0 rfl rfl ?_
  refine m_virtual o_W_fillByRule k_W_begin v_W_begin x_W_22 i_W_fillByRule_1 o_W_begin (c_W_begin hX0) rfl (rcv_ob (by repeat (first | assumption | exact upw_s | refine (upw_n (by omega)).trans ?_)) rfl (by first | assumption | omega)) rfl (by decide) (Nat.le_of_ble_eq_true rfl) (Nat.zero_le _) (Nat.zero_le _) (fun r1 w2 n1 hp => ?_)
  obtain ⟨rfl, ⟨hX2, hF2⟩, rfl⟩ := hp
  refine r_iconst (v := (0 : Int32)) i_W_fillByRule_4 rfl ?_
  refine r_istore_4 i_W_fillByRule_5 (by rw [l_W_fillByRule]; decide) rfl ?_
  exact hloop B 0 (by omega) w2 hX2 hF2
def ftold (S : aS) (P : Nat) (row : Nat → Int64) (X : aK) : Nat → aK × Int32
  | 0 => ((0, 0, X.2.2), -1)
  | b + 1 => if (ftold S P row X b).2 = -1 then (if 0 ≤ row b ∧ row b < (nI P).toInt64 then (if barN S (ftold S P row X b).1 b || !hbI (mayB S b P (ftold S P row X b).1.2.1) (row b).toInt32 then ((ftold S P row X b).1, nI b) else (takeW (ftold S P row X b).1 b (row b).toInt32, -1)) else ftold S P row X b) else ftold S P row X b
theorem ftold_ok {P : Nat} {row : Nat → Int64} (hP : P ≤ 7) : ∀ B, B ≤ 7 → WOk (ftold S P row X B).1 P
  | 0, _ => WOk_0
  | b + 1, hb => by
    have ih := ftold_ok (row := row) hP b (by omega)
    unfold ftold
    split
    · split
      · split
        · exact ih
        · rename_i h9
          simp only [Bool.or_eq_true, Bool.not_eq_true', not_or, Bool.not_eq_false] at h9
          obtain ⟨i, h1, h2, -⟩ := may_in hP h9.2
          exact takeW_ok (by omega) hP ih (Or.inr ⟨i, h1, h2⟩)
      · exact ih
    · exact ih
theorem ftold_stop {P : Nat} {row : Nat → Int64} {b : Nat} (h : ¬ (ftold S P row X b).2 = -1) : ∀ m, ftold S P row X (b + m) = ftold S P row X b
  | 0 => rfl
  | m + 1 => by
    have ih := ftold_stop h m
    have h2 : ¬ (ftold S P row X (b + m)).2 = -1 := by rw [ih]; exact h
    have e : ftold S P row X (b + m + 1) = ftold S P row X (b + m) := if_neg h2
    exact e.trans ih
theorem c_W_fillTold {P B s m : Nat} {h : Nat} {Y : aH} (hX : WW w k X n) (hT : TW w t S n) (hd : k + 1 < t ∨ t + 8 < k) (hY : SW w h Y n) (hd2 : k + 1 < h ∨ h + 4 < k) (hs : s < 8) (hm : sizeI Y (nI s) = nI m) (hm4 : m ≤ 40) (hP : S.1 0 = nI P) (hP7 : P ≤ 7) (hB : S.1 1 = nI B) (hB7 : B ≤ 7) : Wm G 5 y_W_fillTold [.ref k, .ref t, .ref h, .int (nI s)] w n (some (.int (ftold S P (fun b => elemI Y s (nI b)) X B).2)) k (ftold S P (fun b => elemI Y s (nI b)) X B).1 := by
  have hloop : ∀ r i : Nat, i + r = B → (ftold S P (fun b => elemI Y s (nI b)) X i).2 = -1 → ∀ w1 : aW, WW w1 k (ftold S P (fun b => elemI Y s (nI b)) X i).1 n → (∀ j, (j < k ∨ k + 1 < j) → w1 j = w j) → Go G 5 y_W_fillTold 7 [some (.ref k), some (.ref t), some (.ref h), some (.int (nI s)), some (.int (nI i)), none, none] [] w1 n 0 0 (fun r1 w2 n1 => r1 = some (.int (ftold S P (fun b => elemI Y s (nI b)) X B).2) ∧ WU w w2 k (ftold S P (fun b => elemI Y s (nI b)) X B).1 n ∧ n1 = n) := by
    intro r
    induction r with
    | zero =>
      intro i hi hr w1 hX1 hF1
      have hi : i = B := by omega
      subst hi
      have hT1 : TW w1 t S n := hT.fr (fun j q1 q2 => hF1 j (by omega))
      obtain ⟨e0, e1, e2, e3, e4, e5, e6, e7, e8, hmm⟩ := hT1
      refine r_iload (i := 4) i_W_fillTold_7 rfl ?_
      refine r_aload_n (i := 1) i_W_fillTold_9 rfl rfl ?_
      refine r_getfN (ci := 1) (T := Fk1) (k := 1) o_W_fillTold i_W_fillTold_10 x_W_25 rfl (by decide) rfl (by repeat (first | assumption | exact upw_s | refine (upw_n (by omega)).trans ?_)) (by first | assumption | omega) (by rfl) ?_
      refine r_icmp_ge 90 i_W_fillTold_13 (by decide) (fun h13 => ?_) (fun h13 => (absurd (by rw [hB]; exact Int32.le_refl _) h13))
      refine r_iconst (v := (-1 : Int32)) i_W_fillTold_90 rfl ?_
      refine r_ireturn i_W_fillTold_91 t_W_fillTold rfl ?_
      exact ⟨by rw [hr], ⟨hX1, hF1⟩, rfl⟩
    | succ r ih =>
      intro i hi hr w1 hX1 hF1
      have hT1 : TW w1 t S n := hT.fr (fun j q1 q2 => hF1 j (by omega))
      have hY1 : SW w1 h Y n := hY.fr (fun j q1 q2 => hF1 j (by omega))
      have hY0 := hY1
      obtain ⟨y0, y1, y2, y3, y4, hyn⟩ := hY1
      have hT0 := hT1
      obtain ⟨e0, e1, e2, e3, e4, e5, e6, e7, e8, hmm⟩ := hT1
      have hX0 := hX1
      obtain ⟨g0, g1, hn⟩ := hX1
      have e9 : ftold S P (fun b => elemI Y s (nI b)) X (i + 1) = if (ftold S P (fun b => elemI Y s (nI b)) X i).2 = -1 then (if 0 ≤ elemI Y s (nI i) ∧ elemI Y s (nI i) < (nI P).toInt64 then (if barN S (ftold S P (fun b => elemI Y s (nI b)) X i).1 i || !hbI (mayB S i P (ftold S P (fun b => elemI Y s (nI b)) X i).1.2.1) (elemI Y s (nI i)).toInt32 then ((ftold S P (fun b => elemI Y s (nI b)) X i).1, nI i) else (takeW (ftold S P (fun b => elemI Y s (nI b)) X i).1 i (elemI Y s (nI i)).toInt32, -1)) else ftold S P (fun b => elemI Y s (nI b)) X i) else ftold S P (fun b => elemI Y s (nI b)) X i := rfl
      rw [if_pos hr] at e9
      refine r_iload (i := 4) i_W_fillTold_7 rfl ?_
      refine r_aload_n (i := 1) i_W_fillTold_9 rfl rfl ?_
      refine r_getfN (ci := 1) (T := Fk1) (k := 1) o_W_fillTold i_W_fillTold_10 x_W_25 rfl (by decide) rfl (by repeat (first | assumption | exact upw_s | refine (upw_n (by omega)).trans ?_)) (by first | assumption | omega) (by rfl) ?_
      refine r_icmp_ge 90 i_W_fillTold_13 (by decide) (fun h13 => (absurd (hB ▸ h13) (nI_ge (by omega) (by omega)))) (fun h13 => ?_)
      refine r_aload_n (i := 2) i_W_fillTold_16 rfl rfl ?_
      refine r_iload_n (i := 3) i_W_fillTold_17 rfl rfl ?_
      refine r_iload (i := 4) i_W_fillTold_18 rfl ?_
      refine f_virtual o_W_fillTold k_S_elementAt v_S_elementAt x_W_30 i_W_fillTold_20 o_S_elementAt (c_S_elementAt hY0 hs hm hm4) rfl (rcv_ob (by repeat (first | assumption | exact upw_s | refine (upw_n (by omega)).trans ?_)) rfl (by first | assumption | omega)) rfl (by decide) (Nat.le_of_ble_eq_true rfl) ?_
      generalize elemI Y s (nI i) = v at e9 ⊢
      refine r_lstore_5 i_W_fillTold_23 (by rw [l_W_fillTold]; decide) rfl ?_
      refine r_lload (i := 5) i_W_fillTold_25 rfl ?_
      refine r_lconst (v := (0 : Int64)) i_W_fillTold_27 rfl ?_
      refine r_lcmp i_W_fillTold_28 ?_
      refine r_if_lt 84 i_W_fillTold_29 (by decide) (fun h29 => ?_) (fun h29 => ?_)
      · skip
        have q29 : ¬ (0 ≤ v ∧ v < (nI P).toInt64) := fun q => absurd q.1 (Int64.not_le.mpr (lcmp_lt.mp h29))
        rw [if_neg q29] at e9
        refine r_iinc_4 (v := (1 : Int32)) i_W_fillTold_84 rfl (by rw [l_W_fillTold]; decide) rfl ?_
        refine r_goto 7 i_W_fillTold_87 (by decide) ?_
        rw [nI_1]
        refine r_fg_5 ?_
        first | exact ih (i + 1) (by omega) (by rw [e9]; exact hr) w1 (by rw [e9]; exact hX0) hF1 | exact ih (i + 1) (by omega) (by rw [e9]) w2 (by rw [e9]; exact hX2) (fun j hj => (hF2 j hj).trans (hF1 j hj))
      · skip
        have q29 : 0 ≤ v := Int64.not_lt.mp (fun q => h29 (lcmp_lt.mpr q))
        refine r_lload (i := 5) i_W_fillTold_32 rfl ?_
        refine r_aload_n (i := 1) i_W_fillTold_34 rfl rfl ?_
        refine r_getfN (ci := 1) (T := Fk1) (k := 0) o_W_fillTold i_W_fillTold_35 x_W_36 rfl (by decide) rfl (by repeat (first | assumption | exact upw_s | refine (upw_n (by omega)).trans ?_)) (by first | assumption | omega) (by rfl) ?_
        refine r_i2l i_W_fillTold_38 ?_
        refine r_lcmp i_W_fillTold_39 ?_
        refine r_if_ge 84 i_W_fillTold_40 (by decide) (fun h40 => ?_) (fun h40 => ?_)
        · skip
          have q40 : ¬ (0 ≤ v ∧ v < (nI P).toInt64) := fun q => absurd q.2 (Int64.not_lt.mpr (lcmp_ge.mp (hP ▸ h40)))
          rw [if_neg q40] at e9
          refine r_iinc_4 (v := (1 : Int32)) i_W_fillTold_84 rfl (by rw [l_W_fillTold]; decide) rfl ?_
          refine r_goto 7 i_W_fillTold_87 (by decide) ?_
          rw [nI_1]
          refine r_fg_5 ?_
          first | exact ih (i + 1) (by omega) (by rw [e9]; exact hr) w1 (by rw [e9]; exact hX0) hF1 | exact ih (i + 1) (by omega) (by rw [e9]) w2 (by rw [e9]; exact hX2) (fun j hj => (hF2 j hj).trans (hF1 j hj))
        · skip
          have q40 : v < (nI P).toInt64 := Int64.not_le.mp (fun q => h40 (lcmp_ge.mpr (hP.symm ▸ q)))
          rw [if_pos ⟨q29, q40⟩] at e9
          refine r_aload_n (i := 0) i_W_fillTold_43 rfl rfl ?_
          refine r_aload_n (i := 1) i_W_fillTold_44 rfl rfl ?_
          refine r_iload (i := 4) i_W_fillTold_45 rfl ?_
          refine f_virtual o_W_fillTold k_W_isBarred v_W_isBarred x_W_39 i_W_fillTold_47 o_W_isBarred (c_W_isBarred hX0 hT0 (by omega)) rfl (rcv_ob (by repeat (first | assumption | exact upw_s | refine (upw_n (by omega)).trans ?_)) rfl (by first | assumption | omega)) rfl (by decide) (Nat.le_of_ble_eq_true rfl) ?_
          refine r_if_ne 72 i_W_fillTold_50 (by decide) (fun h50 => ?_) (fun h50 => ?_)
          · skip
            have h50 := bI_ne0.mp h50
            rw [h50, Bool.true_or, if_pos rfl] at e9
            refine r_iload (i := 4) i_W_fillTold_72 rfl ?_
            refine r_ireturn i_W_fillTold_74 t_W_fillTold rfl ?_
            have q9 : ftold S P (fun b => elemI Y s (nI b)) X B = ftold S P (fun b => elemI Y s (nI b)) X (i + 1) := by
              rw [show B = i + 1 + r by omega]
              exact ftold_stop (by rw [e9]; exact nI_nem1 (by omega)) r
            rw [q9, e9]
            exact ⟨rfl, ⟨hX0, hF1⟩, rfl⟩
          · skip
            have h50 := bI_eq0.mp h50
            rw [h50, Bool.false_or] at e9
            refine r_aload_n (i := 1) i_W_fillTold_53 rfl rfl ?_
            refine r_iload (i := 4) i_W_fillTold_54 rfl ?_
            refine r_aload_n (i := 0) i_W_fillTold_56 rfl rfl ?_
            refine r_getf (ci := 4) (T := Fk4) (k := 2) o_W_fillTold i_W_fillTold_57 x_W_19 rfl (by decide) rfl (by repeat (first | assumption | exact upw_s | refine (upw_n (by omega)).trans ?_)) (by first | assumption | omega) (by rfl) ?_
            refine f_virtual o_W_fillTold k_T_mayBits v_T_mayBits x_W_43 i_W_fillTold_60 o_T_mayBits (c_T_mayBits hT0 (by omega) hP hP7) rfl (rcv_ob (by repeat (first | assumption | exact upw_s | refine (upw_n (by omega)).trans ?_)) rfl (by first | assumption | omega)) rfl (by decide) (Nat.le_of_ble_eq_true rfl) ?_
            refine r_lload (i := 5) i_W_fillTold_63 rfl ?_
            refine r_l2i i_W_fillTold_65 ?_
            refine f_staticN o_W_fillTold k_N_hasBit s_N_hasBit x_W_47 i_W_fillTold_66 (c_N_hasBit) rfl rfl (by decide) (Nat.le_of_ble_eq_true rfl) ?_
            refine r_if_ne 75 i_W_fillTold_69 (by decide) (fun h69 => ?_) (fun h69 => ?_)
            · skip
              have h69 := bI_ne0.mp h69
              rw [h69, Bool.not_true, if_neg (by decide)] at e9
              refine r_aload_n (i := 0) i_W_fillTold_75 rfl rfl ?_
              refine r_iload (i := 4) i_W_fillTold_76 rfl ?_
              refine r_lload (i := 5) i_W_fillTold_78 rfl ?_
              refine r_l2i i_W_fillTold_80 ?_
              refine m_virtual o_W_fillTold k_W_take v_W_take x_W_51 i_W_fillTold_81 o_W_take (c_W_take hX0 (by omega)) rfl (rcv_ob (by repeat (first | assumption | exact upw_s | refine (upw_n (by omega)).trans ?_)) rfl (by first | assumption | omega)) rfl (by decide) (Nat.le_of_ble_eq_true rfl) (Nat.zero_le _) (Nat.zero_le _) (fun r1 w2 n1 hp => ?_)
              obtain ⟨rfl, ⟨hX2, hF2⟩, rfl⟩ := hp
              refine r_iinc_4 (v := (1 : Int32)) i_W_fillTold_84 rfl (by rw [l_W_fillTold]; decide) rfl ?_
              refine r_goto 7 i_W_fillTold_87 (by decide) ?_
              rw [nI_1]
              refine r_fg_5 ?_
              first | exact ih (i + 1) (by omega) (by rw [e9]; exact hr) w1 (by rw [e9]; exact hX0) hF1 | exact ih (i + 1) (by omega) (by rw [e9]) w2 (by rw [e9]; exact hX2) (fun j hj => (hF2 j hj).trans (hF1 j hj))
            · skip
              have h69 := bI_eq0.mp h69
              rw [h69, Bool.not_false, if_pos rfl] at e9
              refine r_iload (i := 4) i_W_fillTold_72 rfl ?_
              refine r_ireturn i_W_fillTold_74 t_W_fillTold rfl ?_
              have q9 : ftold S P (fun b => elemI Y s (nI b)) X B = ftold S P (fun b => elemI Y s (nI b)) X (i + 1) := by
                rw [show B = i + 1 + r by omega]
                exact ftold_stop (by rw [e9]; exact nI_nem1 (by omega)) r
              rw [q9, e9]
              exact ⟨rfl, ⟨hX0, hF1⟩, rfl⟩
  have hX0 := hX
  obtain ⟨g0, g1, hn⟩ := hX
  refine Wm.of k_W_fillTold l_W_fillTold rfl rfl ?_
  refine r_aload_n (i := 0) i_W_fillTold_0 rfl rfl ?_
  refine m_virtual o_W_fillTold k_W_begin v_W_begin x_W_22 i_W_fillTold_1 o_W_begin (c_W_begin hX0) rfl (rcv_ob (by repeat (first | assumption | exact upw_s | refine (upw_n (by omega)).trans ?_)) rfl (by first | assumption | omega)) rfl (by decide) (Nat.le_of_ble_eq_true rfl) (Nat.zero_le _) (Nat.zero_le _) (fun r1 w2 n1 hp => ?_)
  obtain ⟨rfl, ⟨hX2, hF2⟩, rfl⟩ := hp
  refine r_iconst (v := (0 : Int32)) i_W_fillTold_4 rfl ?_
  refine r_istore_4 i_W_fillTold_5 (by rw [l_W_fillTold]; decide) rfl ?_
  exact hloop B 0 (by omega) rfl w2 hX2 hF2
end FILL
