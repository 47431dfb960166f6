-- WEEKS: what is left in the row from earlier weeks does not count
def wE (X Y : aK) : Prop := X.1 = Y.1 ∧ X.2.1 = Y.2.1 ∧ ∀ b, b < 7 → hbI X.1 (nI b) = true → X.2.2 b = Y.2.2 b
def K0 : aK := (0, 0, fun _ => 0)
theorem wE_0 {f g : Nat → Int32} : wE (0, 0, f) (0, 0, g) := ⟨rfl, rfl, fun b hb h => by
  rw [hb_bt (by omega), show ((0, 0, f) : aK).1 = 0 from rfl, b_0] at h
  exact absurd h (by decide)⟩
theorem wE_take {X Y : aK} {b : Nat} {c : Int32} (hb : b < 7) (h : wE X Y) : wE (takeW X b c) (takeW Y b c) := by
  unfold takeW
  split
  · exact h
  · obtain ⟨h1, h2, h3⟩ := h
    refine ⟨by show X.1 ||| b1 b = Y.1 ||| b1 b; rw [h1], by show X.2.1 ||| _ = Y.2.1 ||| _; rw [h2], ?_⟩
    intro q hq hh
    show upd X.2.2 b c q = upd Y.2.2 b c q
    unfold upd
    by_cases e : q = b
    · rw [if_pos e, if_pos e]
    · rw [if_neg e, if_neg e]
      refine h3 q hq ?_
      have hh2 : hbI (X.1 ||| b1 b) (nI q) = true := hh
      rw [hb_bt (by omega), b_or, b1_bt (by omega) (by omega), decide_eq_false e, Bool.or_false, ← hb_bt (by omega)] at hh2
      exact hh2
theorem barN_E {S : aS} {X Y : aK} {b : Nat} (h : wE X Y) : barN S X b = barN S Y b := by
  unfold barN
  rw [h.1]
theorem fbr_E {S : aS} {P kd : Nat} {a : Int32} {X Y : aK} : ∀ B, B ≤ 7 → wE (fbr S P kd a X B) (fbr S P kd a Y B)
  | 0, _ => wE_0
  | b + 1, hb => by
    have ih := fbr_E (S := S) (P := P) (kd := kd) (a := a) (X := X) (Y := Y) b (by omega)
    unfold fbr
    rw [barN_E ih, ih.2.1]
    split
    · exact ih
    · exact wE_take (by omega) ih
theorem ftold_E {S : aS} {P : Nat} {row : Nat → Int64} {X Y : aK} : ∀ B, B ≤ 7 → wE (ftold S P row X B).1 (ftold S P row Y B).1 ∧ (ftold S P row X B).2 = (ftold S P row Y B).2
  | 0, _ => ⟨wE_0, rfl⟩
  | b + 1, hb => by
    obtain ⟨ih, ih2⟩ := ftold_E (S := S) (P := P) (row := row) (X := X) (Y := Y) b (by omega)
    unfold ftold
    rw [barN_E ih, ih.2.1, ih2]
    split
    · split
      · split
        · exact ⟨ih, rfl⟩
        · exact ⟨wE_take (by omega) ih, rfl⟩
      · exact ⟨ih, ih2⟩
    · exact ⟨ih, ih2⟩
theorem mayD_E {S : aS} {P b : Nat} {X Y : aK} (h : wE X Y) : mayD S P b X = mayD S P b Y := by
  unfold mayD
  rw [barN_E h, h.2.1]
theorem fdr_E {S : aS} {P : Nat} {X Y : aK} : ∀ B, B ≤ 7 → wE (fdr S P X B).1 (fdr S P Y B).1 ∧ (fdr S P X B).2 = (fdr S P Y B).2
  | 0, _ => ⟨wE_0, rfl⟩
  | b + 1, hb => by
    obtain ⟨ih, ih2⟩ := fdr_E (S := S) (P := P) (X := X) (Y := Y) b (by omega)
    unfold fdr
    rw [mayD_E ih, ih2]
    split
    · exact ⟨ih, ih2⟩
    · exact ⟨wE_take (by omega) ih, rfl⟩
theorem sumV_E {S : aS} {X Y : aK} (h : wE X Y) : ∀ B, B ≤ 7 → sumV S X B = sumV S Y B
  | 0, _ => rfl
  | b + 1, hb => by
    unfold sumV
    rw [sumV_E h b (by omega), h.1]
    by_cases q : hbI Y.1 (nI b) = true
    · rw [if_pos q, if_pos q, h.2.2 b (by omega) (by rw [h.1]; exact q)]
    · rw [if_neg q, if_neg q]
theorem tellN_E {S : aS} {X Y : aK} {B : Nat} {q : Int32} (h : wE X Y) (hB : B ≤ 7) : tellN S X B q = tellN S Y B q := by
  unfold tellN
  rw [sumV_E h B hB, h.1, h.2.1]
theorem ctr_E {S : aS} {X Y : aK} (h : wE X Y) : ∀ B, B ≤ 7 → ctr S X B = ctr S Y B
  | 0, _ => rfl
  | b + 1, hb => by
    unfold ctr
    rw [ctr_E h b (by omega), h.1]
    by_cases q : hbI Y.1 (nI b) = true
    · rw [if_pos q, if_pos q, h.2.2 b (by omega) (by rw [h.1]; exact q)]
    · rw [if_neg q, if_neg q]
theorem truth_E {S : aS} {X Y : aK} {B : Nat} (h : wE X Y) (hB : B ≤ 7) : truth S X B = truth S Y B := by
  unfold truth
  rw [ctr_E h B hB]
theorem truth_keep {S : aS} {X : aK} {B : Nat} : (truth S X B).2 2 = S.2 2 ∧ (truth S X B).2 3 = S.2 3 ∧ (truth S X B).1 0 = S.1 0 ∧ (truth S X B).1 1 = S.1 1 := by
  obtain ⟨h2, h3, -, -, -, -, h8⟩ := ctr_keep (S := S) (X := X) B
  exact ⟨h2, h3, h8 0 (by decide), h8 1 (by decide)⟩
theorem truth_ok {S : aS} {X : aK} {B : Nat} (h : TOk S) : TOk (truth S X B) := by
  obtain ⟨P', B', hP, hP7, hB, hB7, hI⟩ := h
  obtain ⟨h2, h3, h0, h1⟩ := truth_keep (S := S) (X := X) (B := B)
  refine ⟨P', B', by rw [h0]; exact hP, hP7, by rw [h1]; exact hB, hB7, fun b hb => ?_⟩
  rw [h2, h3]
  exact hI b hb
section PUBW
variable {G : gE} {w : aW} {n : Nat} {Q : aQ}
def kdI (Q : aQ) (s : Int32) : Nat := (heldI Q.2.2.2.1 s - 10).toNatClampNeg
def noI (Q : aQ) (s : Int32) : Int32 := atI Q.2.2.2.1.2.2.1 8 s
def tbs (Q : aQ) (s : Int32) (b : Nat) (x : Int32) : Int32 := thirdN Q.1 (nP Q) (kdI Q s) (noI Q s) b (mayB Q.1 b (nP Q) x)
def wkR (Q : aQ) (s : Int32) : aK := fbr Q.1 (nP Q) (kdI Q s) (noI Q s) K0 (nB Q)
def tls (Q : aQ) (s q : Int32) : Int32 := tellN Q.1 (wkR Q s) (nB Q) q
theorem c_N_thirdByShelf {s x : Int32} {b : Nat} (hC : CW w Q n) (hQ : QOk Q) (hr : ruleR Q.2.2.2.1 s = 0) (hb : b < 7) : Cm G 5 y_N_thirdByShelf [.ref 0, .int s, .int (nI b), .int x] w n (tbs Q s b x, Q) := by
  obtain ⟨D, L, fa, K, Z, hX⟩ := id hC
  obtain ⟨c0, cT, cK, cD, cS, cR, cW, cE, cF, cn⟩ := id hX
  have oT := cT.1
  have oK := cK.1
  have oD := cD.1
  have oS := cS.1
  have oR := cR.1
  have oW := cW.1
  have oE := cE.1
  obtain ⟨P, B, hP, hP7, hB, hB7, -⟩ := hQ.1
  obtain ⟨k, kd, hk, -, k1, k6, e1, -⟩ := ruleR_0 hQ.2.2.1 hr
  have e2 : kdI Q s = kd := by unfold kdI; rw [e1, nI_clamp (by omega)]
  refine Cm.of k_N_thirdByShelf l_N_thirdByShelf rfl rfl ?_
  unfold tbs
  rw [nP_eq hP hP7, e2]
  refine r_aload_n (i := 0) i_N_thirdByShelf_0 rfl rfl ?_
  refine r_getf (ci := 0) (T := Fk0) (k := 0) o_N_thirdByShelf i_N_thirdByShelf_1 x_N_10 rfl (by decide) rfl (by repeat (first | assumption | exact upw_s | refine (upw_n (by omega)).trans ?_)) (by first | assumption | omega) (by rfl) ?_
  refine r_aload_n (i := 0) i_N_thirdByShelf_4 rfl rfl ?_
  refine r_getf (ci := 0) (T := Fk0) (k := 4) o_N_thirdByShelf i_N_thirdByShelf_5 x_N_29 rfl (by decide) rfl (by repeat (first | assumption | exact upw_s | refine (upw_n (by omega)).trans ?_)) (by first | assumption | omega) (by rfl) ?_
  refine r_iload_n (i := 1) i_N_thirdByShelf_8 rfl rfl ?_
  refine f_virtual o_N_thirdByShelf k_S_kindIn v_S_kindIn x_N_107 i_N_thirdByShelf_9 o_S_kindIn (c_S_kindIn cS) rfl (rcv_ob (by repeat (first | assumption | exact upw_s | refine (upw_n (by omega)).trans ?_)) rfl (by first | assumption | omega)) rfl (by decide) (Nat.le_of_ble_eq_true rfl) ?_
  rw [e1]
  refine r_aload_n (i := 0) i_N_thirdByShelf_12 rfl rfl ?_
  refine r_getf (ci := 0) (T := Fk0) (k := 4) o_N_thirdByShelf i_N_thirdByShelf_13 x_N_29 rfl (by decide) rfl (by repeat (first | assumption | exact upw_s | refine (upw_n (by omega)).trans ?_)) (by first | assumption | omega) (by rfl) ?_
  refine r_iload_n (i := 1) i_N_thirdByShelf_16 rfl rfl ?_
  refine f_virtual o_N_thirdByShelf k_S_numberIn v_S_numberIn x_N_117 i_N_thirdByShelf_17 o_S_numberIn (c_S_numberIn cS) rfl (rcv_ob (by repeat (first | assumption | exact upw_s | refine (upw_n (by omega)).trans ?_)) rfl (by first | assumption | omega)) rfl (by decide) (Nat.le_of_ble_eq_true rfl) ?_
  refine r_iload_n (i := 2) i_N_thirdByShelf_20 rfl rfl ?_
  refine r_aload_n (i := 0) i_N_thirdByShelf_21 rfl rfl ?_
  refine r_getf (ci := 0) (T := Fk0) (k := 0) o_N_thirdByShelf i_N_thirdByShelf_22 x_N_10 rfl (by decide) rfl (by repeat (first | assumption | exact upw_s | refine (upw_n (by omega)).trans ?_)) (by first | assumption | omega) (by rfl) ?_
  refine r_iload_n (i := 2) i_N_thirdByShelf_25 rfl rfl ?_
  refine r_iload_n (i := 3) i_N_thirdByShelf_26 rfl rfl ?_
  refine f_virtual o_N_thirdByShelf k_T_mayBits v_T_mayBits x_N_344 i_N_thirdByShelf_27 o_T_mayBits (c_T_mayBits cT hb hP hP7) rfl (rcv_ob (by repeat (first | assumption | exact upw_s | refine (upw_n (by omega)).trans ?_)) rfl (by first | assumption | omega)) rfl (by decide) (Nat.le_of_ble_eq_true rfl) ?_
  refine f_static o_N_thirdByShelf k_U_thirdFor s_U_thirdFor x_N_347 i_N_thirdByShelf_30 (c_U_thirdFor cT hb hP hP7 k1 k6) rfl rfl (by decide) (Nat.le_of_ble_eq_true rfl) ?_
  refine r_ireturn i_N_thirdByShelf_33 t_N_thirdByShelf rfl ?_
  first | exact ⟨rfl, hp9, rfl⟩ | exact ⟨rfl, ⟨hC, cFr.rfl⟩, rfl⟩
theorem c_N_tellByShelf {s q : Int32} (hC : CW w Q n) (hQ : QOk Q) (hr : ruleR Q.2.2.2.1 s = 0) : Cm G 6 y_N_tellByShelf [.ref 0, .int s, .int q] w n (tls Q s q, Q) := by
  obtain ⟨D, L, fa, K, Z, hX⟩ := id hC
  obtain ⟨c0, cT, cK, cD, cS, cR, cW, cE, cF, cn⟩ := id hX
  have oT := cT.1
  have oK := cK.1
  have oD := cD.1
  have oS := cS.1
  have oR := cR.1
  have oW := cW.1
  have oE := cE.1
  obtain ⟨P, B, hP, hP7, hB, hB7, -⟩ := hQ.1
  obtain ⟨k, kd, hk, -, k1, k6, e1, -⟩ := ruleR_0 hQ.2.2.1 hr
  have e2 : kdI Q s = kd := by unfold kdI; rw [e1, nI_clamp (by omega)]
  refine Cm.of k_N_tellByShelf l_N_tellByShelf rfl rfl ?_
  unfold tls wkR
  rw [nP_eq hP hP7, nB_eq hB hB7, e2]
  rw [← tellN_E (fbr_E (X := K) B hB7) hB7]
  refine r_aload_n (i := 0) i_N_tellByShelf_0 rfl rfl ?_
  refine r_getf (ci := 0) (T := Fk0) (k := 6) o_N_tellByShelf i_N_tellByShelf_1 x_N_43 rfl (by decide) rfl (by repeat (first | assumption | exact upw_s | refine (upw_n (by omega)).trans ?_)) (by first | assumption | omega) (by rfl) ?_
  refine r_aload_n (i := 0) i_N_tellByShelf_4 rfl rfl ?_
  refine r_getf (ci := 0) (T := Fk0) (k := 0) o_N_tellByShelf i_N_tellByShelf_5 x_N_10 rfl (by decide) rfl (by repeat (first | assumption | exact upw_s | refine (upw_n (by omega)).trans ?_)) (by first | assumption | omega) (by rfl) ?_
  refine r_aload_n (i := 0) i_N_tellByShelf_8 rfl rfl ?_
  refine r_getf (ci := 0) (T := Fk0) (k := 4) o_N_tellByShelf i_N_tellByShelf_9 x_N_29 rfl (by decide) rfl (by repeat (first | assumption | exact upw_s | refine (upw_n (by omega)).trans ?_)) (by first | assumption | omega) (by rfl) ?_
  refine r_iload_n (i := 1) i_N_tellByShelf_12 rfl rfl ?_
  refine f_virtual o_N_tellByShelf k_S_kindIn v_S_kindIn x_N_107 i_N_tellByShelf_13 o_S_kindIn (c_S_kindIn cS) rfl (rcv_ob (by repeat (first | assumption | exact upw_s | refine (upw_n (by omega)).trans ?_)) rfl (by first | assumption | omega)) rfl (by decide) (Nat.le_of_ble_eq_true rfl) ?_
  rw [e1]
  refine r_aload_n (i := 0) i_N_tellByShelf_16 rfl rfl ?_
  refine r_getf (ci := 0) (T := Fk0) (k := 4) o_N_tellByShelf i_N_tellByShelf_17 x_N_29 rfl (by decide) rfl (by repeat (first | assumption | exact upw_s | refine (upw_n (by omega)).trans ?_)) (by first | assumption | omega) (by rfl) ?_
  refine r_iload_n (i := 1) i_N_tellByShelf_20 rfl rfl ?_
  refine f_virtual o_N_tellByShelf k_S_numberIn v_S_numberIn x_N_117 i_N_tellByShelf_21 o_S_numberIn (c_S_numberIn cS) rfl (rcv_ob (by repeat (first | assumption | exact upw_s | refine (upw_n (by omega)).trans ?_)) rfl (by first | assumption | omega)) rfl (by decide) (Nat.le_of_ble_eq_true rfl) ?_
  refine m_virtual o_N_tellByShelf k_W_fillByRule v_W_fillByRule x_N_241 i_N_tellByShelf_24 o_W_fillByRule (c_W_fillByRule cW cT (by omega) hP hP7 hB hB7 k1 k6) rfl (rcv_ob (by repeat (first | assumption | exact upw_s | refine (upw_n (by omega)).trans ?_)) rfl (by first | assumption | omega)) rfl (by decide) (Nat.le_of_ble_eq_true rfl) (Nat.zero_le _) (Nat.zero_le _) (fun r1 w2 n1 hp9 => ?_)
  obtain ⟨rfl, ⟨hW2, hF2⟩, rfl⟩ := hp9
  have hX2 := hX.week hW2 hF2
  obtain ⟨d0, dT, dK, dD, dS, dR, dW, dE, dF, dn⟩ := id hX2
  have uW := dW.1
  refine r_aload_n (i := 0) i_N_tellByShelf_27 rfl rfl ?_
  refine r_getf (ci := 0) (T := Fk0) (k := 6) o_N_tellByShelf i_N_tellByShelf_28 x_N_43 rfl (by decide) rfl (by repeat (first | assumption | exact upw_s | refine (upw_n (by omega)).trans ?_)) (by first | assumption | omega) (by rfl) ?_
  refine r_aload_n (i := 0) i_N_tellByShelf_31 rfl rfl ?_
  refine r_getf (ci := 0) (T := Fk0) (k := 0) o_N_tellByShelf i_N_tellByShelf_32 x_N_10 rfl (by decide) rfl (by repeat (first | assumption | exact upw_s | refine (upw_n (by omega)).trans ?_)) (by first | assumption | omega) (by rfl) ?_
  refine r_iload_n (i := 2) i_N_tellByShelf_35 rfl rfl ?_
  refine f_virtual o_N_tellByShelf k_W_tell v_W_tell x_N_234 i_N_tellByShelf_36 o_W_tell (c_W_tell dW dT hB hB7 hP7 (fbr_ok hP7 B hB7)) rfl (rcv_ob (by repeat (first | assumption | exact upw_s | refine (upw_n (by omega)).trans ?_)) rfl (by first | assumption | omega)) rfl (by decide) (Nat.le_of_ble_eq_true rfl) ?_
  refine r_ireturn i_N_tellByShelf_39 t_N_tellByShelf rfl ?_
  exact ⟨rfl, ⟨hX2.cw, fun j hj => hF2 j (by omega)⟩, rfl⟩
def tldR (Q : aQ) (s : Int32) : Int32 := if rowR Q.2.2.2.1 s = 0 then (if sizeI Q.2.2.2.1 s < Q.1.1 1 then -2 else 0) else rowR Q.2.2.2.1 s
theorem c_N_toldRefusal {s : Int32} (hC : CW w Q n) : Fn G 5 y_N_toldRefusal [.ref 0, .int s] w n (some (.int (tldR Q s))) w := by
  obtain ⟨D, L, fa, K, Z, hX⟩ := id hC
  obtain ⟨c0, cT, cK, cD, cS, cR, cW, cE, cF, cn⟩ := id hX
  have oT := cT.1
  have oK := cK.1
  have oD := cD.1
  have oS := cS.1
  have oR := cR.1
  have oW := cW.1
  have oE := cE.1
  refine Fn.of k_N_toldRefusal l_N_toldRefusal rfl rfl ?_
  unfold tldR
  refine r_aload_n (i := 0) i_N_toldRefusal_0 rfl rfl ?_
  refine r_getf (ci := 0) (T := Fk0) (k := 4) o_N_toldRefusal i_N_toldRefusal_1 x_N_29 rfl (by decide) rfl (by repeat (first | assumption | exact upw_s | refine (upw_n (by omega)).trans ?_)) (by first | assumption | omega) (by rfl) ?_
  refine r_iload_n (i := 1) i_N_toldRefusal_4 rfl rfl ?_
  refine f_virtual o_N_toldRefusal k_S_rowRefusal v_S_rowRefusal x_N_74 i_N_toldRefusal_5 o_S_rowRefusal (c_S_rowRefusal cS) rfl (rcv_ob (by repeat (first | assumption | exact upw_s | refine (upw_n (by omega)).trans ?_)) rfl (by first | assumption | omega)) rfl (by decide) (Nat.le_of_ble_eq_true rfl) ?_
  refine r_istore_2 i_N_toldRefusal_8 (by rw [l_N_toldRefusal]; decide) rfl ?_
  refine r_iload_n (i := 2) i_N_toldRefusal_9 rfl rfl ?_
  refine r_if_ne 36 i_N_toldRefusal_10 (by decide) (fun h10 => ?_) (fun h10 => ?_)
  · skip
    rw [if_neg h10]
    refine r_iload_n (i := 2) i_N_toldRefusal_36 rfl rfl ?_
    refine r_ireturn i_N_toldRefusal_37 t_N_toldRefusal rfl ?_
    first | exact ⟨rfl, rfl, rfl⟩ | exact ⟨by rw [h10], rfl, rfl⟩
  · skip
    rw [if_pos h10]
    refine r_aload_n (i := 0) i_N_toldRefusal_13 rfl rfl ?_
    refine r_getf (ci := 0) (T := Fk0) (k := 4) o_N_toldRefusal i_N_toldRefusal_14 x_N_29 rfl (by decide) rfl (by repeat (first | assumption | exact upw_s | refine (upw_n (by omega)).trans ?_)) (by first | assumption | omega) (by rfl) ?_
    refine r_iload_n (i := 1) i_N_toldRefusal_17 rfl rfl ?_
    refine f_virtual o_N_toldRefusal k_S_sizeOf v_S_sizeOf x_N_77 i_N_toldRefusal_18 o_S_sizeOf (c_S_sizeOf cS) rfl (rcv_ob (by repeat (first | assumption | exact upw_s | refine (upw_n (by omega)).trans ?_)) rfl (by first | assumption | omega)) rfl (by decide) (Nat.le_of_ble_eq_true rfl) ?_
    refine r_aload_n (i := 0) i_N_toldRefusal_21 rfl rfl ?_
    refine r_getf (ci := 0) (T := Fk0) (k := 0) o_N_toldRefusal i_N_toldRefusal_22 x_N_10 rfl (by decide) rfl (by repeat (first | assumption | exact upw_s | refine (upw_n (by omega)).trans ?_)) (by first | assumption | omega) (by rfl) ?_
    refine r_getfN (ci := 1) (T := Fk1) (k := 1) o_N_toldRefusal i_N_toldRefusal_25 x_N_113 rfl (by decide) rfl (by repeat (first | assumption | exact upw_s | refine (upw_n (by omega)).trans ?_)) (by first | assumption | omega) (by rfl) ?_
    refine r_icmp_ge 36 i_N_toldRefusal_28 (by decide) (fun h28 => ?_) (fun h28 => ?_)
    · skip
      rw [if_neg (Int32.not_lt.mpr h28)]
      refine r_iload_n (i := 2) i_N_toldRefusal_36 rfl rfl ?_
      refine r_ireturn i_N_toldRefusal_37 t_N_toldRefusal rfl ?_
      first | exact ⟨rfl, rfl, rfl⟩ | exact ⟨by rw [h10], rfl, rfl⟩
    · skip
      rw [if_pos (Int32.not_le.mp h28)]
      refine r_bipush (v := (-2 : Int32)) i_N_toldRefusal_31 (by decide) ?_
      refine r_goto 37 i_N_toldRefusal_33 (by decide) ?_
      refine r_ireturn i_N_toldRefusal_37 t_N_toldRefusal rfl ?_
      first | exact ⟨rfl, rfl, rfl⟩ | exact ⟨by rw [h10], rfl, rfl⟩
def tldW (Q : aQ) (s : Int32) : aK × Int32 := ftold Q.1 (nP Q) (fun b => elemI Q.2.2.2.1 s.toNatClampNeg (nI b)) K0 (nB Q)
theorem tldR_0 (hQ : QOk Q) {s : Int32} (h : tldR Q s = 0) : ∃ k m, k < 8 ∧ s = nI k ∧ sizeI Q.2.2.2.1 (nI k) = nI m ∧ m ≤ 40 := by
  have h1 : rowR Q.2.2.2.1 s = 0 := by
    unfold tldR at h
    by_cases q : rowR Q.2.2.2.1 s = 0
    · exact q
    · rw [if_neg q] at h; exact h
  obtain ⟨k, hk, rfl, hrow⟩ := rowR_0 h1
  obtain ⟨m, hm, e⟩ := size_of hQ.2.2.1 k hk
  exact ⟨k, m, hk, rfl, e, hm⟩
end PUBW
