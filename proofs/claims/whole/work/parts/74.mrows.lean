-- THE REFERENCE: rows
def MHOk (M : aM) : Prop := ∀ s, s < 8 → (M.2.1 1 s = 0 ∨ M.2.1 1 s = 1 ∨ M.2.1 1 s = 2) ∧ (∃ c, c < 5 ∧ M.2.1 2 s = nI c) ∧ (∃ m, m ≤ 40 ∧ M.2.1 3 s = nI m)
section MROWS
variable {G : gE} {w : aW} {o n : Nat} {M : aM}
theorem c_M_fit0 {v : Int64} : Fn G 0 y_M_fit [.int 0, .long v] w n (some (.long (lowb 0 v))) w := by
  refine Fn.of k_M_fit l_M_fit rfl rfl ?_
  refine r_iload_n (i := 0) i_M_fit_0 rfl rfl ?_
  refine r_tableIn 32 i_M_fit_1 (by decide) (by decide) (by rfl) (by decide) ?_
  refine r_lload_n (i := 1) i_M_fit_32 rfl rfl ?_
  refine r_l2i i_M_fit_33 ?_
  refine r_i2b i_M_fit_34 ?_
  refine r_i2l i_M_fit_35 ?_
  refine r_lreturn i_M_fit_36 t_M_fit ?_
  exact ⟨rfl, rfl, rfl⟩
theorem c_M_fit1 {v : Int64} : Fn G 0 y_M_fit [.int 1, .long v] w n (some (.long (lowb 1 v))) w := by
  refine Fn.of k_M_fit l_M_fit rfl rfl ?_
  refine r_iload_n (i := 0) i_M_fit_0 rfl rfl ?_
  refine r_tableIn 37 i_M_fit_1 (by decide) (by decide) (by rfl) (by decide) ?_
  refine r_lload_n (i := 1) i_M_fit_37 rfl rfl ?_
  refine r_l2i i_M_fit_38 ?_
  refine r_i2s i_M_fit_39 ?_
  refine r_i2l i_M_fit_40 ?_
  refine r_lreturn i_M_fit_41 t_M_fit ?_
  exact ⟨rfl, rfl, rfl⟩
theorem c_M_fit2 {v : Int64} : Fn G 0 y_M_fit [.int 2, .long v] w n (some (.long (lowb 2 v))) w := by
  refine Fn.of k_M_fit l_M_fit rfl rfl ?_
  refine r_iload_n (i := 0) i_M_fit_0 rfl rfl ?_
  refine r_tableIn 42 i_M_fit_1 (by decide) (by decide) (by rfl) (by decide) ?_
  refine r_lload_n (i := 1) i_M_fit_42 rfl rfl ?_
  refine r_l2i i_M_fit_43 ?_
  refine r_i2l i_M_fit_44 ?_
  refine r_lreturn i_M_fit_45 t_M_fit ?_
  exact ⟨rfl, rfl, rfl⟩
theorem c_M_fit3 {v : Int64} : Fn G 0 y_M_fit [.int 3, .long v] w n (some (.long (lowb 3 v))) w := by
  refine Fn.of k_M_fit l_M_fit rfl rfl ?_
  refine r_iload_n (i := 0) i_M_fit_0 rfl rfl ?_
  refine r_tableIn 46 i_M_fit_1 (by decide) (by decide) (by rfl) (by decide) ?_
  refine r_lload_n (i := 1) i_M_fit_46 rfl rfl ?_
  refine r_lreturn i_M_fit_47 t_M_fit ?_
  exact ⟨rfl, rfl, rfl⟩
theorem c_M_fit4 {v : Int64} : Fn G 0 y_M_fit [.int 4, .long v] w n (some (.long (lowb 4 v))) w := by
  refine Fn.of k_M_fit l_M_fit rfl rfl ?_
  have e9 : lowb 4 v = if v = 0 then 0 else 1 := rfl
  rw [e9]
  refine r_iload_n (i := 0) i_M_fit_0 rfl rfl ?_
  refine r_tableOut 48 i_M_fit_1 (by decide) (by decide) ?_
  refine r_lload_n (i := 1) i_M_fit_48 rfl rfl ?_
  refine r_lconst (v := (0 : Int64)) i_M_fit_49 rfl ?_
  refine r_lcmp i_M_fit_50 ?_
  refine r_if_eq 58 i_M_fit_51 (by decide) (fun h51 => ?_) (fun h51 => ?_)
  · skip
    rw [if_pos (lcmp_eq.mp h51)]
    refine r_lconst (v := (0 : Int64)) i_M_fit_58 rfl ?_
    refine r_lreturn i_M_fit_59 t_M_fit ?_
    exact ⟨rfl, rfl, rfl⟩
  · skip
    rw [if_neg (fun q => h51 (lcmp_eq.mpr q))]
    refine r_lconst (v := (1 : Int64)) i_M_fit_54 rfl ?_
    refine r_goto 59 i_M_fit_55 (by decide) ?_
    refine r_lreturn i_M_fit_59 t_M_fit ?_
    exact ⟨rfl, rfl, rfl⟩
theorem c_M_fit {c : Nat} {v : Int64} (hc : c < 5) : Fn G 0 y_M_fit [.int (nI c), .long v] w n (some (.long (lowb (nI c) v))) w := by
  rcases (show c = 0 ∨ c = 1 ∨ c = 2 ∨ c = 3 ∨ c = 4 by omega) with rfl | rfl | rfl | rfl | rfl
  · exact c_M_fit0
  · exact c_M_fit1
  · exact c_M_fit2
  · exact c_M_fit3
  · exact c_M_fit4
theorem long_of (h : MW w o M n) {s : Nat} (hs : s < 8) : w (o + 5 + s) = al 40 (M.2.2.1 (5 + s)) ∧ rfF9 (o + 5) 8 (nI s).toNatClampNeg = some (o + 5 + s) ∧ vp_in (nI s) 8 := by
  have a1 := h.2.2.1 (5 + s) (by omega) (by omega)
  rw [← Nat.add_assoc] at a1
  refine ⟨a1, ?_, vp_in_nI hs (by decide)⟩
  unfold rfF9
  rw [nI_clamp (by omega), if_pos hs]
def e_elM (M : aM) (s i : Int32) : Int64 := if (lt0 s 8 && (decide (M.2.1 1 s.toNatClampNeg = 1) && inL i.toInt64 0 (M.2.1 3 s.toNatClampNeg - 1).toInt64)) = true then M.2.2.1 (5 + s.toNatClampNeg) i.toNatClampNeg else 0
theorem c_M_element {s i : Int32} (h : MW w o M n) (hM : MHOk M) : Fn G 1 y_M_element [.ref o, .int s, .int i] w n (some (.long (e_elM M s i))) w := by
  obtain ⟨m0, mA', mL', m4, m20, m28, mn'⟩ := id h
  have a1 : w (o + 1) = ai 8 (M.2.1 1) := mA' 1 rfl
  have a3 : w (o + 3) = ai 8 (M.2.1 3) := mA' 3 rfl
  refine Fn.of k_M_element l_M_element rfl rfl ?_
  unfold e_elM
  refine r_iload_n (i := 1) i_M_element_0 rfl rfl ?_
  refine r_i2l i_M_element_1 ?_
  refine r_lconst (v := (0 : Int64)) i_M_element_2 rfl ?_
  refine r_ldc2 o_M_element i_M_element_3 x_M_83 ?_
  refine f_static o_M_element k_M_in s_M_in x_M_76 i_M_element_6 (c_M_in) rfl rfl (by decide) (Nat.le_of_ble_eq_true rfl) ?_
  rw [in_07]
  refine r_if_eq 51 i_M_element_9 (by decide) (fun h9 => ?_) (fun h9 => ?_)
  · skip
    rw [bI_eq0.mp h9]
    refine r_lconst (v := (0 : Int64)) i_M_element_51 rfl ?_
    refine r_lreturn i_M_element_52 t_M_element ?_
    exact ⟨rfl, rfl, rfl⟩
  · skip
    have h9 := bI_ne0.mp h9
    rw [h9]
    obtain ⟨s, hs, rfl⟩ := lt0_of (N := 8) (by decide) h9
    obtain ⟨r1, r2, is⟩ := long_of h hs
    obtain ⟨-, -, m, hm, em⟩ := hM s hs
    rw [nI_clamp (by omega)]
    refine r_aload_n (i := 0) i_M_element_12 rfl rfl ?_
    refine r_getf (ci := 6) (T := Fk6) (k := 0) o_M_element i_M_element_13 x_M_7 rfl (by decide) rfl (by repeat (first | assumption | exact upw_s | refine (upw_n (by omega)).trans ?_)) (by first | assumption | omega) (by rfl) ?_
    refine r_iload_n (i := 1) i_M_element_16 rfl rfl ?_
    refine r_iald i_M_element_17 (by repeat (first | assumption | exact upw_s | refine (upw_n (by omega)).trans ?_)) (by first | assumption | omega) (by assumption) ?_
    refine r_iconst (v := (1 : Int32)) i_M_element_18 rfl ?_
    refine r_icmp_ne 51 i_M_element_19 (by decide) (fun h19 => ?_) (fun h19 => ?_)
    · skip
      rw [nI_clamp (by omega)] at h19
      rw [decide_eq_false h19]
      refine r_lconst (v := (0 : Int64)) i_M_element_51 rfl ?_
      refine r_lreturn i_M_element_52 t_M_element ?_
      exact ⟨rfl, rfl, rfl⟩
    · skip
      rw [nI_clamp (by omega)] at h19
      rw [decide_eq_true h19]
      refine r_iload_n (i := 2) i_M_element_22 rfl rfl ?_
      refine r_i2l i_M_element_23 ?_
      refine r_lconst (v := (0 : Int64)) i_M_element_24 rfl ?_
      refine r_aload_n (i := 0) i_M_element_25 rfl rfl ?_
      refine r_getf (ci := 6) (T := Fk6) (k := 2) o_M_element i_M_element_26 x_M_16 rfl (by decide) rfl (by repeat (first | assumption | exact upw_s | refine (upw_n (by omega)).trans ?_)) (by first | assumption | omega) (by rfl) ?_
      refine r_iload_n (i := 1) i_M_element_29 rfl rfl ?_
      refine r_iald i_M_element_30 (by repeat (first | assumption | exact upw_s | refine (upw_n (by omega)).trans ?_)) (by first | assumption | omega) (by assumption) ?_
      refine r_iconst (v := (1 : Int32)) i_M_element_31 rfl ?_
      refine r_isub i_M_element_32 ?_
      refine r_i2l i_M_element_33 ?_
      rw [nI_clamp (by omega)]
      refine f_static o_M_element k_M_in s_M_in x_M_76 i_M_element_34 (c_M_in) rfl rfl (by decide) (Nat.le_of_ble_eq_true rfl) ?_
      refine r_if_eq 51 i_M_element_37 (by decide) (fun h37 => ?_) (fun h37 => ?_)
      · skip
        rw [bI_eq0.mp h37]
        refine r_lconst (v := (0 : Int64)) i_M_element_51 rfl ?_
        refine r_lreturn i_M_element_52 t_M_element ?_
        exact ⟨rfl, rfl, rfl⟩
      · skip
        have h37 := bI_ne0.mp h37
        rw [h37]
        rw [em, in_lt (by omega)] at h37
        obtain ⟨i, hi, rfl⟩ := lt0_of (by omega) h37
        have ii : vp_in (nI i) 40 := vp_in_nI (by omega) (by decide)
        refine r_aload_n (i := 0) i_M_element_40 rfl rfl ?_
        refine r_getf (ci := 6) (T := Fk6) (k := 3) o_M_element i_M_element_41 x_M_21 rfl (by decide) rfl (by repeat (first | assumption | exact upw_s | refine (upw_n (by omega)).trans ?_)) (by first | assumption | omega) (by rfl) ?_
        refine r_iload_n (i := 1) i_M_element_44 rfl rfl ?_
        refine r_aald i_M_element_45 (by repeat (first | assumption | exact upw_s | refine (upw_n (by omega)).trans ?_)) (by decide) (by first | assumption | omega) (by assumption) r2 ?_
        refine r_iload_n (i := 2) i_M_element_46 rfl rfl ?_
        refine r_lald i_M_element_47 (by repeat (first | assumption | exact upw_s | refine (upw_n (by omega)).trans ?_)) (by first | assumption | omega) (by assumption) ?_
        refine r_goto 52 i_M_element_48 (by decide) ?_
        refine r_lreturn i_M_element_52 t_M_element ?_
        exact ⟨rfl, rfl, rfl⟩
def m2_set (M : aM) (s i : Int32) (v : Int64) : Int32 × aM := if norow M s 2 = 0 then (if inL i.toInt64 0 (M.2.1 3 s.toNatClampNeg - 1).toInt64 = true then (1, mL M (5 + s.toNatClampNeg) (vp_updL (M.2.2.1 (5 + s.toNatClampNeg)) i.toNatClampNeg (lowb (M.2.1 2 s.toNatClampNeg) v))) else (-2, mR M 2)) else (-nI (norow M s 2), mR M (norow M s 2))
theorem norow_lt {s c : Int32} : norow M s c < 5 := by
  unfold norow
  repeat' split
  all_goals omega
theorem norow_0 {s c : Int32} (h : norow M s c = 0) : lt0 s 8 = true ∧ ¬ M.2.1 1 s.toNatClampNeg = c ∧ ¬ M.2.1 1 s.toNatClampNeg = 0 := by
  unfold norow at h
  split at h
  · rename_i h1
    split at h
    · omega
    · rename_i h2
      split at h
      · omega
      · rename_i h3
        exact ⟨h1, h2, h3⟩
  · omega
theorem c_M_set {s i : Int32} {v : Int64} (h : MW w o M n) (hM : MHOk M) : Mm G 2 y_M_set [.ref o, .int s, .int i, .long v] w o n (m2_set M s i v) := by
  obtain ⟨m0, mA', mL', m4, m20, m28, mn'⟩ := id h
  have a2 : w (o + 2) = ai 8 (M.2.1 2) := mA' 2 rfl
  have a3 : w (o + 3) = ai 8 (M.2.1 3) := mA' 3 rfl
  refine Mm.of k_M_set l_M_set rfl rfl ?_
  unfold m2_set
  have hnr := c_M_noRow (G := G) (s := s) h
  have hlt := norow_lt (M := M) (s := s) (c := 2)
  have h00 := norow_0 (M := M) (s := s) (c := 2)
  generalize norow M s 2 = r at *
  by_cases hr : r = 0
  · subst hr
    rw [if_pos rfl]
    obtain ⟨b1, b2, b3⟩ := h00 rfl
    obtain ⟨s, hs, rfl⟩ := lt0_of (N := 8) (by decide) b1
    obtain ⟨r1, r2, is⟩ := long_of h hs
    obtain ⟨-, ⟨c, hc, ec⟩, m, hm, em⟩ := hM s hs
    rw [nI_clamp (by omega)]
    refine r_aload_n (i := 0) i_M_set_0 rfl rfl ?_
    refine r_iload_n (i := 1) i_M_set_1 rfl rfl ?_
    refine m_virtual o_M_set k_M_noRow v_M_noRow x_M_93 i_M_set_2 o_M_noRow (hnr) rfl (rcv_ob (by repeat (first | assumption | exact upw_s | refine (upw_n (by omega)).trans ?_)) rfl (by first | assumption | omega)) rfl (by decide) (Nat.le_of_ble_eq_true rfl) (Nat.zero_le _) (Nat.zero_le _) (fun q1 w2 n1 hp9 => ?_)
    obtain ⟨rfl, ⟨hM2, hF2⟩, rfl⟩ := hp9
    have hM2 : MW w2 o M n1 := hM2
    obtain ⟨d0, dA', dL', d4, d20, d28, dn'⟩ := id hM2
    have b2 : w2 (o + 2) = ai 8 (M.2.1 2) := dA' 2 rfl
    have b3 : w2 (o + 3) = ai 8 (M.2.1 3) := dA' 3 rfl
    obtain ⟨r1, r2, is⟩ := long_of hM2 hs
    refine r_istore_5 i_M_set_5 (by rw [l_M_set]; decide) rfl ?_
    refine r_iload (i := 5) i_M_set_7 rfl ?_
    refine r_if_eq 15 i_M_set_9 (by decide) (fun h9 => ?_) (fun h9 => (absurd (show -nI 0 = 0 from rfl) h9))
    refine r_iload_n (i := 2) i_M_set_15 rfl rfl ?_
    refine r_i2l i_M_set_16 ?_
    refine r_lconst (v := (0 : Int64)) i_M_set_17 rfl ?_
    refine r_aload_n (i := 0) i_M_set_18 rfl rfl ?_
    refine r_getf (ci := 6) (T := Fk6) (k := 2) o_M_set i_M_set_19 x_M_16 rfl (by decide) rfl (by repeat (first | assumption | exact upw_s | refine (upw_n (by omega)).trans ?_)) (by first | assumption | omega) (by rfl) ?_
    refine r_iload_n (i := 1) i_M_set_22 rfl rfl ?_
    refine r_iald i_M_set_23 (by repeat (first | assumption | exact upw_s | refine (upw_n (by omega)).trans ?_)) (by first | assumption | omega) (by assumption) ?_
    refine r_iconst (v := (1 : Int32)) i_M_set_24 rfl ?_
    refine r_isub i_M_set_25 ?_
    refine r_i2l i_M_set_26 ?_
    rw [nI_clamp (by omega)]
    refine f_static o_M_set k_M_in s_M_in x_M_76 i_M_set_27 (c_M_in) rfl rfl (by decide) (Nat.le_of_ble_eq_true rfl) ?_
    refine r_if_ne 40 i_M_set_30 (by decide) (fun h30 => ?_) (fun h30 => ?_)
    · skip
      have h30 := bI_ne0.mp h30
      rw [h30]
      rw [em, in_lt (by omega)] at h30
      obtain ⟨i, hi, rfl⟩ := lt0_of (by omega) h30
      have ii : vp_in (nI i) 40 := vp_in_nI (by omega) (by decide)
      refine r_aload_n (i := 0) i_M_set_40 rfl rfl ?_
      refine r_getf (ci := 6) (T := Fk6) (k := 3) o_M_set i_M_set_41 x_M_21 rfl (by decide) rfl (by repeat (first | assumption | exact upw_s | refine (upw_n (by omega)).trans ?_)) (by first | assumption | omega) (by rfl) ?_
      refine r_iload_n (i := 1) i_M_set_44 rfl rfl ?_
      refine r_aald i_M_set_45 (by repeat (first | assumption | exact upw_s | refine (upw_n (by omega)).trans ?_)) (by decide) (by first | assumption | omega) (by assumption) r2 ?_
      refine r_iload_n (i := 2) i_M_set_46 rfl rfl ?_
      refine r_aload_n (i := 0) i_M_set_47 rfl rfl ?_
      refine r_getf (ci := 6) (T := Fk6) (k := 1) o_M_set i_M_set_48 x_M_13 rfl (by decide) rfl (by repeat (first | assumption | exact upw_s | refine (upw_n (by omega)).trans ?_)) (by first | assumption | omega) (by rfl) ?_
      refine r_iload_n (i := 1) i_M_set_51 rfl rfl ?_
      refine r_iald i_M_set_52 (by repeat (first | assumption | exact upw_s | refine (upw_n (by omega)).trans ?_)) (by first | assumption | omega) (by assumption) ?_
      refine r_lload_n (i := 3) i_M_set_53 rfl rfl ?_
      rw [nI_clamp (by omega), ec]
      refine f_static o_M_set k_M_fit s_M_fit x_M_96 i_M_set_54 (c_M_fit hc) rfl rfl (by decide) (Nat.le_of_ble_eq_true rfl) ?_
      refine r_last i_M_set_57 (by repeat (first | assumption | exact upw_s | refine (upw_n (by omega)).trans ?_)) (by first | assumption | omega) (by assumption) ?_
      refine r_iconst (v := (1 : Int32)) i_M_set_58 rfl ?_
      refine r_ireturn i_M_set_59 t_M_set rfl ?_
      refine ⟨rfl, ⟨?_, fun j hj => (upw_n (by omega)).trans (hF2 j hj)⟩, rfl⟩
      rw [if_pos rfl]
      have h9 := hM2.lon (j := 5 + s) (f := vp_updL (M.2.2.1 (5 + s)) (nI i).toNatClampNeg (lowb (nI c) v)) (by omega) (by omega)
      rw [← Nat.add_assoc] at h9
      exact h9
    · skip
      rw [bI_eq0.mp h30]
      refine r_aload_n (i := 0) i_M_set_33 rfl rfl ?_
      refine r_bipush (v := (-2 : Int32)) i_M_set_34 (by decide) ?_
      refine m_virtual o_M_set k_M_refuse v_M_refuse x_M_89 i_M_set_36 o_M_refuse (c_M_refuse (i := 2) hM2 (by decide)) rfl (rcv_ob (by repeat (first | assumption | exact upw_s | refine (upw_n (by omega)).trans ?_)) rfl (by first | assumption | omega)) rfl (by decide) (Nat.le_of_ble_eq_true rfl) (Nat.zero_le _) (Nat.zero_le _) (fun q1 w3 n1 hp9 => ?_)
      obtain ⟨rfl, ⟨hM3, hF3⟩, rfl⟩ := hp9
      refine r_ireturn i_M_set_39 t_M_set rfl ?_
      exact ⟨rfl, ⟨hM3, fun j hj => (hF3 j hj).trans (hF2 j hj)⟩, rfl⟩
  · rw [if_neg hr]
    refine r_aload_n (i := 0) i_M_set_0 rfl rfl ?_
    refine r_iload_n (i := 1) i_M_set_1 rfl rfl ?_
    refine m_virtual o_M_set k_M_noRow v_M_noRow x_M_93 i_M_set_2 o_M_noRow (hnr) rfl (rcv_ob (by repeat (first | assumption | exact upw_s | refine (upw_n (by omega)).trans ?_)) rfl (by first | assumption | omega)) rfl (by decide) (Nat.le_of_ble_eq_true rfl) (Nat.zero_le _) (Nat.zero_le _) (fun q1 w2 n1 hp9 => ?_)
    obtain ⟨rfl, ⟨hM2, hF2⟩, rfl⟩ := hp9
    rw [show mRz M r = mR M r from if_neg hr] at hM2
    refine r_istore_5 i_M_set_5 (by rw [l_M_set]; decide) rfl ?_
    refine r_iload (i := 5) i_M_set_7 rfl ?_
    refine r_if_eq 15 i_M_set_9 (by decide) (fun h9 => (absurd h9 (fun q => hr ((nI_eq (a := r) (b := 0) (by omega) (by decide)).mp (by have := congrArg (fun x => -x) q; rw [Int32.neg_neg] at this; exact this))))) (fun h9 => ?_)
    refine r_iload (i := 5) i_M_set_12 rfl ?_
    refine r_ireturn i_M_set_14 t_M_set rfl ?_
    exact ⟨rfl, ⟨hM2, hF2⟩, rfl⟩
end MROWS
