-- THE REFERENCE: rows of the shelves, one, bargain, bars, ask
theorem mA_A {M : aM} {j : Nat} {f g : Nat → Int32} : mA (mA M j f) j g = mA M j g := by
  unfold mA
  refine congrArg (fun z => (M.1, z, M.2.2)) (funext fun q => ?_)
  by_cases e : q = j
  · rw [if_pos e, if_pos e]
  · rw [if_neg e, if_neg e]
    exact if_neg e
theorem mL_L {M : aM} {j : Nat} {f g : Nat → Int64} : mL (mL M j f) j g = mL M j g := by
  unfold mL
  refine congrArg (fun z => (M.1, M.2.1, z, M.2.2.2)) (funext fun q => ?_)
  by_cases e : q = j
  · rw [if_pos e, if_pos e]
  · rw [if_neg e, if_neg e]
    exact if_neg e
theorem lenM5 {b : Nat} (hb : b < 7) : lenM (21 + b) = 5 := by
  unfold lenM
  rw [if_neg (by omega), if_neg (by omega), if_neg (by omega), if_neg (by omega), if_neg (by omega), if_pos (by omega)]
theorem lenM7 {b : Nat} (hb : b < 7) : lenM (29 + b) = 7 := by
  unfold lenM
  rw [if_neg (by omega), if_neg (by omega), if_neg (by omega), if_neg (by omega), if_neg (by omega), if_neg (by omega), if_pos (by omega)]
theorem isI5 {b : Nat} (hb : b < 7) : isI (21 + b) = true := by
  unfold isI
  simp only [Bool.and_eq_true, decide_eq_true_eq, Bool.not_eq_true', decide_eq_false_iff_not]
  omega
theorem isI7 {b : Nat} (hb : b < 7) : isI (29 + b) = true := by
  unfold isI
  simp only [Bool.and_eq_true, decide_eq_true_eq, Bool.not_eq_true', decide_eq_false_iff_not]
  omega
section MTOW2
variable {G : gE} {w : aW} {o n : Nat} {M : aM}
theorem MW.rof {b : Nat} {f : Nat → Int32} (h : MW w o M n) (hb : b < 7) : MW (upw w (o + 21 + b) (ai 5 f)) o (mA M (21 + b) f) n := by
  have h9 := h.arr (j := 21 + b) (f := f) (isI5 hb)
  rw [lenM5 hb, ← Nat.add_assoc] at h9
  exact h9
theorem MW.rlo {b : Nat} {f : Nat → Int32} (h : MW w o M n) (hb : b < 7) : MW (upw w (o + 29 + b) (ai 7 f)) o (mA M (29 + b) f) n := by
  have h9 := h.arr (j := 29 + b) (f := f) (isI7 hb)
  rw [lenM7 hb, ← Nat.add_assoc] at h9
  exact h9
theorem MW.rro {s : Nat} {f : Nat → Int64} (h : MW w o M n) (hs : s < 8) : MW (upw w (o + 5 + s) (al 40 f)) o (mL M (5 + s) f) n := by
  have h9 := h.lon (j := 5 + s) (f := f) (by omega) (by omega)
  rw [← Nat.add_assoc] at h9
  exact h9
theorem mFr.up {w1 : aW} {j : Nat} {c : aC} (hF : mFr w w1 o) (h1 : o ≤ j) (h2 : j ≤ o + 40) : mFr w (upw w1 j c) o := fun q hq => (upw_n (by omega)).trans (hF q hq)
theorem mFr.rf : mFr w w o := fun _ _ => rfl
theorem mFr.tr {w1 w2 : aW} (h1 : mFr w w1 o) (h2 : mFr w1 w2 o) : mFr w w2 o := fun j hj => (h2 j hj).trans (h1 j hj)
theorem mA_self {j : Nat} {f : Nat → Int32} (e : f = M.2.1 j) : mA M j f = M := by
  subst e
  unfold mA
  refine Prod.ext rfl (Prod.ext (funext fun q => ?_) rfl)
  show (if q = j then M.2.1 j else M.2.1 q) = M.2.1 q
  by_cases e : q = j
  · rw [if_pos e, e]
  · rw [if_neg e]
theorem mL_self {j : Nat} {f : Nat → Int64} (e : f = M.2.2.1 j) : mL M j f = M := by
  subst e
  unfold mL
  refine Prod.ext rfl (Prod.ext rfl (Prod.ext (funext fun q => ?_) rfl))
  show (if q = j then M.2.2.1 j else M.2.2.1 q) = M.2.2.1 q
  by_cases e : q = j
  · rw [if_pos e, e]
  · rw [if_neg e]
def rwM (M : aM) (s : Nat) (c m : Int32) : aM := mA (mA (mA M 1 (upd (M.2.1 1) s 1)) 2 (upd (M.2.1 2) s c)) 3 (upd (M.2.1 3) s m)
def zrL (f : Nat → Int64) (k : Nat) : Nat → Int64 := fun j => if j < k then 0 else f j
def m2_row (M : aM) (s c m : Int32) : Int32 × aM := if (lt0 s 8 && (lt0 c 5 && wi0 m 0 40)) = true then (1, mL (rwM M s.toNatClampNeg c m) (5 + s.toNatClampNeg) (zrL (M.2.2.1 (5 + s.toNatClampNeg)) 40)) else (-2, mR M 2)
theorem zrL_s {f : Nat → Int64} {k : Nat} : vp_updL (zrL f k) k 0 = zrL f (k + 1) := by
  funext j
  unfold vp_updL zrL
  by_cases e : j = k
  · rw [if_pos e, if_pos (by omega)]
  · rw [if_neg e]
    by_cases e2 : j < k
    · rw [if_pos e2, if_pos (by omega)]
    · rw [if_neg e2, if_neg (by omega)]
theorem c_M_row {s c m : Int32} (h : MW w o M n) : Mm G 1 y_M_row [.ref o, .int s, .int c, .int m] w o n (m2_row M s c m) := by
  obtain ⟨m0, mA', mL', m4, m20, m28, mn'⟩ := id h
  have a1 : w (o + 1) = ai 8 (M.2.1 1) := mA' 1 rfl
  have a2 : w (o + 2) = ai 8 (M.2.1 2) := mA' 2 rfl
  have a3 : w (o + 3) = ai 8 (M.2.1 3) := mA' 3 rfl
  refine Mm.of k_M_row l_M_row rfl rfl ?_
  unfold m2_row
  have hloop : ∀ (s : Nat), s < 8 → ∀ (N : aM) (g : Nat → Int64), ∀ r k, k + r = 40 → ∀ w1, MW w1 o (mL N (5 + s) (zrL g k)) n → mFr w w1 o → Go G 1 y_M_row 67 [some (.ref o), some (.int (nI s)), some (.int c), some (.int m), some (.int (nI k))] [] w1 n 0 0 (fun r w' n' => r = some (.int 1) ∧ (MW w' o (mL N (5 + s) (zrL g 40)) n ∧ mFr w w' o) ∧ n' = n) := by
    intro s hs N g r
    induction r with
    | zero =>
      intro k hk w1 h1 hF
      have hk : k = 40 := by omega
      subst hk
      refine r_iload (i := 4) i_M_row_67 rfl ?_
      refine r_bipush (v := (40 : Int32)) i_M_row_69 (by decide) ?_
      refine r_icmp_ge 90 i_M_row_71 (by decide) (fun h71 => ?_) (fun h71 => (absurd (by decide) h71))
      refine r_iconst (v := (1 : Int32)) i_M_row_90 rfl ?_
      refine r_ireturn i_M_row_91 t_M_row rfl ?_
      exact ⟨rfl, ⟨h1, hF⟩, rfl⟩
    | succ r ih =>
      intro k hk w1 h1 hF
      have e9 : mL (mL N (5 + s) (zrL g k)) (5 + s) (zrL g (k + 1)) = mL N (5 + s) (zrL g (k + 1)) := mL_L
      obtain ⟨r1, r2, is⟩ := long_of h1 hs
      have e8 : (mL N (5 + s) (zrL g k)).2.2.1 (5 + s) = zrL g k := if_pos rfl
      rw [e8] at r1
      have h2 := fun f => h1.rro (f := f) hs
      generalize mL N (5 + s) (zrL g k) = N1 at *
      obtain ⟨m0, mA', mL', m4, m20, m28, mn'⟩ := id h1
      have ik : vp_in (nI k) 40 := vp_in_nI (by omega) (by decide)
      refine r_iload (i := 4) i_M_row_67 rfl ?_
      refine r_bipush (v := (40 : Int32)) i_M_row_69 (by decide) ?_
      refine r_icmp_ge 90 i_M_row_71 (by decide) (fun h71 => (absurd h71 (nI_ge (b := 40) (by omega) (by decide)))) (fun h71 => ?_)
      refine r_aload_n (i := 0) i_M_row_74 rfl rfl ?_
      refine r_getf (ci := 6) (T := Fk6) (k := 3) o_M_row i_M_row_75 x_M_21 rfl (by decide) rfl (by repeat (first | assumption | exact upw_s | refine (upw_n (by omega)).trans ?_)) (by first | assumption | omega) (by rfl) ?_
      refine r_iload_n (i := 1) i_M_row_78 rfl rfl ?_
      refine r_aald i_M_row_79 (by repeat (first | assumption | exact upw_s | refine (upw_n (by omega)).trans ?_)) (by decide) (by first | assumption | omega) (by assumption) r2 ?_
      refine r_iload (i := 4) i_M_row_80 rfl ?_
      refine r_lconst (v := (0 : Int64)) i_M_row_82 rfl ?_
      refine r_last i_M_row_83 (by repeat (first | assumption | exact upw_s | refine (upw_n (by omega)).trans ?_)) (by first | assumption | omega) (by assumption) ?_
      refine r_iinc_4 (v := (1 : Int32)) i_M_row_84 rfl (by rw [l_M_row]; decide) rfl ?_
      refine r_goto 67 i_M_row_87 (by decide) ?_
      rw [nI_1, nI_clamp (by omega), zrL_s]
      refine ih (k + 1) (by omega) _ ?_ (hF.up (by omega) (by omega))
      rw [← e9]
      exact h2 _
  refine r_iload_n (i := 1) i_M_row_0 rfl rfl ?_
  refine r_i2l i_M_row_1 ?_
  refine r_lconst (v := (0 : Int64)) i_M_row_2 rfl ?_
  refine r_ldc2 o_M_row i_M_row_3 x_M_83 ?_
  refine f_static o_M_row k_M_in s_M_in x_M_76 i_M_row_6 (c_M_in) rfl rfl (by decide) (Nat.le_of_ble_eq_true rfl) ?_
  rw [in_07]
  refine r_if_eq 36 i_M_row_9 (by decide) (fun h9 => ?_) (fun h9 => ?_)
  · skip
    have h9 := bI_eq0.mp h9
    try rw [h9]
    refine r_aload_n (i := 0) i_M_row_36 rfl rfl ?_
    refine r_bipush (v := (-2 : Int32)) i_M_row_37 (by decide) ?_
    refine m_virtual o_M_row k_M_refuse v_M_refuse x_M_89 i_M_row_39 o_M_refuse (c_M_refuse (i := 2) h (by decide)) rfl (rcv_ob (by repeat (first | assumption | exact upw_s | refine (upw_n (by omega)).trans ?_)) rfl (by first | assumption | omega)) rfl (by decide) (Nat.le_of_ble_eq_true rfl) (Nat.zero_le _) (Nat.zero_le _) (fun rr39 wr39 nr39 hp9 => ?_)
    obtain ⟨rfl, hp9, rfl⟩ := hp9
    refine r_ireturn i_M_row_42 t_M_row rfl ?_
    first | exact ⟨rfl, hp9, rfl⟩ | exact ⟨rfl, ⟨h, fun _ _ => rfl⟩, rfl⟩
  · skip
    have h9 := bI_ne0.mp h9
    try rw [h9]
    refine r_iload_n (i := 2) i_M_row_12 rfl rfl ?_
    refine r_i2l i_M_row_13 ?_
    refine r_lconst (v := (0 : Int64)) i_M_row_14 rfl ?_
    refine r_ldc2 o_M_row i_M_row_15 x_M_85 ?_
    refine f_static o_M_row k_M_in s_M_in x_M_76 i_M_row_18 (c_M_in) rfl rfl (by decide) (Nat.le_of_ble_eq_true rfl) ?_
    rw [in_04]
    refine r_if_eq 36 i_M_row_21 (by decide) (fun h21 => ?_) (fun h21 => ?_)
    · skip
      have h21 := bI_eq0.mp h21
      try rw [h21]
      refine r_aload_n (i := 0) i_M_row_36 rfl rfl ?_
      refine r_bipush (v := (-2 : Int32)) i_M_row_37 (by decide) ?_
      refine m_virtual o_M_row k_M_refuse v_M_refuse x_M_89 i_M_row_39 o_M_refuse (c_M_refuse (i := 2) h (by decide)) rfl (rcv_ob (by repeat (first | assumption | exact upw_s | refine (upw_n (by omega)).trans ?_)) rfl (by first | assumption | omega)) rfl (by decide) (Nat.le_of_ble_eq_true rfl) (Nat.zero_le _) (Nat.zero_le _) (fun rr39 wr39 nr39 hp9 => ?_)
      obtain ⟨rfl, hp9, rfl⟩ := hp9
      refine r_ireturn i_M_row_42 t_M_row rfl ?_
      first | exact ⟨rfl, hp9, rfl⟩ | exact ⟨rfl, ⟨h, fun _ _ => rfl⟩, rfl⟩
    · skip
      have h21 := bI_ne0.mp h21
      try rw [h21]
      refine r_iload_n (i := 3) i_M_row_24 rfl rfl ?_
      refine r_i2l i_M_row_25 ?_
      refine r_lconst (v := (0 : Int64)) i_M_row_26 rfl ?_
      refine r_ldc2 o_M_row i_M_row_27 x_M_87 ?_
      refine f_static o_M_row k_M_in s_M_in x_M_76 i_M_row_30 (c_M_in) rfl rfl (by decide) (Nat.le_of_ble_eq_true rfl) ?_
      rw [in_040]
      refine r_if_ne 43 i_M_row_33 (by decide) (fun h33 => ?_) (fun h33 => ?_)
      · skip
        have h33 := bI_ne0.mp h33
        try rw [h33]
        obtain ⟨s, hs, rfl⟩ := lt0_of (N := 8) (by decide) h9
        have is : vp_in (nI s) 8 := vp_in_nI hs (by decide)
        rw [nI_clamp (by omega)]
        refine r_aload_n (i := 0) i_M_row_43 rfl rfl ?_
        refine r_getf (ci := 6) (T := Fk6) (k := 0) o_M_row i_M_row_44 x_M_7 rfl (by decide) rfl (by repeat (first | assumption | exact upw_s | refine (upw_n (by omega)).trans ?_)) (by first | assumption | omega) (by rfl) ?_
        refine r_iload_n (i := 1) i_M_row_47 rfl rfl ?_
        refine r_iconst (v := (1 : Int32)) i_M_row_48 rfl ?_
        refine r_iast i_M_row_49 (by repeat (first | assumption | exact upw_s | refine (upw_n (by omega)).trans ?_)) (by first | assumption | omega) (by assumption) ?_
        refine r_aload_n (i := 0) i_M_row_50 rfl rfl ?_
        refine r_getf (ci := 6) (T := Fk6) (k := 1) o_M_row i_M_row_51 x_M_13 rfl (by decide) rfl (by repeat (first | assumption | exact upw_s | refine (upw_n (by omega)).trans ?_)) (by first | assumption | omega) (by rfl) ?_
        refine r_iload_n (i := 1) i_M_row_54 rfl rfl ?_
        refine r_iload_n (i := 2) i_M_row_55 rfl rfl ?_
        refine r_iast i_M_row_56 (by repeat (first | assumption | exact upw_s | refine (upw_n (by omega)).trans ?_)) (by first | assumption | omega) (by assumption) ?_
        refine r_aload_n (i := 0) i_M_row_57 rfl rfl ?_
        refine r_getf (ci := 6) (T := Fk6) (k := 2) o_M_row i_M_row_58 x_M_16 rfl (by decide) rfl (by repeat (first | assumption | exact upw_s | refine (upw_n (by omega)).trans ?_)) (by first | assumption | omega) (by rfl) ?_
        refine r_iload_n (i := 1) i_M_row_61 rfl rfl ?_
        refine r_iload_n (i := 3) i_M_row_62 rfl rfl ?_
        refine r_iast i_M_row_63 (by repeat (first | assumption | exact upw_s | refine (upw_n (by omega)).trans ?_)) (by first | assumption | omega) (by assumption) ?_
        refine r_iconst (v := (0 : Int32)) i_M_row_64 rfl ?_
        refine r_istore_4 i_M_row_65 (by rw [l_M_row]; decide) rfl ?_
        refine (hloop s hs (rwM M s c m) (M.2.2.1 (5 + s)) 40 0 (by omega) _ ?_ (((mFr.rf.up (by omega) (by omega)).up (by omega) (by omega)).up (by omega) (by omega)))
        have h9 := ((h.arr (j := 1) (f := upd (M.2.1 1) s 1) rfl).arr (j := 2) (f := upd (M.2.1 2) s c) rfl).arr (j := 3) (f := upd (M.2.1 3) s m) rfl
        rw [mL_self (by unfold zrL; funext j; rfl)]
        rw [nI_clamp (by omega)]
        exact h9
      · skip
        have h33 := bI_eq0.mp h33
        try rw [h33]
        refine r_aload_n (i := 0) i_M_row_36 rfl rfl ?_
        refine r_bipush (v := (-2 : Int32)) i_M_row_37 (by decide) ?_
        refine m_virtual o_M_row k_M_refuse v_M_refuse x_M_89 i_M_row_39 o_M_refuse (c_M_refuse (i := 2) h (by decide)) rfl (rcv_ob (by repeat (first | assumption | exact upw_s | refine (upw_n (by omega)).trans ?_)) rfl (by first | assumption | omega)) rfl (by decide) (Nat.le_of_ble_eq_true rfl) (Nat.zero_le _) (Nat.zero_le _) (fun rr39 wr39 nr39 hp9 => ?_)
        obtain ⟨rfl, hp9, rfl⟩ := hp9
        refine r_ireturn i_M_row_42 t_M_row rfl ?_
        first | exact ⟨rfl, hp9, rfl⟩ | exact ⟨rfl, ⟨h, fun _ _ => rfl⟩, rfl⟩
end MTOW2
