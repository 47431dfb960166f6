-- THE REFERENCE: one, bargain, bars, ask, bargainOf
theorem in_01 {v : Int32} : inL v.toInt64 0 1 = lt0 v 2 := in_lt (N := 2) (by decide)
theorem in_02 {v : Int32} : inL v.toInt64 0 2 = lt0 v 3 := in_lt (N := 3) (by decide)
theorem in_06 {v : Int32} : inL v.toInt64 0 6 = wi0 v 0 6 := in_wi (lo := 0) (hi := 6)
theorem in_199 {v : Int32} : inL v.toInt64 1 99 = wi0 v 1 99 := in_wi (lo := 1) (hi := 99)
theorem in_130 {v : Int32} : inL v.toInt64 1 30 = wi0 v 1 30 := in_wi (lo := 1) (hi := 30)
theorem in_47 {v : Int32} : inL v.toInt64 4 7 = wi0 v 4 7 := in_wi (lo := 4) (hi := 7)
theorem in_1216 {v : Int32} : inL v.toInt64 12 16 = wi0 v 12 16 := in_wi (lo := 12) (hi := 16)
section MTOW3
variable {G : gE} {w : aW} {o n : Nat} {M : aM}
def lz1 (M : aM) (t k : Nat) : aM := (M.1, fun j => if 29 ≤ j ∧ j < 29 + k then upd (M.2.1 j) t 0 else M.2.1 j, M.2.2)
theorem lz1_0 {t : Nat} : lz1 M t 0 = M := by
  refine Prod.ext rfl (Prod.ext (funext fun j => ?_) rfl)
  exact if_neg (by omega)
theorem lz1_s {t k : Nat} : mA (lz1 M t k) (29 + k) (upd ((lz1 M t k).2.1 (29 + k)) t 0) = lz1 M t (k + 1) := by
  refine Prod.ext rfl (Prod.ext (funext fun j => ?_) rfl)
  show (if j = 29 + k then upd (if 29 ≤ 29 + k ∧ 29 + k < 29 + k then upd (M.2.1 (29 + k)) t 0 else M.2.1 (29 + k)) t 0 else if 29 ≤ j ∧ j < 29 + k then upd (M.2.1 j) t 0 else M.2.1 j) = if 29 ≤ j ∧ j < 29 + (k + 1) then upd (M.2.1 j) t 0 else M.2.1 j
  rw [if_neg (show ¬ (29 ≤ 29 + k ∧ 29 + k < 29 + k) by omega)]
  by_cases e : j = 29 + k
  · subst e
    rw [if_pos rfl, if_pos (by omega)]
  · rw [if_neg e]
    by_cases e2 : 29 ≤ j ∧ j < 29 + k
    · rw [if_pos e2, if_pos (by omega)]
    · rw [if_neg e2, if_neg (by omega)]
def oneM (M : aM) (P : Nat) : aM := mS (lz1 (mA (mA M 18 (upd (M.2.1 18) P 0)) 19 (upd (M.2.1 19) P 0)) P 7) 10 (nI P + 1)
def m2_one (M : aM) (P : Nat) : Int32 × aM := if P = 7 then (-6, mR M 6) else (nI P, oneM M P)
theorem c_M_one {P : Nat} (h : MW w o M n) (hP : M.1 10 = nI P) (hP7 : P ≤ 7) : Mm G 1 y_M_one [.ref o] w o n (m2_one M P) := by
  obtain ⟨m0, mA', mL', m4, m20, m28, mn'⟩ := id h
  have a18 : w (o + 18) = ai 7 (M.2.1 18) := mA' 18 rfl
  have a19 : w (o + 19) = ai 7 (M.2.1 19) := mA' 19 rfl
  refine Mm.of k_M_one l_M_one rfl rfl ?_
  unfold m2_one
  have hloop : ∀ N : aM, N.1 10 = nI P → P < 7 → ∀ r k, k + r = 7 → ∀ w1, MW w1 o (lz1 N P k) n → mFr w w1 o → Go G 1 y_M_one 38 [some (.ref o), some (.int (nI k))] [] w1 n 0 0 (fun r w' n' => r = some (.int (nI P)) ∧ (MW w' o (mS (lz1 N P 7) 10 (nI P + 1)) n ∧ mFr w w' o) ∧ n' = n) := by
    intro N hN hP6 r
    induction r with
    | zero =>
      intro k hk w1 h1 hF
      have hk : k = 7 := by omega
      subst hk
      have hN1 : (lz1 N P 7).1 10 = nI P := hN
      generalize lz1 N P 7 = N1 at *
      obtain ⟨m0, mA', mL', m4, m20, m28, mn'⟩ := id h1
      refine r_iload_n (i := 1) i_M_one_38 rfl rfl ?_
      refine r_bipush (v := (7 : Int32)) i_M_one_39 (by decide) ?_
      refine r_icmp_ge 62 i_M_one_41 (by decide) (fun h41 => ?_) (fun h41 => (absurd (by decide) h41))
      refine r_aload_n (i := 0) i_M_one_62 rfl rfl ?_
      refine r_dup i_M_one_63 rfl ?_
      refine r_getf (ci := 6) (T := Fk6) (k := 10) o_M_one i_M_one_64 x_M_73 rfl (by decide) rfl (by repeat (first | assumption | exact upw_s | refine (upw_n (by omega)).trans ?_)) (by first | assumption | omega) (by rfl) ?_
      refine r_dup_x1 i_M_one_67 rfl rfl ?_
      refine r_iconst (v := (1 : Int32)) i_M_one_68 rfl ?_
      refine r_iadd i_M_one_69 ?_
      refine r_putf (ci := 6) (T := Fk6) (k := 10) o_M_one i_M_one_70 x_M_73 rfl (by decide) rfl rfl (ok6 10 (by decide)) rfl (by repeat (first | assumption | exact upw_s | refine (upw_n (by omega)).trans ?_)) (by first | assumption | omega) (by exact Nat.le_of_ble_eq_true rfl) ?_
      refine r_ireturn i_M_one_73 t_M_one rfl ?_
      rw [hN1]
      exact ⟨rfl, ⟨h1.obj (M' := mS N1 10 (nI P + 1)) rfl rfl, hF.up (by omega) (by omega)⟩, rfl⟩
    | succ r ih =>
      intro k hk w1 h1 hF
      have e9 := lz1_s (M := N) (t := P) (k := k)
      have hN1 : (lz1 N P k).1 10 = nI P := hN
      have ih' := ih (k + 1) (by omega)
      rw [← e9] at ih'
      generalize lz1 N P k = N1 at *
      obtain ⟨m0, mA', mL', m4, m20, m28, mn'⟩ := id h1
      obtain ⟨r1, r2, r3, r4, r5⟩ := row_of h1 (show k < 7 by omega)
      have iP : vp_in (nI P) 7 := vp_in_nI (by omega) (by decide)
      refine r_iload_n (i := 1) i_M_one_38 rfl rfl ?_
      refine r_bipush (v := (7 : Int32)) i_M_one_39 (by decide) ?_
      refine r_icmp_ge 62 i_M_one_41 (by decide) (fun h41 => (absurd h41 (nI_ge (b := 7) (by omega) (by decide)))) (fun h41 => ?_)
      refine r_aload_n (i := 0) i_M_one_44 rfl rfl ?_
      refine r_getf (ci := 6) (T := Fk6) (k := 15) o_M_one i_M_one_45 x_M_51 rfl (by decide) rfl (by repeat (first | assumption | exact upw_s | refine (upw_n (by omega)).trans ?_)) (by first | assumption | omega) (by rfl) ?_
      refine r_iload_n (i := 1) i_M_one_48 rfl rfl ?_
      refine r_aald i_M_one_49 (by repeat (first | assumption | exact upw_s | refine (upw_n (by omega)).trans ?_)) (by decide) (by first | assumption | omega) (by assumption) r4 ?_
      refine r_aload_n (i := 0) i_M_one_50 rfl rfl ?_
      refine r_getf (ci := 6) (T := Fk6) (k := 10) o_M_one i_M_one_51 x_M_73 rfl (by decide) rfl (by repeat (first | assumption | exact upw_s | refine (upw_n (by omega)).trans ?_)) (by first | assumption | omega) (by rfl) ?_
      refine r_iconst (v := (0 : Int32)) i_M_one_54 rfl ?_
      rw [hN1]
      refine r_iast i_M_one_55 (by repeat (first | assumption | exact upw_s | refine (upw_n (by omega)).trans ?_)) (by first | assumption | omega) (by assumption) ?_
      refine r_iinc_1 (v := (1 : Int32)) i_M_one_56 rfl (by rw [l_M_one]; decide) rfl ?_
      refine r_goto 38 i_M_one_59 (by decide) ?_
      rw [nI_1, nI_clamp (by omega)]
      exact ih' _ (h1.rlo (by omega)) (hF.up (by omega) (by omega))
  refine r_aload_n (i := 0) i_M_one_0 rfl rfl ?_
  refine r_getf (ci := 6) (T := Fk6) (k := 10) o_M_one i_M_one_1 x_M_73 rfl (by decide) rfl (by repeat (first | assumption | exact upw_s | refine (upw_n (by omega)).trans ?_)) (by first | assumption | omega) (by rfl) ?_
  refine r_bipush (v := (7 : Int32)) i_M_one_4 (by decide) ?_
  refine r_icmp_ne 16 i_M_one_6 (by decide) (fun h6 => ?_) (fun h6 => ?_)
  · skip
    have q6 : ¬ P = 7 := fun q => h6 (hP.trans (by rw [q]; rfl))
    rw [if_neg q6]
    have iP : vp_in (nI P) 7 := vp_in_nI (by omega) (by decide)
    refine r_aload_n (i := 0) i_M_one_16 rfl rfl ?_
    refine r_getf (ci := 6) (T := Fk6) (k := 11) o_M_one i_M_one_17 x_M_40 rfl (by decide) rfl (by repeat (first | assumption | exact upw_s | refine (upw_n (by omega)).trans ?_)) (by first | assumption | omega) (by rfl) ?_
    refine r_aload_n (i := 0) i_M_one_20 rfl rfl ?_
    refine r_getf (ci := 6) (T := Fk6) (k := 10) o_M_one i_M_one_21 x_M_73 rfl (by decide) rfl (by repeat (first | assumption | exact upw_s | refine (upw_n (by omega)).trans ?_)) (by first | assumption | omega) (by rfl) ?_
    refine r_iconst (v := (0 : Int32)) i_M_one_24 rfl ?_
    rw [hP]
    refine r_iast i_M_one_25 (by repeat (first | assumption | exact upw_s | refine (upw_n (by omega)).trans ?_)) (by first | assumption | omega) (by assumption) ?_
    refine r_aload_n (i := 0) i_M_one_26 rfl rfl ?_
    refine r_getf (ci := 6) (T := Fk6) (k := 12) o_M_one i_M_one_27 x_M_43 rfl (by decide) rfl (by repeat (first | assumption | exact upw_s | refine (upw_n (by omega)).trans ?_)) (by first | assumption | omega) (by rfl) ?_
    refine r_aload_n (i := 0) i_M_one_30 rfl rfl ?_
    refine r_getf (ci := 6) (T := Fk6) (k := 10) o_M_one i_M_one_31 x_M_73 rfl (by decide) rfl (by repeat (first | assumption | exact upw_s | refine (upw_n (by omega)).trans ?_)) (by first | assumption | omega) (by rfl) ?_
    refine r_iconst (v := (0 : Int32)) i_M_one_34 rfl ?_
    rw [hP]
    refine r_iast i_M_one_35 (by repeat (first | assumption | exact upw_s | refine (upw_n (by omega)).trans ?_)) (by first | assumption | omega) (by assumption) ?_
    refine r_iconst (v := (0 : Int32)) i_M_one_36 rfl ?_
    refine r_istore_1 i_M_one_37 (by rw [l_M_one]; decide) rfl ?_
    rw [nI_clamp (by omega)]
    refine hloop (mA (mA M 18 (upd (M.2.1 18) P 0)) 19 (upd (M.2.1 19) P 0)) hP (by omega) 7 0 (by omega) _ ?_ ((mFr.rf.up (by omega) (by omega)).up (by omega) (by omega))
    rw [lz1_0]
    exact (h.arr (j := 18) (f := upd (M.2.1 18) P 0) rfl).arr (j := 19) (f := upd (M.2.1 19) P 0) rfl
  · skip
    rw [if_pos (((nI_eq (a := P) (b := 7) (by omega) (by decide)).mp (hP.symm.trans h6)))]
    refine r_aload_n (i := 0) i_M_one_9 rfl rfl ?_
    refine r_bipush (v := (-6 : Int32)) i_M_one_10 (by decide) ?_
    refine m_virtual o_M_one k_M_refuse v_M_refuse x_M_89 i_M_one_12 o_M_refuse (c_M_refuse (i := 6) h (by decide)) rfl (rcv_ob (by repeat (first | assumption | exact upw_s | refine (upw_n (by omega)).trans ?_)) rfl (by first | assumption | omega)) rfl (by decide) (Nat.le_of_ble_eq_true rfl) (Nat.zero_le _) (Nat.zero_le _) (fun rr12 wr12 nr12 hp9 => ?_)
    obtain ⟨rfl, hp9, rfl⟩ := hp9
    refine r_ireturn i_M_one_15 t_M_one rfl ?_
    first | exact ⟨rfl, hp9, rfl⟩ | exact ⟨rfl, ⟨h, fun _ _ => rfl⟩, rfl⟩
def of5 (f : Nat → Int32) (p q g z : Int32) : Nat → Int32 := upd (upd (upd (upd (upd f 0 p) 1 q) 2 g) 3 z) 4 0
def zrI (f : Nat → Int32) (k : Nat) : Nat → Int32 := fun j => if j < k then 0 else f j
theorem zrI_s {f : Nat → Int32} {k : Nat} : upd (zrI f k) k 0 = zrI f (k + 1) := by
  funext j
  unfold upd zrI
  by_cases e : j = k
  · rw [if_pos e, if_pos (by omega)]
  · rw [if_neg e]
    by_cases e2 : j < k
    · rw [if_pos e2, if_pos (by omega)]
    · rw [if_neg e2, if_neg (by omega)]
def bgM (M : aM) (B : Nat) (p q g z : Int32) : aM := mS (mA (mA M (21 + B) (of5 (M.2.1 (21 + B)) p q g z)) (29 + B) (zrI (M.2.1 (29 + B)) 7)) 13 (nI B + 1)
def m2_bargain (M : aM) (B : Nat) (p q g z : Int32) : Int32 × aM := if (lt0 p (M.1 10) && (lt0 q (M.1 10) && (!decide (p = q) && (wi0 g 0 99 && wi0 z 0 99)))) = true then (if B = 7 then (-6, mR M 6) else (nI B, bgM M B p q g z)) else (-2, mR M 2)
theorem c_M_bargain {P B : Nat} {p q g z : Int32} (h : MW w o M n) (hP : M.1 10 = nI P) (hP7 : P ≤ 7) (hB : M.1 13 = nI B) (hB7 : B ≤ 7) : Mm G 2 y_M_bargain [.ref o, .int p, .int q, .int g, .int z] w o n (m2_bargain M B p q g z) := by
  obtain ⟨m0, mA', mL', m4, m20, m28, mn'⟩ := id h
  refine Mm.of k_M_bargain l_M_bargain rfl rfl ?_
  unfold m2_bargain
  have hloop : ∀ (N : aM) (f : Nat → Int32) (x : Nat), N.1 13 = nI B → B < 7 → ∀ r k, k + r = 7 → ∀ w1, MW w1 o (mA N (29 + B) (zrI f k)) n → mFr w w1 o → Go G 2 y_M_bargain 111 [some (.ref o), some (.int p), some (.int q), some (.int g), some (.int z), some (.ref x), some (.int (nI k))] [] w1 n 0 0 (fun r w' n' => r = some (.int (nI B)) ∧ (MW w' o (mS (mA N (29 + B) (zrI f 7)) 13 (nI B + 1)) n ∧ mFr w w' o) ∧ n' = n) := by
    intro N f x hN hB6 r
    induction r with
    | zero =>
      intro k hk w1 h1 hF
      have hk : k = 7 := by omega
      subst hk
      have hN1 : (mA N (29 + B) (zrI f 7)).1 13 = nI B := hN
      generalize mA N (29 + B) (zrI f 7) = N1 at *
      obtain ⟨m0, mA', mL', m4, m20, m28, mn'⟩ := id h1
      refine r_iload (i := 6) i_M_bargain_111 rfl ?_
      refine r_bipush (v := (7 : Int32)) i_M_bargain_113 (by decide) ?_
      refine r_icmp_ge 137 i_M_bargain_115 (by decide) (fun h115 => ?_) (fun h115 => (absurd (by decide) h115))
      refine r_aload_n (i := 0) i_M_bargain_137 rfl rfl ?_
      refine r_dup i_M_bargain_138 rfl ?_
      refine r_getf (ci := 6) (T := Fk6) (k := 13) o_M_bargain i_M_bargain_139 x_M_80 rfl (by decide) rfl (by repeat (first | assumption | exact upw_s | refine (upw_n (by omega)).trans ?_)) (by first | assumption | omega) (by rfl) ?_
      refine r_dup_x1 i_M_bargain_142 rfl rfl ?_
      refine r_iconst (v := (1 : Int32)) i_M_bargain_143 rfl ?_
      refine r_iadd i_M_bargain_144 ?_
      refine r_putf (ci := 6) (T := Fk6) (k := 13) o_M_bargain i_M_bargain_145 x_M_80 rfl (by decide) rfl rfl (ok6 13 (by decide)) rfl (by repeat (first | assumption | exact upw_s | refine (upw_n (by omega)).trans ?_)) (by first | assumption | omega) (by exact Nat.le_of_ble_eq_true rfl) ?_
      refine r_ireturn i_M_bargain_148 t_M_bargain rfl ?_
      rw [hN1]
      exact ⟨rfl, ⟨h1.obj (M' := mS N1 13 (nI B + 1)) rfl rfl, hF.up (by omega) (by omega)⟩, rfl⟩
    | succ r ih =>
      intro k hk w1 h1 hF
      have e9 : mA (mA N (29 + B) (zrI f k)) (29 + B) (zrI f (k + 1)) = mA N (29 + B) (zrI f (k + 1)) := mA_A
      have hN1 : (mA N (29 + B) (zrI f k)).1 13 = nI B := hN
      have e8 : (mA N (29 + B) (zrI f k)).2.1 (29 + B) = zrI f k := if_pos rfl
      have ih' := ih (k + 1) (by omega)
      rw [← e9] at ih'
      generalize mA N (29 + B) (zrI f k) = N1 at *
      obtain ⟨m0, mA', mL', m4, m20, m28, mn'⟩ := id h1
      obtain ⟨r1, r2, r3, r4, r5⟩ := row_of h1 (show B < 7 by omega)
      rw [e8] at r2
      have ik : vp_in (nI k) 7 := vp_in_nI (by omega) (by decide)
      refine r_iload (i := 6) i_M_bargain_111 rfl ?_
      refine r_bipush (v := (7 : Int32)) i_M_bargain_113 (by decide) ?_
      refine r_icmp_ge 137 i_M_bargain_115 (by decide) (fun h115 => (absurd h115 (nI_ge (b := 7) (by omega) (by decide)))) (fun h115 => ?_)
      refine r_aload_n (i := 0) i_M_bargain_118 rfl rfl ?_
      refine r_getf (ci := 6) (T := Fk6) (k := 15) o_M_bargain i_M_bargain_119 x_M_51 rfl (by decide) rfl (by repeat (first | assumption | exact upw_s | refine (upw_n (by omega)).trans ?_)) (by first | assumption | omega) (by rfl) ?_
      refine r_aload_n (i := 0) i_M_bargain_122 rfl rfl ?_
      refine r_getf (ci := 6) (T := Fk6) (k := 13) o_M_bargain i_M_bargain_123 x_M_80 rfl (by decide) rfl (by repeat (first | assumption | exact upw_s | refine (upw_n (by omega)).trans ?_)) (by first | assumption | omega) (by rfl) ?_
      rw [hN1]
      refine r_aald i_M_bargain_126 (by repeat (first | assumption | exact upw_s | refine (upw_n (by omega)).trans ?_)) (by decide) (by first | assumption | omega) (by assumption) r4 ?_
      refine r_iload (i := 6) i_M_bargain_127 rfl ?_
      refine r_iconst (v := (0 : Int32)) i_M_bargain_129 rfl ?_
      refine r_iast i_M_bargain_130 (by repeat (first | assumption | exact upw_s | refine (upw_n (by omega)).trans ?_)) (by first | assumption | omega) (by assumption) ?_
      refine r_iinc_6 (v := (1 : Int32)) i_M_bargain_131 rfl (by rw [l_M_bargain]; decide) rfl ?_
      refine r_goto 111 i_M_bargain_134 (by decide) ?_
      rw [nI_1, nI_clamp (by omega), zrI_s]
      exact ih' _ (h1.rlo (by omega)) (hF.up (by omega) (by omega))
  have q45 : ∀ B6 : B < 7, Go G 2 y_M_bargain 71 [some (.ref o), some (.int p), some (.int q), some (.int g), some (.int z), none, none] [] w n 0 0 (fun r w' n' => r = some (.int (nI B)) ∧ (MW w' o (bgM M B p q g z) n ∧ mFr w w' o) ∧ n' = n) := by
    intro B6
    obtain ⟨r1, r2, r3, r4, r5⟩ := row_of h B6
    obtain ⟨i0, i1, i2, i3, i4⟩ := v5
    refine r_aload_n (i := 0) i_M_bargain_71 rfl rfl ?_
    refine r_getf (ci := 6) (T := Fk6) (k := 14) o_M_bargain i_M_bargain_72 x_M_48 rfl (by decide) rfl (by repeat (first | assumption | exact upw_s | refine (upw_n (by omega)).trans ?_)) (by first | assumption | omega) (by rfl) ?_
    refine r_aload_n (i := 0) i_M_bargain_75 rfl rfl ?_
    refine r_getf (ci := 6) (T := Fk6) (k := 13) o_M_bargain i_M_bargain_76 x_M_80 rfl (by decide) rfl (by repeat (first | assumption | exact upw_s | refine (upw_n (by omega)).trans ?_)) (by first | assumption | omega) (by rfl) ?_
    rw [hB]
    refine r_aald i_M_bargain_79 (by repeat (first | assumption | exact upw_s | refine (upw_n (by omega)).trans ?_)) (by decide) (by first | assumption | omega) (by assumption) r3 ?_
    refine r_astore_5 i_M_bargain_80 (by rw [l_M_bargain]; decide) rfl ?_
    refine r_aload (i := 5) i_M_bargain_82 rfl ?_
    refine r_iconst (v := (0 : Int32)) i_M_bargain_84 rfl ?_
    refine r_iload_n (i := 1) i_M_bargain_85 rfl rfl ?_
    refine r_iast i_M_bargain_86 (by repeat (first | assumption | exact upw_s | refine (upw_n (by omega)).trans ?_)) (by first | assumption | omega) (by assumption) ?_
    refine r_aload (i := 5) i_M_bargain_87 rfl ?_
    refine r_iconst (v := (1 : Int32)) i_M_bargain_89 rfl ?_
    refine r_iload_n (i := 2) i_M_bargain_90 rfl rfl ?_
    refine r_iast i_M_bargain_91 (by repeat (first | assumption | exact upw_s | refine (upw_n (by omega)).trans ?_)) (by first | assumption | omega) (by assumption) ?_
    refine r_aload (i := 5) i_M_bargain_92 rfl ?_
    refine r_iconst (v := (2 : Int32)) i_M_bargain_94 rfl ?_
    refine r_iload_n (i := 3) i_M_bargain_95 rfl rfl ?_
    refine r_iast i_M_bargain_96 (by repeat (first | assumption | exact upw_s | refine (upw_n (by omega)).trans ?_)) (by first | assumption | omega) (by assumption) ?_
    refine r_aload (i := 5) i_M_bargain_97 rfl ?_
    refine r_iconst (v := (3 : Int32)) i_M_bargain_99 rfl ?_
    refine r_iload (i := 4) i_M_bargain_100 rfl ?_
    refine r_iast i_M_bargain_102 (by repeat (first | assumption | exact upw_s | refine (upw_n (by omega)).trans ?_)) (by first | assumption | omega) (by assumption) ?_
    refine r_aload (i := 5) i_M_bargain_103 rfl ?_
    refine r_iconst (v := (4 : Int32)) i_M_bargain_105 rfl ?_
    refine r_iconst (v := (0 : Int32)) i_M_bargain_106 rfl ?_
    refine r_iast i_M_bargain_107 (by repeat (first | assumption | exact upw_s | refine (upw_n (by omega)).trans ?_)) (by first | assumption | omega) (by assumption) ?_
    refine r_iconst (v := (0 : Int32)) i_M_bargain_108 rfl ?_
    refine r_istore_6 i_M_bargain_109 (by rw [l_M_bargain]; decide) rfl ?_
    refine hloop (mA M (21 + B) (of5 (M.2.1 (21 + B)) p q g z)) (M.2.1 (29 + B)) _ hB B6 7 0 (by omega) _ ?_ (((((mFr.rf.up (by omega) (by omega)).up (by omega) (by omega)).up (by omega) (by omega)).up (by omega) (by omega)).up (by omega) (by omega))
    have e7 : mA (mA M (21 + B) (of5 (M.2.1 (21 + B)) p q g z)) (29 + B) (zrI (M.2.1 (29 + B)) 0) = mA M (21 + B) (of5 (M.2.1 (21 + B)) p q g z) := by
      refine mA_self ?_
      show zrI (M.2.1 (29 + B)) 0 = if 29 + B = 21 + B then _ else _
      rw [if_neg (by omega)]
      funext j
      exact if_neg (by omega)
    rw [e7]
    have h9 := ((((h.rof B6 (f := upd (M.2.1 (21 + B)) 0 p)).rof B6 (f := upd (upd (M.2.1 (21 + B)) 0 p) 1 q)).rof B6 (f := upd (upd (upd (M.2.1 (21 + B)) 0 p) 1 q) 2 g)).rof B6 (f := upd (upd (upd (upd (M.2.1 (21 + B)) 0 p) 1 q) 2 g) 3 z)).rof B6 (f := of5 (M.2.1 (21 + B)) p q g z)
    rw [mA_A, mA_A, mA_A, mA_A] at h9
    exact h9
  rw [hP]
  refine r_aload_n (i := 0) i_M_bargain_0 rfl rfl ?_
  refine r_iload_n (i := 1) i_M_bargain_1 rfl rfl ?_
  refine r_i2l i_M_bargain_2 ?_
  refine f_virtual o_M_bargain k_M_isOne v_M_isOne x_M_112 i_M_bargain_3 o_M_isOne (c_M_isOne h) rfl (rcv_ob (by repeat (first | assumption | exact upw_s | refine (upw_n (by omega)).trans ?_)) rfl (by first | assumption | omega)) rfl (by decide) (Nat.le_of_ble_eq_true rfl) ?_
  rw [hP, in_lt (by omega)]
  refine r_if_eq 48 i_M_bargain_6 (by decide) (fun h6 => ?_) (fun h6 => ?_)
  · skip
    have h6 := bI_eq0.mp h6
    try rw [h6]
    refine r_aload_n (i := 0) i_M_bargain_48 rfl rfl ?_
    refine r_bipush (v := (-2 : Int32)) i_M_bargain_49 (by decide) ?_
    refine m_virtual o_M_bargain k_M_refuse v_M_refuse x_M_89 i_M_bargain_51 o_M_refuse (c_M_refuse (i := 2) h (by decide)) rfl (rcv_ob (by repeat (first | assumption | exact upw_s | refine (upw_n (by omega)).trans ?_)) rfl (by first | assumption | omega)) rfl (by decide) (Nat.le_of_ble_eq_true rfl) (Nat.zero_le _) (Nat.zero_le _) (fun rr51 wr51 nr51 hp9 => ?_)
    obtain ⟨rfl, hp9, rfl⟩ := hp9
    refine r_ireturn i_M_bargain_54 t_M_bargain rfl ?_
    first | exact ⟨rfl, hp9, rfl⟩ | exact ⟨rfl, ⟨h, fun _ _ => rfl⟩, rfl⟩
  · skip
    have h6 := bI_ne0.mp h6
    try rw [h6]
    refine r_aload_n (i := 0) i_M_bargain_9 rfl rfl ?_
    refine r_iload_n (i := 2) i_M_bargain_10 rfl rfl ?_
    refine r_i2l i_M_bargain_11 ?_
    refine f_virtual o_M_bargain k_M_isOne v_M_isOne x_M_112 i_M_bargain_12 o_M_isOne (c_M_isOne h) rfl (rcv_ob (by repeat (first | assumption | exact upw_s | refine (upw_n (by omega)).trans ?_)) rfl (by first | assumption | omega)) rfl (by decide) (Nat.le_of_ble_eq_true rfl) ?_
    rw [hP, in_lt (by omega)]
    refine r_if_eq 48 i_M_bargain_15 (by decide) (fun h15 => ?_) (fun h15 => ?_)
    · skip
      have h15 := bI_eq0.mp h15
      try rw [h15]
      refine r_aload_n (i := 0) i_M_bargain_48 rfl rfl ?_
      refine r_bipush (v := (-2 : Int32)) i_M_bargain_49 (by decide) ?_
      refine m_virtual o_M_bargain k_M_refuse v_M_refuse x_M_89 i_M_bargain_51 o_M_refuse (c_M_refuse (i := 2) h (by decide)) rfl (rcv_ob (by repeat (first | assumption | exact upw_s | refine (upw_n (by omega)).trans ?_)) rfl (by first | assumption | omega)) rfl (by decide) (Nat.le_of_ble_eq_true rfl) (Nat.zero_le _) (Nat.zero_le _) (fun rr51 wr51 nr51 hp9 => ?_)
      obtain ⟨rfl, hp9, rfl⟩ := hp9
      refine r_ireturn i_M_bargain_54 t_M_bargain rfl ?_
      first | exact ⟨rfl, hp9, rfl⟩ | exact ⟨rfl, ⟨h, fun _ _ => rfl⟩, rfl⟩
    · skip
      have h15 := bI_ne0.mp h15
      try rw [h15]
      refine r_iload_n (i := 1) i_M_bargain_18 rfl rfl ?_
      refine r_iload_n (i := 2) i_M_bargain_19 rfl rfl ?_
      refine r_icmp_eq 48 i_M_bargain_20 (by decide) (fun h20 => ?_) (fun h20 => ?_)
      · skip
        rw [decide_eq_true h20]
        refine r_aload_n (i := 0) i_M_bargain_48 rfl rfl ?_
        refine r_bipush (v := (-2 : Int32)) i_M_bargain_49 (by decide) ?_
        refine m_virtual o_M_bargain k_M_refuse v_M_refuse x_M_89 i_M_bargain_51 o_M_refuse (c_M_refuse (i := 2) h (by decide)) rfl (rcv_ob (by repeat (first | assumption | exact upw_s | refine (upw_n (by omega)).trans ?_)) rfl (by first | assumption | omega)) rfl (by decide) (Nat.le_of_ble_eq_true rfl) (Nat.zero_le _) (Nat.zero_le _) (fun rr51 wr51 nr51 hp9 => ?_)
        obtain ⟨rfl, hp9, rfl⟩ := hp9
        refine r_ireturn i_M_bargain_54 t_M_bargain rfl ?_
        first | exact ⟨rfl, hp9, rfl⟩ | exact ⟨rfl, ⟨h, fun _ _ => rfl⟩, rfl⟩
      · skip
        rw [decide_eq_false h20]
        refine r_iload_n (i := 3) i_M_bargain_23 rfl rfl ?_
        refine r_i2l i_M_bargain_24 ?_
        refine r_lconst (v := (0 : Int64)) i_M_bargain_25 rfl ?_
        refine r_ldc2 o_M_bargain i_M_bargain_26 x_M_102 ?_
        refine f_static o_M_bargain k_M_in s_M_in x_M_76 i_M_bargain_29 (c_M_in) rfl rfl (by decide) (Nat.le_of_ble_eq_true rfl) ?_
        rw [in_099]
        refine r_if_eq 48 i_M_bargain_32 (by decide) (fun h32 => ?_) (fun h32 => ?_)
        · skip
          have h32 := bI_eq0.mp h32
          try rw [h32]
          refine r_aload_n (i := 0) i_M_bargain_48 rfl rfl ?_
          refine r_bipush (v := (-2 : Int32)) i_M_bargain_49 (by decide) ?_
          refine m_virtual o_M_bargain k_M_refuse v_M_refuse x_M_89 i_M_bargain_51 o_M_refuse (c_M_refuse (i := 2) h (by decide)) rfl (rcv_ob (by repeat (first | assumption | exact upw_s | refine (upw_n (by omega)).trans ?_)) rfl (by first | assumption | omega)) rfl (by decide) (Nat.le_of_ble_eq_true rfl) (Nat.zero_le _) (Nat.zero_le _) (fun rr51 wr51 nr51 hp9 => ?_)
          obtain ⟨rfl, hp9, rfl⟩ := hp9
          refine r_ireturn i_M_bargain_54 t_M_bargain rfl ?_
          first | exact ⟨rfl, hp9, rfl⟩ | exact ⟨rfl, ⟨h, fun _ _ => rfl⟩, rfl⟩
        · skip
          have h32 := bI_ne0.mp h32
          try rw [h32]
          refine r_iload (i := 4) i_M_bargain_35 rfl ?_
          refine r_i2l i_M_bargain_37 ?_
          refine r_lconst (v := (0 : Int64)) i_M_bargain_38 rfl ?_
          refine r_ldc2 o_M_bargain i_M_bargain_39 x_M_102 ?_
          refine f_static o_M_bargain k_M_in s_M_in x_M_76 i_M_bargain_42 (c_M_in) rfl rfl (by decide) (Nat.le_of_ble_eq_true rfl) ?_
          rw [in_099]
          refine r_if_ne 55 i_M_bargain_45 (by decide) (fun h45 => ?_) (fun h45 => ?_)
          · skip
            have h45 := bI_ne0.mp h45
            try rw [h45]
            refine r_aload_n (i := 0) i_M_bargain_55 rfl rfl ?_
            refine r_getf (ci := 6) (T := Fk6) (k := 13) o_M_bargain i_M_bargain_56 x_M_80 rfl (by decide) rfl (by repeat (first | assumption | exact upw_s | refine (upw_n (by omega)).trans ?_)) (by first | assumption | omega) (by rfl) ?_
            refine r_bipush (v := (7 : Int32)) i_M_bargain_59 (by decide) ?_
            refine r_icmp_ne 71 i_M_bargain_61 (by decide) (fun h61 => ?_) (fun h61 => ?_)
            · skip
              have q61 : ¬ B = 7 := fun q => h61 (hB.trans (by rw [q]; rfl))
              rw [if_pos (show (true && (true && (!false && (true && true)))) = true from rfl), if_neg q61]
              exact q45 (by omega)
            · skip
              rw [if_pos (show (true && (true && (!false && (true && true)))) = true from rfl), if_pos (((nI_eq (a := B) (b := 7) (by omega) (by decide)).mp (hB.symm.trans h61)))]
              refine r_aload_n (i := 0) i_M_bargain_64 rfl rfl ?_
              refine r_bipush (v := (-6 : Int32)) i_M_bargain_65 (by decide) ?_
              refine m_virtual o_M_bargain k_M_refuse v_M_refuse x_M_89 i_M_bargain_67 o_M_refuse (c_M_refuse (i := 6) h (by decide)) rfl (rcv_ob (by repeat (first | assumption | exact upw_s | refine (upw_n (by omega)).trans ?_)) rfl (by first | assumption | omega)) rfl (by decide) (Nat.le_of_ble_eq_true rfl) (Nat.zero_le _) (Nat.zero_le _) (fun rr67 wr67 nr67 hp9 => ?_)
              obtain ⟨rfl, hp9, rfl⟩ := hp9
              refine r_ireturn i_M_bargain_70 t_M_bargain rfl ?_
              first | exact ⟨rfl, hp9, rfl⟩ | exact ⟨rfl, ⟨h, fun _ _ => rfl⟩, rfl⟩
          · skip
            have h45 := bI_eq0.mp h45
            try rw [h45]
            refine r_aload_n (i := 0) i_M_bargain_48 rfl rfl ?_
            refine r_bipush (v := (-2 : Int32)) i_M_bargain_49 (by decide) ?_
            refine m_virtual o_M_bargain k_M_refuse v_M_refuse x_M_89 i_M_bargain_51 o_M_refuse (c_M_refuse (i := 2) h (by decide)) rfl (rcv_ob (by repeat (first | assumption | exact upw_s | refine (upw_n (by omega)).trans ?_)) rfl (by first | assumption | omega)) rfl (by decide) (Nat.le_of_ble_eq_true rfl) (Nat.zero_le _) (Nat.zero_le _) (fun rr51 wr51 nr51 hp9 => ?_)
            obtain ⟨rfl, hp9, rfl⟩ := hp9
            refine r_ireturn i_M_bargain_54 t_M_bargain rfl ?_
            first | exact ⟨rfl, hp9, rfl⟩ | exact ⟨rfl, ⟨h, fun _ _ => rfl⟩, rfl⟩
def brM (M : aM) (b c : Nat) (is : Int32) : aM := mA (mA M (21 + b) (upd (M.2.1 (21 + b)) 4 (wbit (M.2.1 (21 + b) 4) (nI c) is))) (21 + c) (upd (M.2.1 (21 + c)) 4 (wbit (M.2.1 (21 + c) 4) (nI b) is))
def m2_bars (M : aM) (b c is : Int32) : Int32 × aM := if (lt0 b (M.1 13) && (lt0 c (M.1 13) && !decide (b = c))) = true then (if bI (hsB (M.2.1 (21 + b.toNatClampNeg) 4) c) = is then 0 else 1, brM M b.toNatClampNeg c.toNatClampNeg is) else (-2, mR M 2)
theorem c_M_bars0 {B : Nat} {b c is : Int32} (h : MW w o M n) (hB : M.1 13 = nI B) (hB7 : B ≤ 7) (his : is = 0) : Mm G 2 y_M_bars [.ref o, .int b, .int c, .int is] w o n (m2_bars M b c is) := by
  obtain ⟨m0, mA', mL', m4, m20, m28, mn'⟩ := id h
  refine Mm.of k_M_bars l_M_bars rfl rfl ?_
  unfold m2_bars
  rw [hB]
  obtain ⟨i0, i1, i2, i3, i4⟩ := v5
  refine r_aload_n (i := 0) i_M_bars_0 rfl rfl ?_
  refine r_iload_n (i := 1) i_M_bars_1 rfl rfl ?_
  refine f_virtual o_M_bars k_M_isBargain v_M_isBargain x_M_116 i_M_bars_2 o_M_isBargain (c_M_isBargain h) rfl (rcv_ob (by repeat (first | assumption | exact upw_s | refine (upw_n (by omega)).trans ?_)) rfl (by first | assumption | omega)) rfl (by decide) (Nat.le_of_ble_eq_true rfl) ?_
  rw [hB, in_lt (by omega)]
  refine r_if_eq 21 i_M_bars_5 (by decide) (fun h5 => ?_) (fun h5 => ?_)
  · skip
    have h5 := bI_eq0.mp h5
    try rw [h5]
    refine r_aload_n (i := 0) i_M_bars_21 rfl rfl ?_
    refine r_bipush (v := (-2 : Int32)) i_M_bars_22 (by decide) ?_
    refine m_virtual o_M_bars k_M_refuse v_M_refuse x_M_89 i_M_bars_24 o_M_refuse (c_M_refuse (i := 2) h (by decide)) rfl (rcv_ob (by repeat (first | assumption | exact upw_s | refine (upw_n (by omega)).trans ?_)) rfl (by first | assumption | omega)) rfl (by decide) (Nat.le_of_ble_eq_true rfl) (Nat.zero_le _) (Nat.zero_le _) (fun rr24 wr24 nr24 hp9 => ?_)
    obtain ⟨rfl, hp9, rfl⟩ := hp9
    refine r_ireturn i_M_bars_27 t_M_bars rfl ?_
    first | exact ⟨rfl, hp9, rfl⟩ | exact ⟨rfl, ⟨h, fun _ _ => rfl⟩, rfl⟩
  · skip
    have h5 := bI_ne0.mp h5
    try rw [h5]
    refine r_aload_n (i := 0) i_M_bars_8 rfl rfl ?_
    refine r_iload_n (i := 2) i_M_bars_9 rfl rfl ?_
    refine f_virtual o_M_bars k_M_isBargain v_M_isBargain x_M_116 i_M_bars_10 o_M_isBargain (c_M_isBargain h) rfl (rcv_ob (by repeat (first | assumption | exact upw_s | refine (upw_n (by omega)).trans ?_)) rfl (by first | assumption | omega)) rfl (by decide) (Nat.le_of_ble_eq_true rfl) ?_
    rw [hB, in_lt (by omega)]
    refine r_if_eq 21 i_M_bars_13 (by decide) (fun h13 => ?_) (fun h13 => ?_)
    · skip
      have h13 := bI_eq0.mp h13
      try rw [h13]
      refine r_aload_n (i := 0) i_M_bars_21 rfl rfl ?_
      refine r_bipush (v := (-2 : Int32)) i_M_bars_22 (by decide) ?_
      refine m_virtual o_M_bars k_M_refuse v_M_refuse x_M_89 i_M_bars_24 o_M_refuse (c_M_refuse (i := 2) h (by decide)) rfl (rcv_ob (by repeat (first | assumption | exact upw_s | refine (upw_n (by omega)).trans ?_)) rfl (by first | assumption | omega)) rfl (by decide) (Nat.le_of_ble_eq_true rfl) (Nat.zero_le _) (Nat.zero_le _) (fun rr24 wr24 nr24 hp9 => ?_)
      obtain ⟨rfl, hp9, rfl⟩ := hp9
      refine r_ireturn i_M_bars_27 t_M_bars rfl ?_
      first | exact ⟨rfl, hp9, rfl⟩ | exact ⟨rfl, ⟨h, fun _ _ => rfl⟩, rfl⟩
    · skip
      have h13 := bI_ne0.mp h13
      try rw [h13]
      refine r_iload_n (i := 1) i_M_bars_16 rfl rfl ?_
      refine r_iload_n (i := 2) i_M_bars_17 rfl rfl ?_
      refine r_icmp_ne 28 i_M_bars_18 (by decide) (fun h18 => ?_) (fun h18 => ?_)
      · skip
        rw [decide_eq_false h18]
        obtain ⟨b, hb, rfl⟩ := lt0_of (by omega) h5
        obtain ⟨c, hc, rfl⟩ := lt0_of (by omega) h13
        have hbc : ¬ b = c := fun q => h18 (by rw [q])
        obtain ⟨r1, r2, r3, r4, r5⟩ := row_of h (show b < 7 by omega)
        obtain ⟨s1, s2, s3, s4, s5⟩ := row_of h (show c < 7 by omega)
        rw [nI_clamp (by omega), nI_clamp (by omega)]
        unfold brM wbit
        rw [if_pos his]
        rw [if_pos his]
        have e8 : (!decide ((M.2.1 (21 + b) 4 >>> (nI c &&& 31)) &&& 1 = 0)) = hsB (M.2.1 (21 + b) 4) (nI c) := rfl
        refine r_aload_n (i := 0) i_M_bars_28 rfl rfl ?_
        refine r_getf (ci := 6) (T := Fk6) (k := 14) o_M_bars i_M_bars_29 x_M_48 rfl (by decide) rfl (by repeat (first | assumption | exact upw_s | refine (upw_n (by omega)).trans ?_)) (by first | assumption | omega) (by rfl) ?_
        refine r_iload_n (i := 1) i_M_bars_32 rfl rfl ?_
        refine r_aald i_M_bars_33 (by repeat (first | assumption | exact upw_s | refine (upw_n (by omega)).trans ?_)) (by decide) (by first | assumption | omega) (by assumption) (by first | exact r3 | exact s3) ?_
        refine r_iconst (v := (4 : Int32)) i_M_bars_34 rfl ?_
        refine r_iald i_M_bars_35 (by repeat (first | assumption | exact upw_s | refine (upw_n (by omega)).trans ?_)) (by first | assumption | omega) (by assumption) ?_
        refine r_iload_n (i := 2) i_M_bars_36 rfl rfl ?_
        refine f_static o_M_bars k_M_has s_M_has x_M_122 i_M_bars_37 (c_M_has) rfl rfl (by decide) (Nat.le_of_ble_eq_true rfl) ?_
        refine (show Go G 2 y_M_bars 40 [some (.ref o), some (.int (nI b)), some (.int (nI c)), some (.int is), none] (psh (some (.int (bI (hsB (M.2.1 (21 + b) 4) (nI c))))) []) w n 0 0 _ from ?_)
        refine r_istore_4 i_M_bars_40 (by rw [l_M_bars]; decide) rfl ?_
        refine r_aload_n (i := 0) i_M_bars_42 rfl rfl ?_
        refine r_getf (ci := 6) (T := Fk6) (k := 14) o_M_bars i_M_bars_43 x_M_48 rfl (by decide) rfl (by repeat (first | assumption | exact upw_s | refine (upw_n (by omega)).trans ?_)) (by first | assumption | omega) (by rfl) ?_
        refine r_iload_n (i := 1) i_M_bars_46 rfl rfl ?_
        refine r_aald i_M_bars_47 (by repeat (first | assumption | exact upw_s | refine (upw_n (by omega)).trans ?_)) (by decide) (by first | assumption | omega) (by assumption) (by first | exact r3 | exact s3) ?_
        refine r_iconst (v := (4 : Int32)) i_M_bars_48 rfl ?_
        refine r_iload_n (i := 3) i_M_bars_49 rfl rfl ?_
        refine r_if_eq 68 i_M_bars_50 (by decide) (fun h50 => ?_) (fun h50 => (absurd his h50))
        refine r_aload_n (i := 0) i_M_bars_68 rfl rfl ?_
        refine r_getf (ci := 6) (T := Fk6) (k := 14) o_M_bars i_M_bars_69 x_M_48 rfl (by decide) rfl (by repeat (first | assumption | exact upw_s | refine (upw_n (by omega)).trans ?_)) (by first | assumption | omega) (by rfl) ?_
        refine r_iload_n (i := 1) i_M_bars_72 rfl rfl ?_
        refine r_aald i_M_bars_73 (by repeat (first | assumption | exact upw_s | refine (upw_n (by omega)).trans ?_)) (by decide) (by first | assumption | omega) (by assumption) (by first | exact r3 | exact s3) ?_
        refine r_iconst (v := (4 : Int32)) i_M_bars_74 rfl ?_
        refine r_iald i_M_bars_75 (by repeat (first | assumption | exact upw_s | refine (upw_n (by omega)).trans ?_)) (by first | assumption | omega) (by assumption) ?_
        refine r_iconst (v := (1 : Int32)) i_M_bars_76 rfl ?_
        refine r_iload_n (i := 2) i_M_bars_77 rfl rfl ?_
        refine r_ishl i_M_bars_78 ?_
        refine r_iconst (v := (-1 : Int32)) i_M_bars_79 rfl ?_
        refine r_ixor i_M_bars_80 ?_
        refine r_iand i_M_bars_81 ?_
        refine r_iast i_M_bars_82 (by repeat (first | assumption | exact upw_s | refine (upw_n (by omega)).trans ?_)) (by first | assumption | omega) (by assumption) ?_
        refine r_aload_n (i := 0) i_M_bars_83 rfl rfl ?_
        refine r_getf (ci := 6) (T := Fk6) (k := 14) o_M_bars i_M_bars_84 x_M_48 rfl (by decide) rfl (by repeat (first | assumption | exact upw_s | refine (upw_n (by omega)).trans ?_)) (by first | assumption | omega) (by rfl) ?_
        refine r_iload_n (i := 2) i_M_bars_87 rfl rfl ?_
        refine r_aald i_M_bars_88 (by repeat (first | assumption | exact upw_s | refine (upw_n (by omega)).trans ?_)) (by decide) (by first | assumption | omega) (by assumption) (by first | exact r3 | exact s3) ?_
        refine r_iconst (v := (4 : Int32)) i_M_bars_89 rfl ?_
        refine r_iload_n (i := 3) i_M_bars_90 rfl rfl ?_
        refine r_if_eq 109 i_M_bars_91 (by decide) (fun h91 => ?_) (fun h91 => (absurd his h91))
        refine r_aload_n (i := 0) i_M_bars_109 rfl rfl ?_
        refine r_getf (ci := 6) (T := Fk6) (k := 14) o_M_bars i_M_bars_110 x_M_48 rfl (by decide) rfl (by repeat (first | assumption | exact upw_s | refine (upw_n (by omega)).trans ?_)) (by first | assumption | omega) (by rfl) ?_
        refine r_iload_n (i := 2) i_M_bars_113 rfl rfl ?_
        refine r_aald i_M_bars_114 (by repeat (first | assumption | exact upw_s | refine (upw_n (by omega)).trans ?_)) (by decide) (by first | assumption | omega) (by assumption) (by first | exact r3 | exact s3) ?_
        refine r_iconst (v := (4 : Int32)) i_M_bars_115 rfl ?_
        refine r_iald i_M_bars_116 (by repeat (first | assumption | exact upw_s | refine (upw_n (by omega)).trans ?_)) (by first | assumption | omega) (by assumption) ?_
        refine r_iconst (v := (1 : Int32)) i_M_bars_117 rfl ?_
        refine r_iload_n (i := 1) i_M_bars_118 rfl rfl ?_
        refine r_ishl i_M_bars_119 ?_
        refine r_iconst (v := (-1 : Int32)) i_M_bars_120 rfl ?_
        refine r_ixor i_M_bars_121 ?_
        refine r_iand i_M_bars_122 ?_
        refine r_iast i_M_bars_123 (by repeat (first | assumption | exact upw_s | refine (upw_n (by omega)).trans ?_)) (by first | assumption | omega) (by assumption) ?_
        refine r_iload (i := 4) i_M_bars_124 rfl ?_
        refine r_iload_n (i := 3) i_M_bars_126 rfl rfl ?_
        refine r_icmp_eq 134 i_M_bars_127 (by decide) (fun h127 => ?_) (fun h127 => ?_)
        · skip
          rw [if_pos h127]
          refine r_iconst (v := (0 : Int32)) i_M_bars_134 rfl ?_
          refine r_ireturn i_M_bars_135 t_M_bars rfl ?_
          have h9 := (h.rof (show b < 7 by omega) (f := upd (M.2.1 (21 + b)) 4 (M.2.1 (21 + b) 4 &&& ((1 : Int32) <<< (nI c &&& 31) ^^^ (-1))))).rof (show c < 7 by omega) (f := upd (M.2.1 (21 + c)) 4 (M.2.1 (21 + c) 4 &&& ((1 : Int32) <<< (nI b &&& 31) ^^^ (-1))))
          exact ⟨rfl, ⟨h9, (mFr.rf.up (by omega) (by omega)).up (by omega) (by omega)⟩, rfl⟩
        · skip
          rw [if_neg h127]
          refine r_iconst (v := (1 : Int32)) i_M_bars_130 rfl ?_
          refine r_goto 135 i_M_bars_131 (by decide) ?_
          refine r_ireturn i_M_bars_135 t_M_bars rfl ?_
          have h9 := (h.rof (show b < 7 by omega) (f := upd (M.2.1 (21 + b)) 4 (M.2.1 (21 + b) 4 &&& ((1 : Int32) <<< (nI c &&& 31) ^^^ (-1))))).rof (show c < 7 by omega) (f := upd (M.2.1 (21 + c)) 4 (M.2.1 (21 + c) 4 &&& ((1 : Int32) <<< (nI b &&& 31) ^^^ (-1))))
          exact ⟨rfl, ⟨h9, (mFr.rf.up (by omega) (by omega)).up (by omega) (by omega)⟩, rfl⟩
      · skip
        rw [decide_eq_true h18]
        refine r_aload_n (i := 0) i_M_bars_21 rfl rfl ?_
        refine r_bipush (v := (-2 : Int32)) i_M_bars_22 (by decide) ?_
        refine m_virtual o_M_bars k_M_refuse v_M_refuse x_M_89 i_M_bars_24 o_M_refuse (c_M_refuse (i := 2) h (by decide)) rfl (rcv_ob (by repeat (first | assumption | exact upw_s | refine (upw_n (by omega)).trans ?_)) rfl (by first | assumption | omega)) rfl (by decide) (Nat.le_of_ble_eq_true rfl) (Nat.zero_le _) (Nat.zero_le _) (fun rr24 wr24 nr24 hp9 => ?_)
        obtain ⟨rfl, hp9, rfl⟩ := hp9
        refine r_ireturn i_M_bars_27 t_M_bars rfl ?_
        first | exact ⟨rfl, hp9, rfl⟩ | exact ⟨rfl, ⟨h, fun _ _ => rfl⟩, rfl⟩
theorem c_M_bars1 {B : Nat} {b c is : Int32} (h : MW w o M n) (hB : M.1 13 = nI B) (hB7 : B ≤ 7) (his : ¬ is = 0) : Mm G 2 y_M_bars [.ref o, .int b, .int c, .int is] w o n (m2_bars M b c is) := by
  obtain ⟨m0, mA', mL', m4, m20, m28, mn'⟩ := id h
  refine Mm.of k_M_bars l_M_bars rfl rfl ?_
  unfold m2_bars
  rw [hB]
  obtain ⟨i0, i1, i2, i3, i4⟩ := v5
  refine r_aload_n (i := 0) i_M_bars_0 rfl rfl ?_
  refine r_iload_n (i := 1) i_M_bars_1 rfl rfl ?_
  refine f_virtual o_M_bars k_M_isBargain v_M_isBargain x_M_116 i_M_bars_2 o_M_isBargain (c_M_isBargain h) rfl (rcv_ob (by repeat (first | assumption | exact upw_s | refine (upw_n (by omega)).trans ?_)) rfl (by first | assumption | omega)) rfl (by decide) (Nat.le_of_ble_eq_true rfl) ?_
  rw [hB, in_lt (by omega)]
  refine r_if_eq 21 i_M_bars_5 (by decide) (fun h5 => ?_) (fun h5 => ?_)
  · skip
    have h5 := bI_eq0.mp h5
    try rw [h5]
    refine r_aload_n (i := 0) i_M_bars_21 rfl rfl ?_
    refine r_bipush (v := (-2 : Int32)) i_M_bars_22 (by decide) ?_
    refine m_virtual o_M_bars k_M_refuse v_M_refuse x_M_89 i_M_bars_24 o_M_refuse (c_M_refuse (i := 2) h (by decide)) rfl (rcv_ob (by repeat (first | assumption | exact upw_s | refine (upw_n (by omega)).trans ?_)) rfl (by first | assumption | omega)) rfl (by decide) (Nat.le_of_ble_eq_true rfl) (Nat.zero_le _) (Nat.zero_le _) (fun rr24 wr24 nr24 hp9 => ?_)
    obtain ⟨rfl, hp9, rfl⟩ := hp9
    refine r_ireturn i_M_bars_27 t_M_bars rfl ?_
    first | exact ⟨rfl, hp9, rfl⟩ | exact ⟨rfl, ⟨h, fun _ _ => rfl⟩, rfl⟩
  · skip
    have h5 := bI_ne0.mp h5
    try rw [h5]
    refine r_aload_n (i := 0) i_M_bars_8 rfl rfl ?_
    refine r_iload_n (i := 2) i_M_bars_9 rfl rfl ?_
    refine f_virtual o_M_bars k_M_isBargain v_M_isBargain x_M_116 i_M_bars_10 o_M_isBargain (c_M_isBargain h) rfl (rcv_ob (by repeat (first | assumption | exact upw_s | refine (upw_n (by omega)).trans ?_)) rfl (by first | assumption | omega)) rfl (by decide) (Nat.le_of_ble_eq_true rfl) ?_
    rw [hB, in_lt (by omega)]
    refine r_if_eq 21 i_M_bars_13 (by decide) (fun h13 => ?_) (fun h13 => ?_)
    · skip
      have h13 := bI_eq0.mp h13
      try rw [h13]
      refine r_aload_n (i := 0) i_M_bars_21 rfl rfl ?_
      refine r_bipush (v := (-2 : Int32)) i_M_bars_22 (by decide) ?_
      refine m_virtual o_M_bars k_M_refuse v_M_refuse x_M_89 i_M_bars_24 o_M_refuse (c_M_refuse (i := 2) h (by decide)) rfl (rcv_ob (by repeat (first | assumption | exact upw_s | refine (upw_n (by omega)).trans ?_)) rfl (by first | assumption | omega)) rfl (by decide) (Nat.le_of_ble_eq_true rfl) (Nat.zero_le _) (Nat.zero_le _) (fun rr24 wr24 nr24 hp9 => ?_)
      obtain ⟨rfl, hp9, rfl⟩ := hp9
      refine r_ireturn i_M_bars_27 t_M_bars rfl ?_
      first | exact ⟨rfl, hp9, rfl⟩ | exact ⟨rfl, ⟨h, fun _ _ => rfl⟩, rfl⟩
    · skip
      have h13 := bI_ne0.mp h13
      try rw [h13]
      refine r_iload_n (i := 1) i_M_bars_16 rfl rfl ?_
      refine r_iload_n (i := 2) i_M_bars_17 rfl rfl ?_
      refine r_icmp_ne 28 i_M_bars_18 (by decide) (fun h18 => ?_) (fun h18 => ?_)
      · skip
        rw [decide_eq_false h18]
        obtain ⟨b, hb, rfl⟩ := lt0_of (by omega) h5
        obtain ⟨c, hc, rfl⟩ := lt0_of (by omega) h13
        have hbc : ¬ b = c := fun q => h18 (by rw [q])
        obtain ⟨r1, r2, r3, r4, r5⟩ := row_of h (show b < 7 by omega)
        obtain ⟨s1, s2, s3, s4, s5⟩ := row_of h (show c < 7 by omega)
        rw [nI_clamp (by omega), nI_clamp (by omega)]
        unfold brM wbit
        rw [if_neg his]
        rw [if_neg his]
        refine r_aload_n (i := 0) i_M_bars_28 rfl rfl ?_
        refine r_getf (ci := 6) (T := Fk6) (k := 14) o_M_bars i_M_bars_29 x_M_48 rfl (by decide) rfl (by repeat (first | assumption | exact upw_s | refine (upw_n (by omega)).trans ?_)) (by first | assumption | omega) (by rfl) ?_
        refine r_iload_n (i := 1) i_M_bars_32 rfl rfl ?_
        refine r_aald i_M_bars_33 (by repeat (first | assumption | exact upw_s | refine (upw_n (by omega)).trans ?_)) (by decide) (by first | assumption | omega) (by assumption) (by first | exact r3 | exact s3) ?_
        refine r_iconst (v := (4 : Int32)) i_M_bars_34 rfl ?_
        refine r_iald i_M_bars_35 (by repeat (first | assumption | exact upw_s | refine (upw_n (by omega)).trans ?_)) (by first | assumption | omega) (by assumption) ?_
        refine r_iload_n (i := 2) i_M_bars_36 rfl rfl ?_
        refine f_static o_M_bars k_M_has s_M_has x_M_122 i_M_bars_37 (c_M_has) rfl rfl (by decide) (Nat.le_of_ble_eq_true rfl) ?_
        refine (show Go G 2 y_M_bars 40 [some (.ref o), some (.int (nI b)), some (.int (nI c)), some (.int is), none] (psh (some (.int (bI (hsB (M.2.1 (21 + b) 4) (nI c))))) []) w n 0 0 _ from ?_)
        refine r_istore_4 i_M_bars_40 (by rw [l_M_bars]; decide) rfl ?_
        refine r_aload_n (i := 0) i_M_bars_42 rfl rfl ?_
        refine r_getf (ci := 6) (T := Fk6) (k := 14) o_M_bars i_M_bars_43 x_M_48 rfl (by decide) rfl (by repeat (first | assumption | exact upw_s | refine (upw_n (by omega)).trans ?_)) (by first | assumption | omega) (by rfl) ?_
        refine r_iload_n (i := 1) i_M_bars_46 rfl rfl ?_
        refine r_aald i_M_bars_47 (by repeat (first | assumption | exact upw_s | refine (upw_n (by omega)).trans ?_)) (by decide) (by first | assumption | omega) (by assumption) (by first | exact r3 | exact s3) ?_
        refine r_iconst (v := (4 : Int32)) i_M_bars_48 rfl ?_
        refine r_iload_n (i := 3) i_M_bars_49 rfl rfl ?_
        refine r_if_eq 68 i_M_bars_50 (by decide) (fun h50 => (absurd h50 his)) (fun h50 => ?_)
        refine r_aload_n (i := 0) i_M_bars_53 rfl rfl ?_
        refine r_getf (ci := 6) (T := Fk6) (k := 14) o_M_bars i_M_bars_54 x_M_48 rfl (by decide) rfl (by repeat (first | assumption | exact upw_s | refine (upw_n (by omega)).trans ?_)) (by first | assumption | omega) (by rfl) ?_
        refine r_iload_n (i := 1) i_M_bars_57 rfl rfl ?_
        refine r_aald i_M_bars_58 (by repeat (first | assumption | exact upw_s | refine (upw_n (by omega)).trans ?_)) (by decide) (by first | assumption | omega) (by assumption) (by first | exact r3 | exact s3) ?_
        refine r_iconst (v := (4 : Int32)) i_M_bars_59 rfl ?_
        refine r_iald i_M_bars_60 (by repeat (first | assumption | exact upw_s | refine (upw_n (by omega)).trans ?_)) (by first | assumption | omega) (by assumption) ?_
        refine r_iconst (v := (1 : Int32)) i_M_bars_61 rfl ?_
        refine r_iload_n (i := 2) i_M_bars_62 rfl rfl ?_
        refine r_ishl i_M_bars_63 ?_
        refine r_ior i_M_bars_64 ?_
        refine r_goto 82 i_M_bars_65 (by decide) ?_
        refine r_iast i_M_bars_82 (by repeat (first | assumption | exact upw_s | refine (upw_n (by omega)).trans ?_)) (by first | assumption | omega) (by assumption) ?_
        refine r_aload_n (i := 0) i_M_bars_83 rfl rfl ?_
        refine r_getf (ci := 6) (T := Fk6) (k := 14) o_M_bars i_M_bars_84 x_M_48 rfl (by decide) rfl (by repeat (first | assumption | exact upw_s | refine (upw_n (by omega)).trans ?_)) (by first | assumption | omega) (by rfl) ?_
        refine r_iload_n (i := 2) i_M_bars_87 rfl rfl ?_
        refine r_aald i_M_bars_88 (by repeat (first | assumption | exact upw_s | refine (upw_n (by omega)).trans ?_)) (by decide) (by first | assumption | omega) (by assumption) (by first | exact r3 | exact s3) ?_
        refine r_iconst (v := (4 : Int32)) i_M_bars_89 rfl ?_
        refine r_iload_n (i := 3) i_M_bars_90 rfl rfl ?_
        refine r_if_eq 109 i_M_bars_91 (by decide) (fun h91 => (absurd h91 his)) (fun h91 => ?_)
        refine r_aload_n (i := 0) i_M_bars_94 rfl rfl ?_
        refine r_getf (ci := 6) (T := Fk6) (k := 14) o_M_bars i_M_bars_95 x_M_48 rfl (by decide) rfl (by repeat (first | assumption | exact upw_s | refine (upw_n (by omega)).trans ?_)) (by first | assumption | omega) (by rfl) ?_
        refine r_iload_n (i := 2) i_M_bars_98 rfl rfl ?_
        refine r_aald i_M_bars_99 (by repeat (first | assumption | exact upw_s | refine (upw_n (by omega)).trans ?_)) (by decide) (by first | assumption | omega) (by assumption) (by first | exact r3 | exact s3) ?_
        refine r_iconst (v := (4 : Int32)) i_M_bars_100 rfl ?_
        refine r_iald i_M_bars_101 (by repeat (first | assumption | exact upw_s | refine (upw_n (by omega)).trans ?_)) (by first | assumption | omega) (by assumption) ?_
        refine r_iconst (v := (1 : Int32)) i_M_bars_102 rfl ?_
        refine r_iload_n (i := 1) i_M_bars_103 rfl rfl ?_
        refine r_ishl i_M_bars_104 ?_
        refine r_ior i_M_bars_105 ?_
        refine r_goto 123 i_M_bars_106 (by decide) ?_
        refine r_iast i_M_bars_123 (by repeat (first | assumption | exact upw_s | refine (upw_n (by omega)).trans ?_)) (by first | assumption | omega) (by assumption) ?_
        refine r_iload (i := 4) i_M_bars_124 rfl ?_
        refine r_iload_n (i := 3) i_M_bars_126 rfl rfl ?_
        refine r_icmp_eq 134 i_M_bars_127 (by decide) (fun h127 => ?_) (fun h127 => ?_)
        · skip
          rw [if_pos h127]
          refine r_iconst (v := (0 : Int32)) i_M_bars_134 rfl ?_
          refine r_ireturn i_M_bars_135 t_M_bars rfl ?_
          have h9 := (h.rof (show b < 7 by omega) (f := upd (M.2.1 (21 + b)) 4 (M.2.1 (21 + b) 4 ||| (1 : Int32) <<< (nI c &&& 31)))).rof (show c < 7 by omega) (f := upd (M.2.1 (21 + c)) 4 (M.2.1 (21 + c) 4 ||| (1 : Int32) <<< (nI b &&& 31)))
          exact ⟨rfl, ⟨h9, (mFr.rf.up (by omega) (by omega)).up (by omega) (by omega)⟩, rfl⟩
        · skip
          rw [if_neg h127]
          refine r_iconst (v := (1 : Int32)) i_M_bars_130 rfl ?_
          refine r_goto 135 i_M_bars_131 (by decide) ?_
          refine r_ireturn i_M_bars_135 t_M_bars rfl ?_
          have h9 := (h.rof (show b < 7 by omega) (f := upd (M.2.1 (21 + b)) 4 (M.2.1 (21 + b) 4 ||| (1 : Int32) <<< (nI c &&& 31)))).rof (show c < 7 by omega) (f := upd (M.2.1 (21 + c)) 4 (M.2.1 (21 + c) 4 ||| (1 : Int32) <<< (nI b &&& 31)))
          exact ⟨rfl, ⟨h9, (mFr.rf.up (by omega) (by omega)).up (by omega) (by omega)⟩, rfl⟩
      · skip
        rw [decide_eq_true h18]
        refine r_aload_n (i := 0) i_M_bars_21 rfl rfl ?_
        refine r_bipush (v := (-2 : Int32)) i_M_bars_22 (by decide) ?_
        refine m_virtual o_M_bars k_M_refuse v_M_refuse x_M_89 i_M_bars_24 o_M_refuse (c_M_refuse (i := 2) h (by decide)) rfl (rcv_ob (by repeat (first | assumption | exact upw_s | refine (upw_n (by omega)).trans ?_)) rfl (by first | assumption | omega)) rfl (by decide) (Nat.le_of_ble_eq_true rfl) (Nat.zero_le _) (Nat.zero_le _) (fun rr24 wr24 nr24 hp9 => ?_)
        obtain ⟨rfl, hp9, rfl⟩ := hp9
        refine r_ireturn i_M_bars_27 t_M_bars rfl ?_
        first | exact ⟨rfl, hp9, rfl⟩ | exact ⟨rfl, ⟨h, fun _ _ => rfl⟩, rfl⟩
theorem c_M_bars {B : Nat} {b c is : Int32} (h : MW w o M n) (hB : M.1 13 = nI B) (hB7 : B ≤ 7) : Mm G 2 y_M_bars [.ref o, .int b, .int c, .int is] w o n (m2_bars M b c is) := by
  by_cases his : is = 0
  · exact c_M_bars0 h hB hB7 his
  · exact c_M_bars1 h hB hB7 his
def m2_bargainOf (M : aM) (b k : Int32) : Int32 × aM := if (lt0 b (M.1 13) && lt0 k 5) = true then (M.2.1 (21 + b.toNatClampNeg) k.toNatClampNeg, M) else (-2, mR M 2)
theorem c_M_bargainOf {B : Nat} {b k : Int32} (h : MW w o M n) (hB : M.1 13 = nI B) (hB7 : B ≤ 7) : Mm G 2 y_M_bargainOf [.ref o, .int b, .int k] w o n (m2_bargainOf M b k) := by
  obtain ⟨m0, mA', mL', m4, m20, m28, mn'⟩ := id h
  refine Mm.of k_M_bargainOf l_M_bargainOf rfl rfl ?_
  unfold m2_bargainOf
  rw [hB]
  refine r_aload_n (i := 0) i_M_bargainOf_0 rfl rfl ?_
  refine r_iload_n (i := 1) i_M_bargainOf_1 rfl rfl ?_
  refine f_virtual o_M_bargainOf k_M_isBargain v_M_isBargain x_M_116 i_M_bargainOf_2 o_M_isBargain (c_M_isBargain h) rfl (rcv_ob (by repeat (first | assumption | exact upw_s | refine (upw_n (by omega)).trans ?_)) rfl (by first | assumption | omega)) rfl (by decide) (Nat.le_of_ble_eq_true rfl) ?_
  rw [hB, in_lt (by omega)]
  refine r_if_eq 31 i_M_bargainOf_5 (by decide) (fun h5 => ?_) (fun h5 => ?_)
  · skip
    have h5 := bI_eq0.mp h5
    try rw [h5]
    refine r_aload_n (i := 0) i_M_bargainOf_31 rfl rfl ?_
    refine r_bipush (v := (-2 : Int32)) i_M_bargainOf_32 (by decide) ?_
    refine m_virtual o_M_bargainOf k_M_refuse v_M_refuse x_M_89 i_M_bargainOf_34 o_M_refuse (c_M_refuse (i := 2) h (by decide)) rfl (rcv_ob (by repeat (first | assumption | exact upw_s | refine (upw_n (by omega)).trans ?_)) rfl (by first | assumption | omega)) rfl (by decide) (Nat.le_of_ble_eq_true rfl) (Nat.zero_le _) (Nat.zero_le _) (fun rr34 wr34 nr34 hp9 => ?_)
    obtain ⟨rfl, hp9, rfl⟩ := hp9
    refine r_ireturn i_M_bargainOf_37 t_M_bargainOf rfl ?_
    first | exact ⟨rfl, hp9, rfl⟩ | exact ⟨rfl, ⟨h, fun _ _ => rfl⟩, rfl⟩
  · skip
    have h5 := bI_ne0.mp h5
    try rw [h5]
    refine r_iload_n (i := 2) i_M_bargainOf_8 rfl rfl ?_
    refine r_i2l i_M_bargainOf_9 ?_
    refine r_lconst (v := (0 : Int64)) i_M_bargainOf_10 rfl ?_
    refine r_ldc2 o_M_bargainOf i_M_bargainOf_11 x_M_85 ?_
    refine f_static o_M_bargainOf k_M_in s_M_in x_M_76 i_M_bargainOf_14 (c_M_in) rfl rfl (by decide) (Nat.le_of_ble_eq_true rfl) ?_
    rw [in_04]
    refine r_if_eq 31 i_M_bargainOf_17 (by decide) (fun h17 => ?_) (fun h17 => ?_)
    · skip
      have h17 := bI_eq0.mp h17
      try rw [h17]
      refine r_aload_n (i := 0) i_M_bargainOf_31 rfl rfl ?_
      refine r_bipush (v := (-2 : Int32)) i_M_bargainOf_32 (by decide) ?_
      refine m_virtual o_M_bargainOf k_M_refuse v_M_refuse x_M_89 i_M_bargainOf_34 o_M_refuse (c_M_refuse (i := 2) h (by decide)) rfl (rcv_ob (by repeat (first | assumption | exact upw_s | refine (upw_n (by omega)).trans ?_)) rfl (by first | assumption | omega)) rfl (by decide) (Nat.le_of_ble_eq_true rfl) (Nat.zero_le _) (Nat.zero_le _) (fun rr34 wr34 nr34 hp9 => ?_)
      obtain ⟨rfl, hp9, rfl⟩ := hp9
      refine r_ireturn i_M_bargainOf_37 t_M_bargainOf rfl ?_
      first | exact ⟨rfl, hp9, rfl⟩ | exact ⟨rfl, ⟨h, fun _ _ => rfl⟩, rfl⟩
    · skip
      have h17 := bI_ne0.mp h17
      try rw [h17]
      obtain ⟨b, hb, rfl⟩ := lt0_of (by omega) h5
      obtain ⟨k, hk, rfl⟩ := lt0_of (N := 5) (by decide) h17
      obtain ⟨r1, r2, r3, r4, r5⟩ := row_of h (show b < 7 by omega)
      have ik : vp_in (nI k) 5 := vp_in_nI hk (by decide)
      rw [nI_clamp (show b < 2 ^ 31 by omega)]
      refine r_aload_n (i := 0) i_M_bargainOf_20 rfl rfl ?_
      refine r_getf (ci := 6) (T := Fk6) (k := 14) o_M_bargainOf i_M_bargainOf_21 x_M_48 rfl (by decide) rfl (by repeat (first | assumption | exact upw_s | refine (upw_n (by omega)).trans ?_)) (by first | assumption | omega) (by rfl) ?_
      refine r_iload_n (i := 1) i_M_bargainOf_24 rfl rfl ?_
      refine r_aald i_M_bargainOf_25 (by repeat (first | assumption | exact upw_s | refine (upw_n (by omega)).trans ?_)) (by decide) (by first | assumption | omega) (by assumption) r3 ?_
      refine r_iload_n (i := 2) i_M_bargainOf_26 rfl rfl ?_
      refine r_iald i_M_bargainOf_27 (by repeat (first | assumption | exact upw_s | refine (upw_n (by omega)).trans ?_)) (by first | assumption | omega) (by assumption) ?_
      refine r_goto 37 i_M_bargainOf_28 (by decide) ?_
      refine r_ireturn i_M_bargainOf_37 t_M_bargainOf rfl ?_
      first | exact ⟨rfl, hp9, rfl⟩ | exact ⟨rfl, ⟨h, fun _ _ => rfl⟩, rfl⟩
end MTOW3
