-- THE REFERENCE: weeks by a rule, by, name, told weeks
theorem mA_ne {M : aM} {i j : Nat} {f : Nat → Int32} (h : ¬ i = j) : (mA M j f).2.1 i = M.2.1 i := if_neg h
theorem mA_eq {M : aM} {j : Nat} {f : Nat → Int32} : (mA M j f).2.1 j = f := if_pos rfl
def tkW (X : aK) (b : Nat) (c : Int32) : aK := (if c = -1 then X.1 else X.1 ||| (1 : Int32) <<< (nI b &&& 31), if c = -1 then X.2.1 else X.2.1 ||| (1 : Int32) <<< (c &&& 31), upd X.2.2 b c)
def wbM (M : aM) (P kd a : Nat) (f : Nat → Int32) : Nat → aK
  | 0 => (0, 0, f)
  | b + 1 => tkW (wbM M P kd a f b) b (if M.2.1 (21 + b) 4 &&& (wbM M P kd a f b).1 = 0 then namM M P kd a b (wbM M P kd a f b).2.1 else -1)
section MWK
variable {G : gE} {w : aW} {o n : Nat} {M : aM}
theorem tail_weekBy {B b c9 s : Nat} {X : aK} {c : Int32} {N : aM} {w1 : aW} (hB : N.1 13 = nI B) (hb : b < B) (hB7 : B ≤ 7) (h1 : MW w1 o (mA N 38 X.2.2) n) (hF : mFr w w1 o) (post : Option Value → aW → Nat → Prop)
    (hq : ∀ w2, MW w2 o (mA N 38 (tkW X b c).2.2) n → mFr w w2 o → Go G c9 y_M_weekBy 7 [some (.ref o), some (.int (nI s)), some (.int (tkW X b c).1), some (.int (tkW X b c).2.1), some (.int (nI (b + 1)))] [] w2 n 0 0 post) :
    Go G c9 y_M_weekBy 59 [some (.ref o), some (.int (nI s)), some (.int X.1), some (.int X.2.1), some (.int (nI b))] [.int c, .int (nI b), .ref (o + 38)] w1 n 0 0 post := by
  obtain ⟨m0, mA', mL', m4, m20, m28, mn'⟩ := id h1
  have a38 : w1 (o + 38) = ai 7 X.2.2 := mA' 38 rfl
  have ib : vp_in (nI b) 7 := vp_in_nI (by omega) (by decide)
  have ec : (nI b).toNatClampNeg = b := nI_clamp (by omega)
  have hq := hq (upw w1 (o + 38) (ai 7 (upd X.2.2 b c))) (by
    have h9 := h1.arr (j := 38) (f := upd X.2.2 b c) rfl
    rw [mA_A] at h9
    exact h9) (hF.up (by omega) (by omega))
  unfold tkW at hq
  refine r_iast i_M_weekBy_59 (by repeat (first | assumption | exact upw_s | refine (upw_n (by omega)).trans ?_)) (by first | assumption | omega) (by assumption) ?_
  rw [ec]
  refine r_iload_n (i := 2) i_M_weekBy_60 rfl rfl ?_
  refine r_aload_n (i := 0) i_M_weekBy_61 rfl rfl ?_
  refine r_getf (ci := 6) (T := Fk6) (k := 29) o_M_weekBy i_M_weekBy_62 x_M_64 rfl (by decide) rfl (by repeat (first | assumption | exact upw_s | refine (upw_n (by omega)).trans ?_)) (by first | assumption | omega) (by rfl) ?_
  refine r_iload (i := 4) i_M_weekBy_65 rfl ?_
  refine r_iald i_M_weekBy_67 (by repeat (first | assumption | exact upw_s | refine (upw_n (by omega)).trans ?_)) (by first | assumption | omega) (by assumption) ?_
  rw [ec, upd_at]
  refine r_iconst (v := (-1 : Int32)) i_M_weekBy_68 rfl ?_
  refine r_icmp_eq 79 i_M_weekBy_69 (by decide) (fun h69 => ?_) (fun h69 => ?_)
  · skip
    rw [if_pos h69, if_pos h69] at hq
    refine r_iconst (v := (0 : Int32)) i_M_weekBy_79 rfl ?_
    refine r_ior i_M_weekBy_80 ?_
    refine r_istore_2 i_M_weekBy_81 (by rw [l_M_weekBy]; decide) rfl ?_
    refine r_iload_n (i := 3) i_M_weekBy_82 rfl rfl ?_
    refine r_aload_n (i := 0) i_M_weekBy_83 rfl rfl ?_
    refine r_getf (ci := 6) (T := Fk6) (k := 29) o_M_weekBy i_M_weekBy_84 x_M_64 rfl (by decide) rfl (by repeat (first | assumption | exact upw_s | refine (upw_n (by omega)).trans ?_)) (by first | assumption | omega) (by rfl) ?_
    refine r_iload (i := 4) i_M_weekBy_87 rfl ?_
    refine r_iald i_M_weekBy_89 (by repeat (first | assumption | exact upw_s | refine (upw_n (by omega)).trans ?_)) (by first | assumption | omega) (by assumption) ?_
    rw [ec, upd_at]
    refine r_iconst (v := (-1 : Int32)) i_M_weekBy_90 rfl ?_
    refine r_icmp_eq 106 i_M_weekBy_91 (by decide) (fun h91 => ?_) (fun h91 => ?_)
    · first
      | exact absurd h91 (by decide)
      | first | exact absurd h91 h69 | exact absurd h69 h91
      | skip
        refine r_iconst (v := (0 : Int32)) i_M_weekBy_106 rfl ?_
        refine r_ior i_M_weekBy_107 ?_
        refine r_istore_3 i_M_weekBy_108 (by rw [l_M_weekBy]; decide) rfl ?_
        refine r_iinc_4 (v := (1 : Int32)) i_M_weekBy_109 rfl (by rw [l_M_weekBy]; decide) rfl ?_
        refine r_goto 7 i_M_weekBy_112 (by decide) ?_
        rw [nI_1]
        first | exact hq | (rw [Int32.or_zero, Int32.or_zero]; exact hq)
    · first
      | exact absurd h91 (by decide)
      | first | exact absurd h91 h69 | exact absurd h69 h91
      | skip
        refine r_iconst (v := (1 : Int32)) i_M_weekBy_94 rfl ?_
        refine r_aload_n (i := 0) i_M_weekBy_95 rfl rfl ?_
        refine r_getf (ci := 6) (T := Fk6) (k := 29) o_M_weekBy i_M_weekBy_96 x_M_64 rfl (by decide) rfl (by repeat (first | assumption | exact upw_s | refine (upw_n (by omega)).trans ?_)) (by first | assumption | omega) (by rfl) ?_
        refine r_iload (i := 4) i_M_weekBy_99 rfl ?_
        refine r_iald i_M_weekBy_101 (by repeat (first | assumption | exact upw_s | refine (upw_n (by omega)).trans ?_)) (by first | assumption | omega) (by assumption) ?_
        rw [ec, upd_at]
        refine r_ishl i_M_weekBy_102 ?_
        refine r_goto 107 i_M_weekBy_103 (by decide) ?_
        refine r_ior i_M_weekBy_107 ?_
        refine r_istore_3 i_M_weekBy_108 (by rw [l_M_weekBy]; decide) rfl ?_
        refine r_iinc_4 (v := (1 : Int32)) i_M_weekBy_109 rfl (by rw [l_M_weekBy]; decide) rfl ?_
        refine r_goto 7 i_M_weekBy_112 (by decide) ?_
        rw [nI_1]
        first | exact hq | (rw [Int32.or_zero, Int32.or_zero]; exact hq)
  · skip
    rw [if_neg h69, if_neg h69] at hq
    refine r_iconst (v := (1 : Int32)) i_M_weekBy_72 rfl ?_
    refine r_iload (i := 4) i_M_weekBy_73 rfl ?_
    refine r_ishl i_M_weekBy_75 ?_
    refine r_goto 80 i_M_weekBy_76 (by decide) ?_
    refine r_ior i_M_weekBy_80 ?_
    refine r_istore_2 i_M_weekBy_81 (by rw [l_M_weekBy]; decide) rfl ?_
    refine r_iload_n (i := 3) i_M_weekBy_82 rfl rfl ?_
    refine r_aload_n (i := 0) i_M_weekBy_83 rfl rfl ?_
    refine r_getf (ci := 6) (T := Fk6) (k := 29) o_M_weekBy i_M_weekBy_84 x_M_64 rfl (by decide) rfl (by repeat (first | assumption | exact upw_s | refine (upw_n (by omega)).trans ?_)) (by first | assumption | omega) (by rfl) ?_
    refine r_iload (i := 4) i_M_weekBy_87 rfl ?_
    refine r_iald i_M_weekBy_89 (by repeat (first | assumption | exact upw_s | refine (upw_n (by omega)).trans ?_)) (by first | assumption | omega) (by assumption) ?_
    rw [ec, upd_at]
    refine r_iconst (v := (-1 : Int32)) i_M_weekBy_90 rfl ?_
    refine r_icmp_eq 106 i_M_weekBy_91 (by decide) (fun h91 => ?_) (fun h91 => ?_)
    · first
      | exact absurd h91 (by decide)
      | first | exact absurd h91 h69 | exact absurd h69 h91
      | skip
        refine r_iconst (v := (0 : Int32)) i_M_weekBy_106 rfl ?_
        refine r_ior i_M_weekBy_107 ?_
        refine r_istore_3 i_M_weekBy_108 (by rw [l_M_weekBy]; decide) rfl ?_
        refine r_iinc_4 (v := (1 : Int32)) i_M_weekBy_109 rfl (by rw [l_M_weekBy]; decide) rfl ?_
        refine r_goto 7 i_M_weekBy_112 (by decide) ?_
        rw [nI_1]
        first | exact hq | (rw [Int32.or_zero, Int32.or_zero]; exact hq)
    · first
      | exact absurd h91 (by decide)
      | first | exact absurd h91 h69 | exact absurd h69 h91
      | skip
        refine r_iconst (v := (1 : Int32)) i_M_weekBy_94 rfl ?_
        refine r_aload_n (i := 0) i_M_weekBy_95 rfl rfl ?_
        refine r_getf (ci := 6) (T := Fk6) (k := 29) o_M_weekBy i_M_weekBy_96 x_M_64 rfl (by decide) rfl (by repeat (first | assumption | exact upw_s | refine (upw_n (by omega)).trans ?_)) (by first | assumption | omega) (by rfl) ?_
        refine r_iload (i := 4) i_M_weekBy_99 rfl ?_
        refine r_iald i_M_weekBy_101 (by repeat (first | assumption | exact upw_s | refine (upw_n (by omega)).trans ?_)) (by first | assumption | omega) (by assumption) ?_
        rw [ec, upd_at]
        refine r_ishl i_M_weekBy_102 ?_
        refine r_goto 107 i_M_weekBy_103 (by decide) ?_
        refine r_ior i_M_weekBy_107 ?_
        refine r_istore_3 i_M_weekBy_108 (by rw [l_M_weekBy]; decide) rfl ?_
        refine r_iinc_4 (v := (1 : Int32)) i_M_weekBy_109 rfl (by rw [l_M_weekBy]; decide) rfl ?_
        refine r_goto 7 i_M_weekBy_112 (by decide) ?_
        rw [nI_1]
        first | exact hq | (rw [Int32.or_zero, Int32.or_zero]; exact hq)
theorem c_M_weekBy {P B kd a s : Nat} (h : MW w o M n) (hs : s < 8) (hP : M.1 10 = nI P) (hP7 : P ≤ 7) (hB : M.1 13 = nI B) (hB7 : B ≤ 7) (ek : M.2.1 14 s = nI kd) (k1 : 1 ≤ kd) (k6 : kd ≤ 6) (ea : M.2.1 15 s = nI a) (ha : a ≤ 99) : Mv G 5 y_M_weekBy [.ref o, .int (nI s)] w o n (mA M 38 (wbM M P kd a (M.2.1 38) B).2.2) := by
  refine Mv.of k_M_weekBy l_M_weekBy rfl rfl ?_
  have hloop : ∀ m b, b + m = B → ∀ w1, MW w1 o (mA M 38 (wbM M P kd a (M.2.1 38) b).2.2) n → mFr w w1 o → Go G 5 y_M_weekBy 7 [some (.ref o), some (.int (nI s)), some (.int (wbM M P kd a (M.2.1 38) b).1), some (.int (wbM M P kd a (M.2.1 38) b).2.1), some (.int (nI b))] [] w1 n 0 0 (fun r w' n' => r = none ∧ (MW w' o (mA M 38 (wbM M P kd a (M.2.1 38) B).2.2) n ∧ mFr w w' o) ∧ n' = n) := by
    intro m
    induction m with
    | zero =>
      intro b hb w1 h1 hF
      have hb : b = B := by omega
      subst hb
      have hB1 : (mA M 38 (wbM M P kd a (M.2.1 38) b).2.2).1 13 = nI b := hB
      obtain ⟨m0, mA', mL', m4, m20, m28, mn'⟩ := id h1
      refine r_iload (i := 4) i_M_weekBy_7 rfl ?_
      refine r_aload_n (i := 0) i_M_weekBy_9 rfl rfl ?_
      refine r_getf (ci := 6) (T := Fk6) (k := 13) o_M_weekBy i_M_weekBy_10 x_M_80 rfl (by decide) rfl (by repeat (first | assumption | exact upw_s | refine (upw_n (by omega)).trans ?_)) (by first | assumption | omega) (by rfl) ?_
      rw [hB1]
      refine r_icmp_ge 115 i_M_weekBy_13 (by decide) (fun h13 => ?_) (fun h13 => (absurd (nI_le (Nat.le_refl _) (by omega)) h13))
      refine r_return i_M_weekBy_115 t_M_weekBy ?_
      exact ⟨rfl, ⟨h1, hF⟩, rfl⟩
    | succ m ih =>
      intro b hb w1 h1 hF
      have ih' := ih (b + 1) (by omega)
      have e7 : wbM M P kd a (M.2.1 38) (b + 1) = tkW (wbM M P kd a (M.2.1 38) b) b (if M.2.1 (21 + b) 4 &&& (wbM M P kd a (M.2.1 38) b).1 = 0 then namM M P kd a b (wbM M P kd a (M.2.1 38) b).2.1 else -1) := rfl
      rw [e7] at ih'
      generalize wbM M P kd a (M.2.1 38) b = X at *
      have hN : mE (mA M 38 X.2.2) M := mE.A (by omega)
      have hnm : Fn G 4 y_M_names [.ref o, .int (nI kd), .int (nI a), .int (nI b), .int X.2.1] w1 n (some (.int (namM M P kd a b X.2.1))) w1 := by
        have h9 := c_M_names (G := G) (b := b) (P := P) (a := a) (kd := kd) (x := X.2.1) h1 (by omega) hP hP7 ha k1 k6
        rw [hN.nam (by omega) hP7] at h9
        exact h9
      generalize namM M P kd a b X.2.1 = c at *
      have hB1 : (mA M 38 X.2.2).1 13 = nI B := hB
      obtain ⟨m0, mA', mL', m4, m20, m28, mn'⟩ := id h1
      have a14 : w1 (o + 14) = ai 8 (M.2.1 14) := mA' 14 rfl
      have a15 : w1 (o + 15) = ai 8 (M.2.1 15) := mA' 15 rfl
      obtain ⟨r1, r2, r3, r4, r5⟩ := row_of h1 (show b < 7 by omega)
      have r1 : w1 (o + 21 + b) = ai 5 (M.2.1 (21 + b)) := r1.trans (congrArg (ai 5) (mA_ne (by omega)))
      obtain ⟨i0, i1, i2, i3, i4⟩ := v5
      have is : vp_in (nI s) 8 := vp_in_nI hs (by decide)
      have ec : (nI s).toNatClampNeg = s := nI_clamp (by omega)
      refine r_iload (i := 4) i_M_weekBy_7 rfl ?_
      refine r_aload_n (i := 0) i_M_weekBy_9 rfl rfl ?_
      refine r_getf (ci := 6) (T := Fk6) (k := 13) o_M_weekBy i_M_weekBy_10 x_M_80 rfl (by decide) rfl (by repeat (first | assumption | exact upw_s | refine (upw_n (by omega)).trans ?_)) (by first | assumption | omega) (by rfl) ?_
      rw [hB1]
      refine r_icmp_ge 115 i_M_weekBy_13 (by decide) (fun h13 => (absurd h13 (nI_ge (by omega) (by omega)))) (fun h13 => ?_)
      refine r_aload_n (i := 0) i_M_weekBy_16 rfl rfl ?_
      refine r_getf (ci := 6) (T := Fk6) (k := 29) o_M_weekBy i_M_weekBy_17 x_M_64 rfl (by decide) rfl (by repeat (first | assumption | exact upw_s | refine (upw_n (by omega)).trans ?_)) (by first | assumption | omega) (by rfl) ?_
      refine r_iload (i := 4) i_M_weekBy_20 rfl ?_
      refine r_aload_n (i := 0) i_M_weekBy_22 rfl rfl ?_
      refine r_getf (ci := 6) (T := Fk6) (k := 14) o_M_weekBy i_M_weekBy_23 x_M_48 rfl (by decide) rfl (by repeat (first | assumption | exact upw_s | refine (upw_n (by omega)).trans ?_)) (by first | assumption | omega) (by rfl) ?_
      refine r_iload (i := 4) i_M_weekBy_26 rfl ?_
      refine r_aald i_M_weekBy_28 (by repeat (first | assumption | exact upw_s | refine (upw_n (by omega)).trans ?_)) (by decide) (by first | assumption | omega) (by assumption) r3 ?_
      refine r_iconst (v := (4 : Int32)) i_M_weekBy_29 rfl ?_
      refine r_iald i_M_weekBy_30 (by repeat (first | assumption | exact upw_s | refine (upw_n (by omega)).trans ?_)) (by first | assumption | omega) (by assumption) ?_
      refine r_iload_n (i := 2) i_M_weekBy_31 rfl rfl ?_
      refine r_iand i_M_weekBy_32 ?_
      refine r_if_eq 40 i_M_weekBy_33 (by decide) (fun h33 => ?_) (fun h33 => ?_)
      · skip
        have h33 : M.2.1 (21 + b) 4 &&& X.1 = 0 := h33
        rw [if_pos h33] at ih'
        refine r_aload_n (i := 0) i_M_weekBy_40 rfl rfl ?_
        refine r_aload_n (i := 0) i_M_weekBy_41 rfl rfl ?_
        refine r_getf (ci := 6) (T := Fk6) (k := 5) o_M_weekBy i_M_weekBy_42 x_M_28 rfl (by decide) rfl (by repeat (first | assumption | exact upw_s | refine (upw_n (by omega)).trans ?_)) (by first | assumption | omega) (by rfl) ?_
        refine r_iload_n (i := 1) i_M_weekBy_45 rfl rfl ?_
        refine r_iald i_M_weekBy_46 (by repeat (first | assumption | exact upw_s | refine (upw_n (by omega)).trans ?_)) (by first | assumption | omega) (by assumption) ?_
        refine r_aload_n (i := 0) i_M_weekBy_47 rfl rfl ?_
        refine r_getf (ci := 6) (T := Fk6) (k := 6) o_M_weekBy i_M_weekBy_48 x_M_31 rfl (by decide) rfl (by repeat (first | assumption | exact upw_s | refine (upw_n (by omega)).trans ?_)) (by first | assumption | omega) (by rfl) ?_
        refine r_iload_n (i := 1) i_M_weekBy_51 rfl rfl ?_
        refine r_iald i_M_weekBy_52 (by repeat (first | assumption | exact upw_s | refine (upw_n (by omega)).trans ?_)) (by first | assumption | omega) (by assumption) ?_
        refine r_iload (i := 4) i_M_weekBy_53 rfl ?_
        refine r_iload_n (i := 3) i_M_weekBy_55 rfl rfl ?_
        rw [ec, ek, ea]
        refine f_virtual o_M_weekBy k_M_names v_M_names x_M_108 i_M_weekBy_56 o_M_names (hnm) rfl (rcv_ob (by repeat (first | assumption | exact upw_s | refine (upw_n (by omega)).trans ?_)) rfl (by first | assumption | omega)) rfl (by decide) (Nat.le_of_ble_eq_true rfl) ?_
        exact tail_weekBy (w := w) hB (by omega) hB7 h1 hF _ ih'
      · skip
        have h33 : ¬ M.2.1 (21 + b) 4 &&& X.1 = 0 := h33
        rw [if_neg h33] at ih'
        refine r_iconst (v := (-1 : Int32)) i_M_weekBy_36 rfl ?_
        refine r_goto 59 i_M_weekBy_37 (by decide) ?_
        exact tail_weekBy (w := w) hB (by omega) hB7 h1 hF _ ih'
  refine r_iconst (v := (0 : Int32)) i_M_weekBy_0 rfl ?_
  refine r_istore_2 i_M_weekBy_1 (by rw [l_M_weekBy]; decide) rfl ?_
  refine r_iconst (v := (0 : Int32)) i_M_weekBy_2 rfl ?_
  refine r_istore_3 i_M_weekBy_3 (by rw [l_M_weekBy]; decide) rfl ?_
  refine r_iconst (v := (0 : Int32)) i_M_weekBy_4 rfl ?_
  refine r_istore_4 i_M_weekBy_5 (by rw [l_M_weekBy]; decide) rfl ?_
  refine hloop B 0 (by omega) w ?_ mFr.rf
  rw [show (wbM M P kd a (M.2.1 38) 0).2.2 = M.2.1 38 from rfl, mA_self rfl]
  exact h
theorem wb_cases {P B kd a : Nat} {f : Nat → Int32} (hP : P ≤ 7) (k1 : 1 ≤ kd) (k6 : kd ≤ 6) : ∀ B, ∀ b, b < B → (wbM M P kd a f B).2.2 b = -1 ∨ ∃ t, t < 7 ∧ (wbM M P kd a f B).2.2 b = nI t
  | B + 1, b, hb => by
    have ih := wb_cases (B := 0) (f := f) (a := a) hP k1 k6 B
    unfold wbM tkW
    show upd _ B _ b = -1 ∨ ∃ t, t < 7 ∧ upd _ B _ b = nI t
    unfold upd
    by_cases e : b = B
    · rw [if_pos e]
      split
      · rcases nam_cases (M := M) (b := B) (x := (wbM M P kd a f B).2.1) hP k1 k6 (a := a) with q | ⟨i, hi, -, q⟩
        · exact Or.inl q
        · exact Or.inr ⟨i, by omega, q⟩
      · exact Or.inl rfl
    · rw [if_neg e]
      exact ih b (by omega)
/-- weeks: what a week of thirds comes to -/
def owX (M : aM) (f : Nat → Int32) (B : Nat) (q : Int32) : Int32 := owA (mA M 38 f) B q
theorem norow1 {s : Nat} (hs : s < 8) (hR : RlOk M) (h : norow M (nI s) 1 = 0) : ∃ kd a, 1 ≤ kd ∧ kd ≤ 6 ∧ a ≤ 99 ∧ M.2.1 14 s = nI kd ∧ M.2.1 15 s = nI a ∧ M.2.1 1 s = 2 := by
  obtain ⟨-, h1, h2⟩ := norow_0 h
  rw [nI_clamp (by omega)] at h1 h2
  obtain ⟨e, ⟨kd, k1, k6, ek⟩, a, ha, ea⟩ := ((hR s hs).resolve_left h2).resolve_left h1
  exact ⟨kd, a, k1, k6, ha, ek, ea, e⟩
def m2_name (M : aM) (P : Nat) (s b x : Int32) : Int32 × aM := if (lt0 s 8 && (lt0 b (M.1 13) && inL x.toInt64 0 (allW P).toInt64)) = true then (if norow M s 1 = 0 then (namM M P (M.2.1 14 s.toNatClampNeg).toNatClampNeg (M.2.1 15 s.toNatClampNeg).toNatClampNeg b.toNatClampNeg x, M) else (-nI (norow M s 1), mR M (norow M s 1))) else (-2, mR M 2)
theorem nI_neg0 {r : Nat} (h : r < 2 ^ 31) (hr : ¬ r = 0) : ¬ -nI r = 0 := fun q => hr ((nI_eq (a := r) (b := 0) (by omega) (by decide)).mp (by have := congrArg (fun x => -x) q; rw [Int32.neg_neg] at this; exact this))
theorem c_M_name {P B : Nat} {s b x : Int32} (h : MW w o M n) (hP : M.1 10 = nI P) (hP7 : P ≤ 7) (hB : M.1 13 = nI B) (hB7 : B ≤ 7) (hR : RlOk M) : Mm G 5 y_M_name [.ref o, .int s, .int b, .int x] w o n (m2_name M P s b x) := by
  obtain ⟨m0, mA', mL', m4, m20, m28, mn'⟩ := id h
  refine Mm.of k_M_name l_M_name rfl rfl ?_
  unfold m2_name
  rw [hB]
  have hnr := c_M_noRule (G := G) (s := s) h
  have hlt := norow_lt (M := M) (s := s) (c := 1)
  have h00 : ∀ s9, s9 < 8 → s = nI s9 → norow M s 1 = 0 → ∃ kd a, 1 ≤ kd ∧ kd ≤ 6 ∧ a ≤ 99 ∧ M.2.1 14 s9 = nI kd ∧ M.2.1 15 s9 = nI a ∧ M.2.1 1 s9 = 2 := fun s9 hs e q => norow1 hs hR (by rw [← e]; exact q)
  generalize norow M s 1 = r at *
  refine r_iload_n (i := 1) i_M_name_0 rfl rfl ?_
  refine r_i2l i_M_name_1 ?_
  refine r_lconst (v := (0 : Int64)) i_M_name_2 rfl ?_
  refine r_ldc2 o_M_name i_M_name_3 x_M_83 ?_
  refine f_static o_M_name k_M_in s_M_in x_M_76 i_M_name_6 (c_M_in) rfl rfl (by decide) (Nat.le_of_ble_eq_true rfl) ?_
  rw [in_07]
  refine r_if_eq 38 i_M_name_9 (by decide) (fun h9 => ?_) (fun h9 => ?_)
  · skip
    have h9 := bI_eq0.mp h9
    try rw [h9]
    refine r_aload_n (i := 0) i_M_name_38 rfl rfl ?_
    refine r_bipush (v := (-2 : Int32)) i_M_name_39 (by decide) ?_
    refine m_virtual o_M_name k_M_refuse v_M_refuse x_M_89 i_M_name_41 o_M_refuse (c_M_refuse (i := 2) h (by decide)) rfl (rcv_ob (by repeat (first | assumption | exact upw_s | refine (upw_n (by omega)).trans ?_)) rfl (by first | assumption | omega)) rfl (by decide) (Nat.le_of_ble_eq_true rfl) (Nat.zero_le _) (Nat.zero_le _) (fun rr41 wr41 nr41 hp9 => ?_)
    obtain ⟨rfl, hp9, rfl⟩ := hp9
    refine r_ireturn i_M_name_44 t_M_name rfl ?_
    first | exact ⟨rfl, hp9, rfl⟩ | exact ⟨rfl, ⟨h, fun _ _ => rfl⟩, rfl⟩
  · skip
    have h9 := bI_ne0.mp h9
    try rw [h9]
    refine r_aload_n (i := 0) i_M_name_12 rfl rfl ?_
    refine r_iload_n (i := 2) i_M_name_13 rfl rfl ?_
    refine f_virtual o_M_name k_M_isBargain v_M_isBargain x_M_116 i_M_name_14 o_M_isBargain (c_M_isBargain h) rfl (rcv_ob (by repeat (first | assumption | exact upw_s | refine (upw_n (by omega)).trans ?_)) rfl (by first | assumption | omega)) rfl (by decide) (Nat.le_of_ble_eq_true rfl) ?_
    rw [hB, in_lt (by omega)]
    refine r_if_eq 38 i_M_name_17 (by decide) (fun h17 => ?_) (fun h17 => ?_)
    · skip
      have h17 := bI_eq0.mp h17
      try rw [h17]
      refine r_aload_n (i := 0) i_M_name_38 rfl rfl ?_
      refine r_bipush (v := (-2 : Int32)) i_M_name_39 (by decide) ?_
      refine m_virtual o_M_name k_M_refuse v_M_refuse x_M_89 i_M_name_41 o_M_refuse (c_M_refuse (i := 2) h (by decide)) rfl (rcv_ob (by repeat (first | assumption | exact upw_s | refine (upw_n (by omega)).trans ?_)) rfl (by first | assumption | omega)) rfl (by decide) (Nat.le_of_ble_eq_true rfl) (Nat.zero_le _) (Nat.zero_le _) (fun rr41 wr41 nr41 hp9 => ?_)
      obtain ⟨rfl, hp9, rfl⟩ := hp9
      refine r_ireturn i_M_name_44 t_M_name rfl ?_
      first | exact ⟨rfl, hp9, rfl⟩ | exact ⟨rfl, ⟨h, fun _ _ => rfl⟩, rfl⟩
    · skip
      have h17 := bI_ne0.mp h17
      try rw [h17]
      refine r_iload_n (i := 3) i_M_name_20 rfl rfl ?_
      refine r_i2l i_M_name_21 ?_
      refine r_lconst (v := (0 : Int64)) i_M_name_22 rfl ?_
      refine r_iconst (v := (1 : Int32)) i_M_name_23 rfl ?_
      refine r_aload_n (i := 0) i_M_name_24 rfl rfl ?_
      refine r_getf (ci := 6) (T := Fk6) (k := 10) o_M_name i_M_name_25 x_M_73 rfl (by decide) rfl (by repeat (first | assumption | exact upw_s | refine (upw_n (by omega)).trans ?_)) (by first | assumption | omega) (by rfl) ?_
      refine r_ishl i_M_name_28 ?_
      refine r_iconst (v := (1 : Int32)) i_M_name_29 rfl ?_
      refine r_isub i_M_name_30 ?_
      refine r_i2l i_M_name_31 ?_
      refine f_static o_M_name k_M_in s_M_in x_M_76 i_M_name_32 (c_M_in) rfl rfl (by decide) (Nat.le_of_ble_eq_true rfl) ?_
      refine (show Go G 5 y_M_name 35 [some (.ref o), some (.int s), some (.int b), some (.int x), none] (psh (some (.int (bI (inL x.toInt64 0 ((1 : Int32) <<< (M.1 10 &&& 31) - 1).toInt64)))) []) w n 0 0 _ from ?_)
      rw [hP, show (1 : Int32) <<< (nI P &&& 31) - 1 = allW P from rfl]
      refine r_if_ne 45 i_M_name_35 (by decide) (fun h35 => ?_) (fun h35 => ?_)
      · skip
        have h35 := bI_ne0.mp h35
        try rw [h35]
        rw [if_pos (show (true && (true && true)) = true from rfl)]
        obtain ⟨s9, hs9, rfl⟩ := lt0_of (N := 8) (by decide) h9
        obtain ⟨b, hb, rfl⟩ := lt0_of (by omega) h17
        have h00 := h00 s9 hs9 rfl
        rw [nI_clamp (by omega), nI_clamp (by omega)]
        refine r_aload_n (i := 0) i_M_name_45 rfl rfl ?_
        refine r_iload_n (i := 1) i_M_name_46 rfl rfl ?_
        refine m_virtual o_M_name k_M_noRule v_M_noRule x_M_261 i_M_name_47 o_M_noRule (hnr) rfl (rcv_ob (by repeat (first | assumption | exact upw_s | refine (upw_n (by omega)).trans ?_)) rfl (by first | assumption | omega)) rfl (by decide) (Nat.le_of_ble_eq_true rfl) (Nat.zero_le _) (Nat.zero_le _) (fun q1 w2 n1 hp9 => ?_)
        obtain ⟨rfl, ⟨hM2, hF2⟩, rfl⟩ := hp9
        refine r_istore_4 i_M_name_50 (by rw [l_M_name]; decide) rfl ?_
        refine r_iload (i := 4) i_M_name_52 rfl ?_
        refine r_if_eq 62 i_M_name_54 (by decide) (fun h54 => ?_) (fun h54 => ?_)
        · skip
          have hr : r = 0 := Classical.byContradiction (fun q => nI_neg0 (by omega) q h54)
          subst hr
          rw [if_pos rfl]
          have hM2 : MW w2 o M n1 := hM2
          obtain ⟨kd, a, k1, k6, ha, ek, ea, -⟩ := h00 rfl
          rw [ek, ea, nI_clamp (by omega), nI_clamp (by omega)]
          obtain ⟨d0, dA', dL', d4, d20, d28, dn'⟩ := id hM2
          have a14 : w2 (o + 14) = ai 8 (M.2.1 14) := dA' 14 rfl
          have a15 : w2 (o + 15) = ai 8 (M.2.1 15) := dA' 15 rfl
          have is : vp_in (nI s9) 8 := vp_in_nI hs9 (by decide)
          have ec : (nI s9).toNatClampNeg = s9 := nI_clamp (by omega)
          refine r_aload_n (i := 0) i_M_name_62 rfl rfl ?_
          refine r_aload_n (i := 0) i_M_name_63 rfl rfl ?_
          refine r_getf (ci := 6) (T := Fk6) (k := 5) o_M_name i_M_name_64 x_M_28 rfl (by decide) rfl (by repeat (first | assumption | exact upw_s | refine (upw_n (by omega)).trans ?_)) (by first | assumption | omega) (by rfl) ?_
          refine r_iload_n (i := 1) i_M_name_67 rfl rfl ?_
          refine r_iald i_M_name_68 (by repeat (first | assumption | exact upw_s | refine (upw_n (by omega)).trans ?_)) (by first | assumption | omega) (by assumption) ?_
          refine r_aload_n (i := 0) i_M_name_69 rfl rfl ?_
          refine r_getf (ci := 6) (T := Fk6) (k := 6) o_M_name i_M_name_70 x_M_31 rfl (by decide) rfl (by repeat (first | assumption | exact upw_s | refine (upw_n (by omega)).trans ?_)) (by first | assumption | omega) (by rfl) ?_
          refine r_iload_n (i := 1) i_M_name_73 rfl rfl ?_
          refine r_iald i_M_name_74 (by repeat (first | assumption | exact upw_s | refine (upw_n (by omega)).trans ?_)) (by first | assumption | omega) (by assumption) ?_
          refine r_iload_n (i := 2) i_M_name_75 rfl rfl ?_
          refine r_iload_n (i := 3) i_M_name_76 rfl rfl ?_
          rw [ec, ek, ea]
          refine f_virtual o_M_name k_M_names v_M_names x_M_108 i_M_name_77 o_M_names (c_M_names hM2 (by omega) hP hP7 ha k1 k6) rfl (rcv_ob (by repeat (first | assumption | exact upw_s | refine (upw_n (by omega)).trans ?_)) rfl (by first | assumption | omega)) rfl (by decide) (Nat.le_of_ble_eq_true rfl) ?_
          refine r_ireturn i_M_name_80 t_M_name rfl ?_
          first | exact ⟨rfl, hp9, rfl⟩ | exact ⟨rfl, ⟨hM2, hF2⟩, rfl⟩
        · skip
          have hr : ¬ r = 0 := fun q => h54 (by rw [q]; rfl)
          rw [if_neg hr]
          rw [show mRz M r = mR M r from if_neg hr] at hM2
          refine r_iload (i := 4) i_M_name_57 rfl ?_
          refine r_goto 80 i_M_name_59 (by decide) ?_
          refine r_ireturn i_M_name_80 t_M_name rfl ?_
          first | exact ⟨rfl, hp9, rfl⟩ | exact ⟨rfl, ⟨hM2, hF2⟩, rfl⟩
      · skip
        have h35 := bI_eq0.mp h35
        try rw [h35]
        refine r_aload_n (i := 0) i_M_name_38 rfl rfl ?_
        refine r_bipush (v := (-2 : Int32)) i_M_name_39 (by decide) ?_
        refine m_virtual o_M_name k_M_refuse v_M_refuse x_M_89 i_M_name_41 o_M_refuse (c_M_refuse (i := 2) h (by decide)) rfl (rcv_ob (by repeat (first | assumption | exact upw_s | refine (upw_n (by omega)).trans ?_)) rfl (by first | assumption | omega)) rfl (by decide) (Nat.le_of_ble_eq_true rfl) (Nat.zero_le _) (Nat.zero_le _) (fun rr41 wr41 nr41 hp9 => ?_)
        obtain ⟨rfl, hp9, rfl⟩ := hp9
        refine r_ireturn i_M_name_44 t_M_name rfl ?_
        first | exact ⟨rfl, hp9, rfl⟩ | exact ⟨rfl, ⟨h, fun _ _ => rfl⟩, rfl⟩
end MWK
