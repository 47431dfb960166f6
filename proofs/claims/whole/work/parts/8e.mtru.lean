-- THE REFERENCE: what comes to be in truth, judge, told, by, head
def mkM (N : aM) (b p q c : Nat) : aM := mA (mA N 18 (upd (upd (upd (N.2.1 18) p (N.2.1 18 p + N.2.1 (21 + b) 2)) q (upd (N.2.1 18) p (N.2.1 18 p + N.2.1 (21 + b) 2) q + N.2.1 (21 + b) 3)) c (upd (upd (N.2.1 18) p (N.2.1 18 p + N.2.1 (21 + b) 2)) q (upd (N.2.1 18) p (N.2.1 18 p + N.2.1 (21 + b) 2) q + N.2.1 (21 + b) 3) c - N.2.1 (29 + b) c))) 19 (upd (N.2.1 19) c (N.2.1 19 c + 1))
def cmM (M : aM) (f : Nat → Int32) : Nat → aM
  | 0 => M
  | b + 1 => if f b = -1 then cmM M f b else mkM (cmM M f b) b (M.2.1 (21 + b) 0).toNatClampNeg (M.2.1 (21 + b) 1).toNatClampNeg (f b).toNatClampNeg
def cntW (f : Nat → Int32) : Nat → Int32
  | 0 => 0
  | b + 1 => if f b = -1 then cntW f b else cntW f b + 1
theorem owF_cnt (M : aM) : ∀ B, (owF M B).2.1 = cntW (M.2.1 38) B
  | 0 => rfl
  | b + 1 => by
    have ih := owF_cnt M b
    unfold owF cntW
    by_cases e : M.2.1 38 b = -1
    · rw [if_pos e, if_pos e, ih]
    · rw [if_neg e, if_neg e, ← ih]
theorem cmM_keep {M : aM} {f : Nat → Int32} : ∀ b, (cmM M f b).1 = M.1 ∧ (∀ j, ¬ j = 18 → ¬ j = 19 → (cmM M f b).2.1 j = M.2.1 j)
  | 0 => ⟨rfl, fun _ _ _ => rfl⟩
  | b + 1 => by
    obtain ⟨h1, h2⟩ := cmM_keep (M := M) (f := f) b
    unfold cmM
    split
    · exact ⟨h1, h2⟩
    · exact ⟨h1, fun j q1 q2 => ((if_neg q2).trans (if_neg q1)).trans (h2 j q1 q2)⟩
section MTRU
variable {G : gE} {w : aW} {o n : Nat} {M : aM}
def m2_comes (M : aM) (B : Nat) : Int32 × aM := (cntW (M.2.1 38) B, mS (mS (cmM M (M.2.1 38) B) 17 (M.1 17 + 1)) 18 (M.1 18 + cntW (M.2.1 38) B))
theorem c_M_comes {B : Nat} (h : MW w o M n) (hB : M.1 13 = nI B) (hB7 : B ≤ 7) (hk : WkOk M B) (hp : PMk M B) : Mm G 3 y_M_comes [.ref o] w o n (m2_comes M B) := by
  refine Mm.of k_M_comes l_M_comes rfl rfl ?_
  unfold m2_comes
  have tl : ∀ N : aM, N.1 = M.1 → N.2.1 38 = M.2.1 38 → ∀ w1, MW w1 o N n → mFr w w1 o → Go G 3 y_M_comes 116 [some (.ref o), some (.int (nI B))] [] w1 n 0 0 (fun r w' n' => r = some (.int (cntW (M.2.1 38) B)) ∧ (MW w' o (mS (mS N 17 (M.1 17 + 1)) 18 (M.1 18 + cntW (M.2.1 38) B)) n ∧ mFr w w' o) ∧ n' = n) := by
    intro N hN1 hN2 w1 h1 hF
    have how : ∀ (N' : aM) w2, MW w2 o N' n → N'.1 13 = nI B → N'.2.1 38 = M.2.1 38 → Fn G 2 y_M_ofWeek [.ref o, .int 1] w2 n (some (.int (cntW (M.2.1 38) B))) w2 := by
      intro N' w2 h2 q1 q2
      have h9 := c_M_ofWeek (G := G) (q := 1) h2 q1 hB7 (fun b hb => by rw [q2]; exact hk b hb)
      unfold owA at h9
      rw [if_neg (by decide), if_pos rfl, owF_cnt, q2] at h9
      exact h9
    have hB1 : N.1 13 = nI B := by rw [hN1]; exact hB
    have e17 : N.1 17 = M.1 17 := by rw [hN1]
    have e18 : N.1 18 = M.1 18 := by rw [hN1]
    have h2 := h1.obj (M' := mS N 17 (N.1 17 + 1)) rfl rfl
    have h3 := h2.obj (M' := mS (mS N 17 (N.1 17 + 1)) 18 (N.1 18 + cntW (M.2.1 38) B)) rfl rfl
    obtain ⟨m0, mA', mL', m4, m20, m28, mn'⟩ := id h1
    refine r_aload_n (i := 0) i_M_comes_116 rfl rfl ?_
    refine r_dup i_M_comes_117 rfl ?_
    refine r_getf (ci := 6) (T := Fk6) (k := 17) o_M_comes i_M_comes_118 x_M_279 rfl (by decide) rfl (by repeat (first | assumption | exact upw_s | refine (upw_n (by omega)).trans ?_)) (by first | assumption | omega) (by rfl) ?_
    refine r_iconst (v := (1 : Int32)) i_M_comes_121 rfl ?_
    refine r_iadd i_M_comes_122 ?_
    refine r_putf (ci := 6) (T := Fk6) (k := 17) o_M_comes i_M_comes_123 x_M_279 rfl (by decide) rfl rfl (ok6 17 (by decide)) rfl (by repeat (first | assumption | exact upw_s | refine (upw_n (by omega)).trans ?_)) (by first | assumption | omega) (by exact Nat.le_of_ble_eq_true rfl) ?_
    refine r_aload_n (i := 0) i_M_comes_126 rfl rfl ?_
    refine r_dup i_M_comes_127 rfl ?_
    refine r_getf (ci := 6) (T := Fk6) (k := 18) o_M_comes i_M_comes_128 x_M_282 rfl (by decide) rfl (by repeat (first | assumption | exact upw_s | refine (upw_n (by omega)).trans ?_)) (by first | assumption | omega) (by rfl) ?_
    refine r_aload_n (i := 0) i_M_comes_131 rfl rfl ?_
    refine r_iconst (v := (1 : Int32)) i_M_comes_132 rfl ?_
    refine f_virtual o_M_comes k_M_ofWeek v_M_ofWeek x_M_272 i_M_comes_133 o_M_ofWeek (how _ _ h2 hB1 hN2) rfl (rcv_ob (by repeat (first | assumption | exact upw_s | refine (upw_n (by omega)).trans ?_)) rfl (by first | assumption | omega)) rfl (by decide) (Nat.le_of_ble_eq_true rfl) ?_
    refine r_iadd i_M_comes_136 ?_
    refine r_putf (ci := 6) (T := Fk6) (k := 18) o_M_comes i_M_comes_137 x_M_282 rfl (by decide) rfl rfl (ok6 18 (by decide)) rfl (by repeat (first | assumption | exact upw_s | refine (upw_n (by omega)).trans ?_)) (by first | assumption | omega) (by exact Nat.le_of_ble_eq_true rfl) ?_
    refine r_aload_n (i := 0) i_M_comes_140 rfl rfl ?_
    refine r_iconst (v := (1 : Int32)) i_M_comes_141 rfl ?_
    refine f_virtual o_M_comes k_M_ofWeek v_M_ofWeek x_M_272 i_M_comes_142 o_M_ofWeek (how _ _ h3 hB1 hN2) rfl (rcv_ob (by repeat (first | assumption | exact upw_s | refine (upw_n (by omega)).trans ?_)) rfl (by first | assumption | omega)) rfl (by decide) (Nat.le_of_ble_eq_true rfl) ?_
    refine r_ireturn i_M_comes_145 t_M_comes rfl ?_
    refine ⟨rfl, ⟨?_, (hF.up (by omega) (by omega)).up (by omega) (by omega)⟩, rfl⟩
    rw [← e17, ← e18]
    exact h3
  have hloop : ∀ m b, b + m = B → ∀ w1, MW w1 o (cmM M (M.2.1 38) b) n → mFr w w1 o → Go G 3 y_M_comes 2 [some (.ref o), some (.int (nI b))] [] w1 n 0 0 (fun r w' n' => r = some (.int (cntW (M.2.1 38) B)) ∧ (MW w' o (mS (mS (cmM M (M.2.1 38) B) 17 (M.1 17 + 1)) 18 (M.1 18 + cntW (M.2.1 38) B)) n ∧ mFr w w' o) ∧ n' = n) := by
    intro m
    induction m with
    | zero =>
      intro b hb w1 h1 hF
      have hb : b = B := by omega
      subst hb
      obtain ⟨k1, k2⟩ := cmM_keep (M := M) (f := M.2.1 38) b
      have tl := tl (cmM M (M.2.1 38) b) k1 (k2 38 (by decide) (by decide)) w1 h1 hF
      have hB1 : (cmM M (M.2.1 38) b).1 13 = nI b := by rw [k1]; exact hB
      obtain ⟨m0, mA', mL', m4, m20, m28, mn'⟩ := id h1
      refine r_iload_n (i := 1) i_M_comes_2 rfl rfl ?_
      refine r_aload_n (i := 0) i_M_comes_3 rfl rfl ?_
      refine r_getf (ci := 6) (T := Fk6) (k := 13) o_M_comes i_M_comes_4 x_M_80 rfl (by decide) rfl (by repeat (first | assumption | exact upw_s | refine (upw_n (by omega)).trans ?_)) (by first | assumption | omega) (by rfl) ?_
      rw [hB1]
      refine r_icmp_ge 116 i_M_comes_7 (by decide) (fun h7 => ?_) (fun h7 => (absurd (nI_le (Nat.le_refl _) (by omega)) h7))
      exact tl
    | succ m ih =>
      intro b hb w1 h1 hF
      have ih' := ih (b + 1) (by omega)
      have e7 : cmM M (M.2.1 38) (b + 1) = if M.2.1 38 b = -1 then cmM M (M.2.1 38) b else mkM (cmM M (M.2.1 38) b) b (M.2.1 (21 + b) 0).toNatClampNeg (M.2.1 (21 + b) 1).toNatClampNeg (M.2.1 38 b).toNatClampNeg := rfl
      rw [e7] at ih'
      obtain ⟨k1, k2⟩ := cmM_keep (M := M) (f := M.2.1 38) b
      generalize cmM M (M.2.1 38) b = N at *
      have hB1 : N.1 13 = nI B := by rw [k1]; exact hB
      obtain ⟨p, q, hp7, hq7, ep, eq⟩ := hp b (by omega)
      have hk' := hk b (by omega)
      rw [ep, eq, nI_clamp (by omega), nI_clamp (by omega)] at ih'
      have e38 : N.2.1 38 = M.2.1 38 := k2 38 (by decide) (by decide)
      have ep1 : N.2.1 (21 + b) 0 = nI p := by rw [k2 (21 + b) (by omega) (by omega)]; exact ep
      have eq1 : N.2.1 (21 + b) 1 = nI q := by rw [k2 (21 + b) (by omega) (by omega)]; exact eq
      obtain ⟨m0, mA', mL', m4, m20, m28, mn'⟩ := id h1
      obtain ⟨r1, r2, r3, r4, r5⟩ := row_of h1 (show b < 7 by omega)
      obtain ⟨i0, i1, i2, i3, i4⟩ := v5
      have a18 : w1 (o + 18) = ai 7 (N.2.1 18) := mA' 18 rfl
      have a19 : w1 (o + 19) = ai 7 (N.2.1 19) := mA' 19 rfl
      have a38 : w1 (o + 38) = ai 7 (N.2.1 38) := mA' 38 rfl
      have ib : vp_in (nI b) 7 := vp_in_nI (by omega) (by decide)
      have ip : vp_in (nI p) 7 := vp_in_nI (by omega) (by decide)
      have iq : vp_in (nI q) 7 := vp_in_nI (by omega) (by decide)
      have ec : (nI b).toNatClampNeg = b := nI_clamp (by omega)
      have ecp : (nI p).toNatClampNeg = p := nI_clamp (by omega)
      have ecq : (nI q).toNatClampNeg = q := nI_clamp (by omega)
      refine r_iload_n (i := 1) i_M_comes_2 rfl rfl ?_
      refine r_aload_n (i := 0) i_M_comes_3 rfl rfl ?_
      refine r_getf (ci := 6) (T := Fk6) (k := 13) o_M_comes i_M_comes_4 x_M_80 rfl (by decide) rfl (by repeat (first | assumption | exact upw_s | refine (upw_n (by omega)).trans ?_)) (by first | assumption | omega) (by rfl) ?_
      rw [hB1]
      refine r_icmp_ge 116 i_M_comes_7 (by decide) (fun h7 => (absurd h7 (nI_ge (by omega) (by omega)))) (fun h7 => ?_)
      refine r_aload_n (i := 0) i_M_comes_10 rfl rfl ?_
      refine r_getf (ci := 6) (T := Fk6) (k := 29) o_M_comes i_M_comes_11 x_M_64 rfl (by decide) rfl (by repeat (first | assumption | exact upw_s | refine (upw_n (by omega)).trans ?_)) (by first | assumption | omega) (by rfl) ?_
      refine r_iload_n (i := 1) i_M_comes_14 rfl rfl ?_
      refine r_iald i_M_comes_15 (by repeat (first | assumption | exact upw_s | refine (upw_n (by omega)).trans ?_)) (by first | assumption | omega) (by assumption) ?_
      rw [ec, e38]
      refine r_iconst (v := (-1 : Int32)) i_M_comes_16 rfl ?_
      refine r_icmp_eq 110 i_M_comes_17 (by decide) (fun h17 => ?_) (fun h17 => ?_)
      · skip
        rw [if_pos h17] at ih'
        try rw [ecc]
        refine r_iinc_1 (v := (1 : Int32)) i_M_comes_110 rfl (by rw [l_M_comes]; decide) rfl ?_
        refine r_goto 2 i_M_comes_113 (by decide) ?_
        rw [nI_1]
        first
          | exact ih' _ h1 hF
          | (refine ih' _ ?_ ((((hF.up (by omega) (by omega)).up (by omega) (by omega)).up (by omega) (by omega)).up (by omega) (by omega))
             have h9 := (((h1.arr (j := 18) (f := upd (N.2.1 18) p (N.2.1 18 p + N.2.1 (21 + b) 2)) rfl).arr (j := 18) (f := upd (upd (N.2.1 18) p (N.2.1 18 p + N.2.1 (21 + b) 2)) q (upd (N.2.1 18) p (N.2.1 18 p + N.2.1 (21 + b) 2) q + N.2.1 (21 + b) 3)) rfl).arr (j := 18) (f := upd (upd (upd (N.2.1 18) p (N.2.1 18 p + N.2.1 (21 + b) 2)) q (upd (N.2.1 18) p (N.2.1 18 p + N.2.1 (21 + b) 2) q + N.2.1 (21 + b) 3)) c (upd (upd (N.2.1 18) p (N.2.1 18 p + N.2.1 (21 + b) 2)) q (upd (N.2.1 18) p (N.2.1 18 p + N.2.1 (21 + b) 2) q + N.2.1 (21 + b) 3) c - N.2.1 (29 + b) c)) rfl).arr (j := 19) (f := upd (N.2.1 19) c (N.2.1 19 c + 1)) rfl
             rw [mA_A, mA_A] at h9
             exact h9)
      · skip
        rw [if_neg h17] at ih'
        obtain ⟨c, hc7, et⟩ := hk'.resolve_left h17
        rw [et, nI_clamp (by omega)] at ih'
        have et1 : N.2.1 38 b = nI c := by rw [e38]; exact et
        have ic : vp_in (nI c) 7 := vp_in_nI (by omega) (by decide)
        have ecc : (nI c).toNatClampNeg = c := nI_clamp (by omega)
        refine r_aload_n (i := 0) i_M_comes_20 rfl rfl ?_
        refine r_getf (ci := 6) (T := Fk6) (k := 11) o_M_comes i_M_comes_21 x_M_40 rfl (by decide) rfl (by repeat (first | assumption | exact upw_s | refine (upw_n (by omega)).trans ?_)) (by first | assumption | omega) (by rfl) ?_
        refine r_aload_n (i := 0) i_M_comes_24 rfl rfl ?_
        refine r_getf (ci := 6) (T := Fk6) (k := 14) o_M_comes i_M_comes_25 x_M_48 rfl (by decide) rfl (by repeat (first | assumption | exact upw_s | refine (upw_n (by omega)).trans ?_)) (by first | assumption | omega) (by rfl) ?_
        refine r_iload_n (i := 1) i_M_comes_28 rfl rfl ?_
        refine r_aald i_M_comes_29 (by repeat (first | assumption | exact upw_s | refine (upw_n (by omega)).trans ?_)) (by decide) (by first | assumption | omega) (by assumption) (by first | exact r3 | exact r4) ?_
        refine r_iconst (v := (0 : Int32)) i_M_comes_30 rfl ?_
        refine r_iald i_M_comes_31 (by repeat (first | assumption | exact upw_s | refine (upw_n (by omega)).trans ?_)) (by first | assumption | omega) (by assumption) ?_
        rw [show N.2.1 (21 + b) (Int32.toNatClampNeg 0) = nI p from ep1]
        refine r_dup2_11 i_M_comes_32 rfl rfl ?_
        refine r_iald i_M_comes_33 (by repeat (first | assumption | exact upw_s | refine (upw_n (by omega)).trans ?_)) (by first | assumption | omega) (by assumption) ?_
        rw [ecp]
        refine r_aload_n (i := 0) i_M_comes_34 rfl rfl ?_
        refine r_getf (ci := 6) (T := Fk6) (k := 14) o_M_comes i_M_comes_35 x_M_48 rfl (by decide) rfl (by repeat (first | assumption | exact upw_s | refine (upw_n (by omega)).trans ?_)) (by first | assumption | omega) (by rfl) ?_
        refine r_iload_n (i := 1) i_M_comes_38 rfl rfl ?_
        refine r_aald i_M_comes_39 (by repeat (first | assumption | exact upw_s | refine (upw_n (by omega)).trans ?_)) (by decide) (by first | assumption | omega) (by assumption) (by first | exact r3 | exact r4) ?_
        refine r_iconst (v := (2 : Int32)) i_M_comes_40 rfl ?_
        refine r_iald i_M_comes_41 (by repeat (first | assumption | exact upw_s | refine (upw_n (by omega)).trans ?_)) (by first | assumption | omega) (by assumption) ?_
        refine r_iadd i_M_comes_42 ?_
        refine r_iast i_M_comes_43 (by repeat (first | assumption | exact upw_s | refine (upw_n (by omega)).trans ?_)) (by first | assumption | omega) (by assumption) ?_
        rw [ecp]
        refine r_aload_n (i := 0) i_M_comes_44 rfl rfl ?_
        refine r_getf (ci := 6) (T := Fk6) (k := 11) o_M_comes i_M_comes_45 x_M_40 rfl (by decide) rfl (by repeat (first | assumption | exact upw_s | refine (upw_n (by omega)).trans ?_)) (by first | assumption | omega) (by rfl) ?_
        refine r_aload_n (i := 0) i_M_comes_48 rfl rfl ?_
        refine r_getf (ci := 6) (T := Fk6) (k := 14) o_M_comes i_M_comes_49 x_M_48 rfl (by decide) rfl (by repeat (first | assumption | exact upw_s | refine (upw_n (by omega)).trans ?_)) (by first | assumption | omega) (by rfl) ?_
        refine r_iload_n (i := 1) i_M_comes_52 rfl rfl ?_
        refine r_aald i_M_comes_53 (by repeat (first | assumption | exact upw_s | refine (upw_n (by omega)).trans ?_)) (by decide) (by first | assumption | omega) (by assumption) (by first | exact r3 | exact r4) ?_
        refine r_iconst (v := (1 : Int32)) i_M_comes_54 rfl ?_
        refine r_iald i_M_comes_55 (by repeat (first | assumption | exact upw_s | refine (upw_n (by omega)).trans ?_)) (by first | assumption | omega) (by assumption) ?_
        rw [show N.2.1 (21 + b) (Int32.toNatClampNeg 1) = nI q from eq1]
        refine r_dup2_11 i_M_comes_56 rfl rfl ?_
        refine r_iald i_M_comes_57 (by repeat (first | assumption | exact upw_s | refine (upw_n (by omega)).trans ?_)) (by first | assumption | omega) (by assumption) ?_
        rw [ecq]
        refine r_aload_n (i := 0) i_M_comes_58 rfl rfl ?_
        refine r_getf (ci := 6) (T := Fk6) (k := 14) o_M_comes i_M_comes_59 x_M_48 rfl (by decide) rfl (by repeat (first | assumption | exact upw_s | refine (upw_n (by omega)).trans ?_)) (by first | assumption | omega) (by rfl) ?_
        refine r_iload_n (i := 1) i_M_comes_62 rfl rfl ?_
        refine r_aald i_M_comes_63 (by repeat (first | assumption | exact upw_s | refine (upw_n (by omega)).trans ?_)) (by decide) (by first | assumption | omega) (by assumption) (by first | exact r3 | exact r4) ?_
        refine r_iconst (v := (3 : Int32)) i_M_comes_64 rfl ?_
        refine r_iald i_M_comes_65 (by repeat (first | assumption | exact upw_s | refine (upw_n (by omega)).trans ?_)) (by first | assumption | omega) (by assumption) ?_
        refine r_iadd i_M_comes_66 ?_
        refine r_iast i_M_comes_67 (by repeat (first | assumption | exact upw_s | refine (upw_n (by omega)).trans ?_)) (by first | assumption | omega) (by assumption) ?_
        rw [ecq]
        refine r_aload_n (i := 0) i_M_comes_68 rfl rfl ?_
        refine r_getf (ci := 6) (T := Fk6) (k := 11) o_M_comes i_M_comes_69 x_M_40 rfl (by decide) rfl (by repeat (first | assumption | exact upw_s | refine (upw_n (by omega)).trans ?_)) (by first | assumption | omega) (by rfl) ?_
        refine r_aload_n (i := 0) i_M_comes_72 rfl rfl ?_
        refine r_getf (ci := 6) (T := Fk6) (k := 29) o_M_comes i_M_comes_73 x_M_64 rfl (by decide) rfl (by repeat (first | assumption | exact upw_s | refine (upw_n (by omega)).trans ?_)) (by first | assumption | omega) (by rfl) ?_
        refine r_iload_n (i := 1) i_M_comes_76 rfl rfl ?_
        refine r_iald i_M_comes_77 (by repeat (first | assumption | exact upw_s | refine (upw_n (by omega)).trans ?_)) (by first | assumption | omega) (by assumption) ?_
        rw [ec, et1]
        refine r_dup2_11 i_M_comes_78 rfl rfl ?_
        refine r_iald i_M_comes_79 (by repeat (first | assumption | exact upw_s | refine (upw_n (by omega)).trans ?_)) (by first | assumption | omega) (by assumption) ?_
        rw [ecc]
        refine r_aload_n (i := 0) i_M_comes_80 rfl rfl ?_
        refine r_getf (ci := 6) (T := Fk6) (k := 15) o_M_comes i_M_comes_81 x_M_51 rfl (by decide) rfl (by repeat (first | assumption | exact upw_s | refine (upw_n (by omega)).trans ?_)) (by first | assumption | omega) (by rfl) ?_
        refine r_iload_n (i := 1) i_M_comes_84 rfl rfl ?_
        refine r_aald i_M_comes_85 (by repeat (first | assumption | exact upw_s | refine (upw_n (by omega)).trans ?_)) (by decide) (by first | assumption | omega) (by assumption) (by first | exact r3 | exact r4) ?_
        refine r_aload_n (i := 0) i_M_comes_86 rfl rfl ?_
        refine r_getf (ci := 6) (T := Fk6) (k := 29) o_M_comes i_M_comes_87 x_M_64 rfl (by decide) rfl (by repeat (first | assumption | exact upw_s | refine (upw_n (by omega)).trans ?_)) (by first | assumption | omega) (by rfl) ?_
        refine r_iload_n (i := 1) i_M_comes_90 rfl rfl ?_
        refine r_iald i_M_comes_91 (by repeat (first | assumption | exact upw_s | refine (upw_n (by omega)).trans ?_)) (by first | assumption | omega) (by assumption) ?_
        rw [ec, et1]
        refine r_iald i_M_comes_92 (by repeat (first | assumption | exact upw_s | refine (upw_n (by omega)).trans ?_)) (by first | assumption | omega) (by assumption) ?_
        rw [ecc]
        refine r_isub i_M_comes_93 ?_
        refine r_iast i_M_comes_94 (by repeat (first | assumption | exact upw_s | refine (upw_n (by omega)).trans ?_)) (by first | assumption | omega) (by assumption) ?_
        rw [ecc]
        refine r_aload_n (i := 0) i_M_comes_95 rfl rfl ?_
        refine r_getf (ci := 6) (T := Fk6) (k := 12) o_M_comes i_M_comes_96 x_M_43 rfl (by decide) rfl (by repeat (first | assumption | exact upw_s | refine (upw_n (by omega)).trans ?_)) (by first | assumption | omega) (by rfl) ?_
        refine r_aload_n (i := 0) i_M_comes_99 rfl rfl ?_
        refine r_getf (ci := 6) (T := Fk6) (k := 29) o_M_comes i_M_comes_100 x_M_64 rfl (by decide) rfl (by repeat (first | assumption | exact upw_s | refine (upw_n (by omega)).trans ?_)) (by first | assumption | omega) (by rfl) ?_
        refine r_iload_n (i := 1) i_M_comes_103 rfl rfl ?_
        refine r_iald i_M_comes_104 (by repeat (first | assumption | exact upw_s | refine (upw_n (by omega)).trans ?_)) (by first | assumption | omega) (by assumption) ?_
        rw [ec, et1]
        refine r_dup2_11 i_M_comes_105 rfl rfl ?_
        refine r_iald i_M_comes_106 (by repeat (first | assumption | exact upw_s | refine (upw_n (by omega)).trans ?_)) (by first | assumption | omega) (by assumption) ?_
        rw [ecc]
        refine r_iconst (v := (1 : Int32)) i_M_comes_107 rfl ?_
        refine r_iadd i_M_comes_108 ?_
        refine r_iast i_M_comes_109 (by repeat (first | assumption | exact upw_s | refine (upw_n (by omega)).trans ?_)) (by first | assumption | omega) (by assumption) ?_
        try rw [ecc]
        refine r_iinc_1 (v := (1 : Int32)) i_M_comes_110 rfl (by rw [l_M_comes]; decide) rfl ?_
        refine r_goto 2 i_M_comes_113 (by decide) ?_
        rw [nI_1]
        first
          | exact ih' _ h1 hF
          | (refine ih' _ ?_ ((((hF.up (by omega) (by omega)).up (by omega) (by omega)).up (by omega) (by omega)).up (by omega) (by omega))
             have h9 := (((h1.arr (j := 18) (f := upd (N.2.1 18) p (N.2.1 18 p + N.2.1 (21 + b) 2)) rfl).arr (j := 18) (f := upd (upd (N.2.1 18) p (N.2.1 18 p + N.2.1 (21 + b) 2)) q (upd (N.2.1 18) p (N.2.1 18 p + N.2.1 (21 + b) 2) q + N.2.1 (21 + b) 3)) rfl).arr (j := 18) (f := upd (upd (upd (N.2.1 18) p (N.2.1 18 p + N.2.1 (21 + b) 2)) q (upd (N.2.1 18) p (N.2.1 18 p + N.2.1 (21 + b) 2) q + N.2.1 (21 + b) 3)) c (upd (upd (N.2.1 18) p (N.2.1 18 p + N.2.1 (21 + b) 2)) q (upd (N.2.1 18) p (N.2.1 18 p + N.2.1 (21 + b) 2) q + N.2.1 (21 + b) 3) c - N.2.1 (29 + b) c)) rfl).arr (j := 19) (f := upd (N.2.1 19) c (N.2.1 19 c + 1)) rfl
             rw [mA_A, mA_A] at h9
             exact h9)
  refine r_iconst (v := (0 : Int32)) i_M_comes_0 rfl ?_
  refine r_istore_1 i_M_comes_1 (by rw [l_M_comes]; decide) rfl ?_
  exact hloop B 0 (by omega) w h mFr.rf
end MTRU
