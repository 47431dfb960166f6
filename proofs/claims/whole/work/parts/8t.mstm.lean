-- THE REFERENCE: its reader's statements beside the class's
def nOk (M N : aM) (f : Nat → Int32) (z i : Nat) (v : aV) : Prop := RS N f z v.2.1 ∧ isLx f z v.2.1 ∧ N.2.1 37 = upd (M.2.1 37) i v.1 ∧ scr M N
def numP (w : aW) (o n : Nat) (M : aM) (f : Nat → Int32) (z i : Nat) (v : aV) : Option Value → aW → Nat → Prop := fun r w' n' => n' = n ∧ mFr w w' o ∧ ∃ x : Int32, r = some (.int x) ∧ ((x = 1 ∧ v.2.2 = -1 ∧ ∃ N, MW w' o N n ∧ nOk M N f z i v) ∨ (x = 0 ∧ ¬ v.2.2 = -1 ∧ ∃ N, MW w' o N n ∧ scr M N ∧ N.1 26 = v.2.2))
def stP (w : aW) (o n : Nat) (M : aM) (f : Nat → Int32) (z : Nat) (q : aP) : Option Value → aW → Nat → Prop := fun r w' n' => n' = n ∧ mFr w w' o ∧ ∃ x : Int32, r = some (.int x) ∧ ((x = 1 ∧ q.2.1 = -1 ∧ ∃ N, MW w' o N n ∧ keepM M N ∧ RS N f z q.1 ∧ isLx f z q.1 ∧ TQ q.2.2 N) ∨ (x = 0 ∧ ¬ q.2.1 = -1 ∧ ∃ N, MW w' o N n ∧ keepM M N ∧ N.1 26 = q.2.1))
theorem rn_fa {f : Nat → Int32} {z : Nat} {L : aL} {fa lo hi but : Int32} (h : ¬ fa = -1) : (rnR f z L fa lo hi but).2.2 = fa := by
  unfold rnR
  split
  · rfl
  · show (if fa = -1 then nI L.2.2 else fa) = fa
    exact if_neg h
theorem fa_m1 {L : aL} : faF L (-1) = nI L.2.2 := if_pos rfl
theorem lo_0 {c : Nat} : 0 ≤ (if nI c = 0 then (1 : Int32) else 0).toInt := by split <;> decide
theorem most_le {c : Nat} (hc : c < 4) : (mostN c).toInt ≤ 999 := by
  rcases (show c = 0 ∨ c = 1 ∨ c = 2 ∨ c = 3 by omega) with rfl | rfl | rfl | rfl <;> decide
theorem hi_le {N : Nat} (hN : N ≤ 7) : (nI N - 1).toInt ≤ 999 := by
  rw [Int32.toInt_sub, toInt_nI (by omega), show (1 : Int32).toInt = 1 from rfl, Int.bmod_eq_of_le (by omega) (by omega)]
  omega
section MSTM
variable {G : gE} {w : aW} {o n : Nat} {M : aM} {f : Nat → Int32} {z : Nat} {L : aL}
theorem num_of {i : Nat} {lo hi but : Int32} {v : aV} {w' : aW} (hR : RS M f z L) (hL : isLx f z L) (hz : z ≤ 250) (hv : rnR f z L (-1) lo hi but = v) (h : MW w' o (nmM M f z L i lo hi but).2 n) : ((nmM M f z L i lo hi but).1 = 1 ∧ v.2.2 = -1 ∧ ∃ N, MW w' o N n ∧ nOk M N f z i v) ∨ ((nmM M f z L i lo hi but).1 = 0 ∧ ¬ v.2.2 = -1 ∧ ∃ N, MW w' o N n ∧ scr M N ∧ N.1 26 = v.2.2) := by
  subst hv
  unfold nmM at h ⊢
  unfold rnR
  by_cases q : okN (rnV f L) lo hi but = true
  · rw [if_pos q] at h ⊢
    rw [q]
    exact Or.inl ⟨rfl, rfl, _, h, RS.lk hR.2.2.2.2.1 hR.2.2.2.2.2, hL.nx, rfl, scr_37.tr scr_P⟩
  · rw [Bool.not_eq_true] at q
    rw [q] at h ⊢
    rw [if_neg (by decide)] at h
    refine Or.inr ⟨rfl, show ¬ faF L (-1) = -1 from faF_ne hL.ok hz, _, h, scr_26, ?_⟩
    show M.1 24 = faF L (-1)
    rw [fa_m1]
    exact hR.2.2.1
theorem c_num {i : Nat} {lo hi : Int32} {v : aV} (h : MW w o M n) (hR : RS M f z L) (hz : z ≤ 250) (hL : isLx f z L) (hi4 : i < 4) (hl : 0 ≤ lo.toInt) (hh : hi.toInt ≤ 999) (hv : rnR f z L (-1) lo hi (-1) = v) : Mt G 2 y_M_number [.ref o, .int (nI i), .int lo, .int hi] w n 0 0 (numP w o n M f z i v) :=
  mt_post (c_M_number h hR hz hL hi4 hl hh) (fun r w' n' q => ⟨q.2.2, q.2.1.2, _, q.1, num_of hR hL hz hv q.2.1.1⟩)
theorem c_unl {i : Nat} {hi but : Int32} {v : aV} (h : MW w o M n) (hR : RS M f z L) (hz : z ≤ 250) (hL : isLx f z L) (hi1 : 1 ≤ i) (hi4 : i < 4) (hh : hi.toInt ≤ 999) (hb : M.2.1 37 (i - 1) = but) (hb9 : but.toInt ≤ 999) (hv : rnR f z L (-1) 0 hi but = v) : Mt G 3 y_M_unlike [.ref o, .int (nI i), .int hi] w n 0 0 (numP w o n M f z i v) :=
  mt_post (c_M_unlike h hR hz hL hi1 hi4 hh hb hb9) (fun r w' n' q => ⟨q.2.2, q.2.1.2, _, q.1, num_of hR hL hz hv q.2.1.1⟩)
theorem c_tel {i j : Nat} {lo hi : Int32} {v : aV} (hfm : (gfm G).category = 1) (h : MW w o M n) (hR : RS M f z L) (hz : z ≤ 250) (hL : isLx f z L) (hj : j < 9) (hi4 : i < 4) (hl : 0 ≤ lo.toInt) (hh : hi.toInt ≤ 999) (hw : wordB f L j = true) (hv : rnR f z (lexF f z L.1) (-1) lo hi (-1) = v) : Mt G 5 y_M_tells [.ref o, .ref (gB + j), .int (nI i), .int lo, .int hi] w n 0 0 (numP w o n M f z i v) := by
  refine mt_post (c_M_tells hfm h hR hz hL hj hi4 hl hh) (fun r w' n' q => ⟨q.2.2, q.2.1.2, _, q.1, ?_⟩)
  have q2 := q.2.1.1
  unfold tlN at q2 ⊢
  rw [if_pos hw] at q2
  rw [hw, Bool.true_and]
  have hRS : RS (mLk M f z (lexF f z L.1)) f z (lexF f z L.1) := RS.lk hR.2.2.2.2.1 hR.2.2.2.2.2
  rcases num_of hRS hL.nx hz hv q2 with ⟨a, b, N, c, d1, d2, d3, d4⟩ | ⟨a, b, N, c, d, e⟩
  · exact Or.inl ⟨a, b, N, c, d1, d2, d3, scr_P.tr d4⟩
  · exact Or.inr ⟨a, b, N, c, scr_P.tr d, e⟩
theorem c_M_askedTold {c : Nat} {S : aS} (hfm : (gfm G).category = 1) (h : MW w o M n) (hR : RS M f z L) (hz : z ≤ 250) (hL : isLx f z L) (hT : TQ S M) (hc : c < 4) (hw : wordB f L (5 + c) = true) : Mt G 6 y_M_askedTold [.ref o, .ref (gB + (5 + c)), .int (nI c)] w n 0 0 (stP w o n M f z (stLaw f z c (L, -1, S))) := by
  refine Mt.of k_M_askedTold l_M_askedTold (Nat.le_of_ble_eq_true rfl) rfl ?_
  have g0 := h.1
  have hn := h.2.2.2.2.2.2
  have ic : vp_in (nI c) 4 := vp_in_nI hc (by decide)
  have ec : (nI c).toNatClampNeg = c := nI_clamp (by omega)
  obtain ⟨j0, j1, j2, j3⟩ := v4
  obtain ⟨v, hv⟩ : ∃ v, lw1 f z c (L, -1, S) = v := ⟨_, rfl⟩
  have e9 : stLaw f z c (L, -1, S) = (v.2.1, v.2.2, if v.2.2 = -1 then upS S (2 + c) v.1 else S) := by rw [← hv]; rfl
  have hv : rnR f z (lexF f z L.1) (-1) (if nI c = 0 then 1 else 0) (mostN c) (-1) = v := hv
  have htl := fun lo (e : (if nI c = 0 then (1 : Int32) else 0) = lo) => c_tel (G := G) (i := 0) (j := 5 + c) (lo := lo) (hi := mostN c) (v := v) hfm h hR hz hL (by omega) (by decide) (by rw [← e]; exact lo_0) (most_le hc) hw (by rw [← e]; exact hv)
  rw [e9]
  have t19 : ∀ w2, mFr w w2 o → ∀ x : Int32, ((x = 1 ∧ v.2.2 = -1 ∧ ∃ N, MW w2 o N n ∧ nOk M N f z 0 v) ∨ (x = 0 ∧ ¬ v.2.2 = -1 ∧ ∃ N, MW w2 o N n ∧ scr M N ∧ N.1 26 = v.2.2)) → Go G 6 y_M_askedTold 19 [some (.ref o), some (.ref (gB + (5 + c))), some (.int (nI c)), none] [.int x] w2 n 0 0 (stP w o n M f z (v.2.1, v.2.2, if v.2.2 = -1 then upS S (2 + c) v.1 else S)) := by
    intro w2 hF x hx
    rcases hx with ⟨rfl, e1, N, hN, d1, d2, d3, d4⟩ | ⟨rfl, e1, N, hN, d1, d2⟩
    · rw [if_pos e1]
      have a36 : w2 (o + 36) = ai 4 (N.2.1 36) := hN.2.1 36 rfl
      have a37 : w2 (o + 37) = ai 4 (N.2.1 37) := hN.2.1 37 rfl
      have m0 := hN.1
      have h3 := hN.arr (j := 36) (f := upd (N.2.1 36) c v.1) rfl
      have e37 : N.2.1 37 0 = v.1 := by rw [d3]; exact upd_at
      refine r_istore_3 i_M_askedTold_19 (by rw [l_M_askedTold]; decide) rfl ?_
      refine r_aload_n (i := 0) i_M_askedTold_20 rfl rfl ?_
      refine r_getf (ci := 6) (T := Fk6) (k := 16) o_M_askedTold i_M_askedTold_21 x_M_54 rfl (by decide) rfl (by repeat (first | assumption | exact upw_s | refine (upw_n (by omega)).trans ?_)) (by first | assumption | omega) (by rfl) ?_
      refine r_iload_n (i := 2) i_M_askedTold_24 rfl rfl ?_
      refine r_iload_n (i := 3) i_M_askedTold_25 rfl rfl ?_
      refine r_if_eq 38 i_M_askedTold_26 (by decide) (fun h26 => (absurd h26 (by decide))) (fun h26 => ?_)
      refine r_aload_n (i := 0) i_M_askedTold_29 rfl rfl ?_
      refine r_getf (ci := 6) (T := Fk6) (k := 27) o_M_askedTold i_M_askedTold_30 x_M_61 rfl (by decide) rfl (by repeat (first | assumption | exact upw_s | refine (upw_n (by omega)).trans ?_)) (by first | assumption | omega) (by rfl) ?_
      refine r_iconst (v := (0 : Int32)) i_M_askedTold_33 rfl ?_
      refine r_iald i_M_askedTold_34 (by repeat (first | assumption | exact upw_s | refine (upw_n (by omega)).trans ?_)) (by first | assumption | omega) (by assumption) ?_
      refine r_goto 44 i_M_askedTold_35 (by decide) ?_
      rw [show N.2.1 37 (Int32.toNatClampNeg 0) = v.1 from e37]
      refine r_iast i_M_askedTold_44 (by repeat (first | assumption | exact upw_s | refine (upw_n (by omega)).trans ?_)) (by first | assumption | omega) (by assumption) ?_
      rw [ec]
      refine r_iload_n (i := 3) i_M_askedTold_45 rfl rfl ?_
      refine r_ireturn i_M_askedTold_46 t_M_askedTold rfl ⟨rfl, hF.up (by omega) (by omega), 1, rfl, Or.inl ⟨rfl, e1, _, h3, ⟨fun j hj => (mA_ne (by omega)).trans (d4.keep.1 j hj), d4.keep.2.1, d4.keep.2.2.1, d4.keep.2.2.2⟩, d1.of (fun _ _ => rfl) (mA_ne (by decide)), d2, (hT.scr d4).law hc⟩⟩
      skip
    · rw [if_neg e1]
      have a36 : w2 (o + 36) = ai 4 (N.2.1 36) := hN.2.1 36 rfl
      have m0 := hN.1
      have h3 := hN.arr (j := 36) (f := upd (N.2.1 36) c (N.2.1 36 c)) rfl
      refine r_istore_3 i_M_askedTold_19 (by rw [l_M_askedTold]; decide) rfl ?_
      refine r_aload_n (i := 0) i_M_askedTold_20 rfl rfl ?_
      refine r_getf (ci := 6) (T := Fk6) (k := 16) o_M_askedTold i_M_askedTold_21 x_M_54 rfl (by decide) rfl (by repeat (first | assumption | exact upw_s | refine (upw_n (by omega)).trans ?_)) (by first | assumption | omega) (by rfl) ?_
      refine r_iload_n (i := 2) i_M_askedTold_24 rfl rfl ?_
      refine r_iload_n (i := 3) i_M_askedTold_25 rfl rfl ?_
      refine r_if_eq 38 i_M_askedTold_26 (by decide) (fun h26 => ?_) (fun h26 => (absurd rfl h26))
      refine r_aload_n (i := 0) i_M_askedTold_38 rfl rfl ?_
      refine r_getf (ci := 6) (T := Fk6) (k := 16) o_M_askedTold i_M_askedTold_39 x_M_54 rfl (by decide) rfl (by repeat (first | assumption | exact upw_s | refine (upw_n (by omega)).trans ?_)) (by first | assumption | omega) (by rfl) ?_
      refine r_iload_n (i := 2) i_M_askedTold_42 rfl rfl ?_
      refine r_iald i_M_askedTold_43 (by repeat (first | assumption | exact upw_s | refine (upw_n (by omega)).trans ?_)) (by first | assumption | omega) (by assumption) ?_
      rw [ec]
      refine r_iast i_M_askedTold_44 (by repeat (first | assumption | exact upw_s | refine (upw_n (by omega)).trans ?_)) (by first | assumption | omega) (by assumption) ?_
      rw [ec]
      refine r_iload_n (i := 3) i_M_askedTold_45 rfl rfl ?_
      refine r_ireturn i_M_askedTold_46 t_M_askedTold rfl ⟨rfl, hF.up (by omega) (by omega), 0, rfl, Or.inr ⟨rfl, e1, _, h3, ⟨fun j hj => (mA_ne (by omega)).trans (d1.keep.1 j hj), d1.keep.2.1, d1.keep.2.2.1, d1.keep.2.2.2⟩, d2⟩⟩
      skip
  refine r_aload_n (i := 0) i_M_askedTold_0 rfl rfl ?_
  refine r_aload_n (i := 1) i_M_askedTold_1 rfl rfl ?_
  refine r_iconst (v := (0 : Int32)) i_M_askedTold_2 rfl ?_
  refine r_iload_n (i := 2) i_M_askedTold_3 rfl rfl ?_
  refine r_if_ne 11 i_M_askedTold_4 (by decide) (fun h4 => ?_) (fun h4 => ?_)
  · skip
    have htl := htl 0 (if_neg h4)
    refine r_iconst (v := (0 : Int32)) i_M_askedTold_11 rfl ?_
    refine r_iload_n (i := 2) i_M_askedTold_12 rfl rfl ?_
    refine f_static o_M_askedTold k_M_mostOf s_M_mostOf x_M_127 i_M_askedTold_13 (c_M_mostOf hc) rfl rfl (by decide) (Nat.le_of_ble_eq_true rfl) ?_
    refine m_virtual o_M_askedTold k_M_tells v_M_tells x_M_184 i_M_askedTold_16 o_M_tells (htl) rfl (rcv_ob g0 rfl (by omega)) rfl (by decide) (Nat.le_of_ble_eq_true rfl) (Nat.zero_le _) (Nat.zero_le _) (fun q1 w2 n1 hp9 => ?_)
    obtain ⟨rfl, hF, x, rfl, hx⟩ := hp9
    exact t19 _ hF x hx
  · skip
    have htl := htl 1 (if_pos h4)
    refine r_iconst (v := (1 : Int32)) i_M_askedTold_7 rfl ?_
    refine r_goto 12 i_M_askedTold_8 (by decide) ?_
    refine r_iload_n (i := 2) i_M_askedTold_12 rfl rfl ?_
    refine f_static o_M_askedTold k_M_mostOf s_M_mostOf x_M_127 i_M_askedTold_13 (c_M_mostOf hc) rfl rfl (by decide) (Nat.le_of_ble_eq_true rfl) ?_
    refine m_virtual o_M_askedTold k_M_tells v_M_tells x_M_184 i_M_askedTold_16 o_M_tells (htl) rfl (rcv_ob g0 rfl (by omega)) rfl (by decide) (Nat.le_of_ble_eq_true rfl) (Nat.zero_le _) (Nat.zero_le _) (fun q1 w2 n1 hp9 => ?_)
    obtain ⟨rfl, hF, x, rfl, hx⟩ := hp9
    exact t19 _ hF x hx
theorem c_S_gains {P B : Nat} {S : aS} (hfm : (gfm G).category = 1) (h : MW w o M n) (hR : RS M f z L) (hz : z ≤ 250) (hL : isLx f z L) (hT : TQ S M) (hP : S.1 0 = nI P) (hP7 : P ≤ 7) (hB : S.1 1 = nI B) (hB7 : B ≤ 7) (hw : wordB f L 3 = true) : Go G 8 y_M_statement 61 [some (.ref o)] [] w n 0 0 (stP w o n M f z (stGains f z (L, -1, S))) := by
  have g0 := h.1
  have hn := h.2.2.2.2.2.2
  obtain ⟨j0, j1, j2, j3⟩ := v4
  have hPM : M.1 10 = nI P := hT.1.symm.trans hP
  have hBM : M.1 13 = nI B := hT.2.1.symm.trans hB
  obtain ⟨v1, hv1⟩ : ∃ v, rn1 f z (nI B) (L, -1, S) = v := ⟨_, rfl⟩
  obtain ⟨v2, hv2⟩ : ∃ v, rnP f z (nI P) (-1) v1 = v := ⟨_, rfl⟩
  obtain ⟨v3, hv3⟩ : ∃ v, rn9 f z v2 = v := ⟨_, rfl⟩
  have e9 : stGains f z (L, -1, S) = (v3.2.1, v3.2.2, if v3.2.2 = -1 then putLS S v1.1 v2.1 (-v3.1) else S) := by
    unfold stGains gnS
    show (_, _, _) = _
    rw [show ((L, -1, S) : aP).2.2.1 1 = nI B from hB, show ((L, -1, S) : aP).2.2.1 0 = nI P from hP, hv1, hv2, hv3]
  rw [e9]
  have hv1 : rnR f z (lexF f z L.1) (-1) 0 (nI B - 1) (-1) = v1 := hv1
  have hv2 : rnR f z v1.2.1 v1.2.2 0 (nI P - 1) (-1) = v2 := hv2
  have hv3 : rnR f z v2.2.1 v2.2.2 0 99 (-1) = v3 := hv3
  have htl := c_tel (G := G) (i := 0) (j := 3) (lo := 0) (hi := nI B - 1) (v := v1) hfm h hR hz hL (by decide) (by decide) (by decide) (hi_le hB7) hw hv1
  refine r_aload_n (i := 0) i_M_statement_61 rfl rfl ?_
  refine r_ldcS (j := 3) (tx := "gains") o_M_statement i_M_statement_62 (by decide) ?_
  refine r_iconst (v := (0 : Int32)) i_M_statement_64 rfl ?_
  refine r_iconst (v := (0 : Int32)) i_M_statement_65 rfl ?_
  refine r_aload_n (i := 0) i_M_statement_66 rfl rfl ?_
  refine r_getf (ci := 6) (T := Fk6) (k := 13) o_M_statement i_M_statement_67 x_M_80 rfl (by decide) rfl (by repeat (first | assumption | exact upw_s | refine (upw_n (by omega)).trans ?_)) (by first | assumption | omega) (by rfl) ?_
  refine r_iconst (v := (1 : Int32)) i_M_statement_70 rfl ?_
  rw [hBM]
  refine r_isub i_M_statement_71 ?_
  refine m_virtual o_M_statement k_M_tells v_M_tells x_M_184 i_M_statement_72 o_M_tells (htl) rfl (rcv_ob g0 rfl (by omega)) rfl (by decide) (Nat.le_of_ble_eq_true rfl) (Nat.zero_le _) (Nat.zero_le _) (fun q1 w2 n1 hp9 => ?_)
  obtain ⟨rfl, hF, x, rfl, hx⟩ := hp9
  refine r_if_eq 104 i_M_statement_75 (by decide) (fun h75 => ?_) (fun h75 => ?_)
  · skip
    obtain ⟨-, e1, N, hN, d1, d2⟩ := hx.resolve_left (fun q => by rw [q.1] at h75; exact absurd h75 (by decide))
    have f2 : v2.2.2 = v1.2.2 := by rw [← hv2]; exact rn_fa e1
    have f3 : v3.2.2 = v1.2.2 := by rw [← hv3]; exact (rn_fa (by rw [f2]; exact e1)).trans f2
    rw [← f3] at e1 d2
    rw [if_neg e1]
    have hF4 := hF
    have d1 := d1.keep
    refine r_iconst (v := (0 : Int32)) i_M_statement_104 rfl ?_
    refine r_ireturn i_M_statement_105 t_M_statement rfl ⟨rfl, hF4, 0, rfl, Or.inr ⟨rfl, e1, N, hN, d1, d2⟩⟩
    skip
  · skip
    obtain ⟨-, e1, N1, hN1, d1, d2, d3, d4⟩ := hx.resolve_right (fun q => h75 q.1)
    rw [e1] at hv2
    have hnm := c_num (G := G) (i := 1) (lo := 0) (hi := nI P - 1) (v := v2) hN1 d1 hz d2 (by decide) (by decide) (hi_le hP7) hv2
    have m1 := hN1.1
    refine r_aload_n (i := 0) i_M_statement_78 rfl rfl ?_
    refine r_iconst (v := (1 : Int32)) i_M_statement_79 rfl ?_
    refine r_iconst (v := (0 : Int32)) i_M_statement_80 rfl ?_
    refine r_aload_n (i := 0) i_M_statement_81 rfl rfl ?_
    refine r_getf (ci := 6) (T := Fk6) (k := 10) o_M_statement i_M_statement_82 x_M_73 rfl (by decide) rfl (by repeat (first | assumption | exact upw_s | refine (upw_n (by omega)).trans ?_)) (by first | assumption | omega) (by rfl) ?_
    refine r_iconst (v := (1 : Int32)) i_M_statement_85 rfl ?_
    rw [show N1.1 10 = nI P from (d4.2.1 10 (by omega)).trans hPM]
    refine r_isub i_M_statement_86 ?_
    refine m_virtual o_M_statement k_M_number v_M_number x_M_178 i_M_statement_87 o_M_number (hnm) rfl (rcv_ob m1 rfl (by omega)) rfl (by decide) (Nat.le_of_ble_eq_true rfl) (Nat.zero_le _) (Nat.zero_le _) (fun q2 w3 n2 hp8 => ?_)
    obtain ⟨rfl, hF3, x2, rfl, hx2⟩ := hp8
    refine r_if_eq 104 i_M_statement_90 (by decide) (fun h90 => ?_) (fun h90 => ?_)
    · skip
      obtain ⟨-, c1, N, hN, c2, d2⟩ := hx2.resolve_left (fun q => by rw [q.1] at h90; exact absurd h90 (by decide))
      have f3 : v3.2.2 = v2.2.2 := by rw [← hv3]; exact rn_fa c1
      rw [← f3] at c1 d2
      have e1 := c1
      rw [if_neg e1]
      have hF4 := hF.tr hF3
      have d1 := (d4.tr c2).keep
      refine r_iconst (v := (0 : Int32)) i_M_statement_104 rfl ?_
      refine r_ireturn i_M_statement_105 t_M_statement rfl ⟨rfl, hF4, 0, rfl, Or.inr ⟨rfl, e1, N, hN, d1, d2⟩⟩
      skip
    · skip
      obtain ⟨-, c1, N2, hN2, c2, c3, c4, c5⟩ := hx2.resolve_right (fun q => h90 q.1)
      rw [c1] at hv3
      have hnm2 := c_num (G := G) (i := 2) (lo := 0) (hi := 99) (v := v3) hN2 c2 hz c3 (by decide) (by decide) (by decide) hv3
      have m2 := hN2.1
      refine r_aload_n (i := 0) i_M_statement_93 rfl rfl ?_
      refine r_iconst (v := (2 : Int32)) i_M_statement_94 rfl ?_
      refine r_iconst (v := (0 : Int32)) i_M_statement_95 rfl ?_
      refine r_bipush (v := (99 : Int32)) i_M_statement_96 (by decide) ?_
      refine m_virtual o_M_statement k_M_number v_M_number x_M_178 i_M_statement_98 o_M_number (hnm2) rfl (rcv_ob m2 rfl (by omega)) rfl (by decide) (Nat.le_of_ble_eq_true rfl) (Nat.zero_le _) (Nat.zero_le _) (fun q3 w4 n3 hp7 => ?_)
      obtain ⟨rfl, hF5, x3, rfl, hx3⟩ := hp7
      refine r_if_ne 106 i_M_statement_101 (by decide) (fun h101 => ?_) (fun h101 => ?_)
      · skip
        obtain ⟨-, b1, N3, hN3, b2, b3, b4, b5⟩ := hx3.resolve_right (fun q => h101 q.1)
        rw [if_pos b1]
        have m3 := hN3.1
        obtain ⟨-, x9, hx9, ex9, -⟩ := rn_valE hv1 (lex_le hL.ok.2.1) hz hB7 e1
        obtain ⟨-, y9, hy9, ey9, -⟩ := rn_valE hv2 d2.ok hz hP7 c1
        have a37 : w4 (o + 37) = ai 4 (N3.2.1 37) := hN3.2.1 37 rfl
        have t0 : N3.2.1 37 0 = nI x9 := by rw [b4, c4, d3, ← ex9]; rfl
        have t1 : N3.2.1 37 1 = nI y9 := by rw [b4, c4, ← ey9]; rfl
        have t2 : N3.2.1 37 2 = v3.1 := by rw [b4]; rfl
        have m28 := hN3.2.2.2.2.2.1
        obtain ⟨r1, r2, r3, r4, r5⟩ := row_of hN3 (show x9 < 7 by omega)
        have iy : vp_in (nI y9) 7 := vp_in_nI (by omega) (by decide)
        have ecy : (nI y9).toNatClampNeg = y9 := nI_clamp (by omega)
        have h9 := hN3.rlo (show x9 < 7 by omega) (f := upd (N3.2.1 (29 + x9)) y9 (-v3.1))
        have hq9 := ((hT.scr ((d4.tr c5).tr b5)).loss (x := -v3.1) (show x9 < 7 by omega) (show y9 < 7 by omega))
        rw [ex9, ey9]
        refine r_aload_n (i := 0) i_M_statement_106 rfl rfl ?_
        refine r_getf (ci := 6) (T := Fk6) (k := 15) o_M_statement i_M_statement_107 x_M_51 rfl (by decide) rfl (by repeat (first | assumption | exact upw_s | refine (upw_n (by omega)).trans ?_)) (by first | assumption | omega) (by rfl) ?_
        refine r_aload_n (i := 0) i_M_statement_110 rfl rfl ?_
        refine r_getf (ci := 6) (T := Fk6) (k := 27) o_M_statement i_M_statement_111 x_M_61 rfl (by decide) rfl (by repeat (first | assumption | exact upw_s | refine (upw_n (by omega)).trans ?_)) (by first | assumption | omega) (by rfl) ?_
        refine r_iconst (v := (0 : Int32)) i_M_statement_114 rfl ?_
        refine r_iald i_M_statement_115 (by repeat (first | assumption | exact upw_s | refine (upw_n (by omega)).trans ?_)) (by first | assumption | omega) (by assumption) ?_
        rw [show N3.2.1 37 (Int32.toNatClampNeg 0) = nI x9 from t0]
        refine r_aald i_M_statement_116 (by repeat (first | assumption | exact upw_s | refine (upw_n (by omega)).trans ?_)) (by decide) (by first | assumption | omega) (by assumption) r4 ?_
        refine r_aload_n (i := 0) i_M_statement_117 rfl rfl ?_
        refine r_getf (ci := 6) (T := Fk6) (k := 27) o_M_statement i_M_statement_118 x_M_61 rfl (by decide) rfl (by repeat (first | assumption | exact upw_s | refine (upw_n (by omega)).trans ?_)) (by first | assumption | omega) (by rfl) ?_
        refine r_iconst (v := (1 : Int32)) i_M_statement_121 rfl ?_
        refine r_iald i_M_statement_122 (by repeat (first | assumption | exact upw_s | refine (upw_n (by omega)).trans ?_)) (by first | assumption | omega) (by assumption) ?_
        rw [show N3.2.1 37 (Int32.toNatClampNeg 1) = nI y9 from t1]
        refine r_aload_n (i := 0) i_M_statement_123 rfl rfl ?_
        refine r_getf (ci := 6) (T := Fk6) (k := 27) o_M_statement i_M_statement_124 x_M_61 rfl (by decide) rfl (by repeat (first | assumption | exact upw_s | refine (upw_n (by omega)).trans ?_)) (by first | assumption | omega) (by rfl) ?_
        refine r_iconst (v := (2 : Int32)) i_M_statement_127 rfl ?_
        refine r_iald i_M_statement_128 (by repeat (first | assumption | exact upw_s | refine (upw_n (by omega)).trans ?_)) (by first | assumption | omega) (by assumption) ?_
        rw [show N3.2.1 37 (Int32.toNatClampNeg 2) = v3.1 from t2]
        refine r_ineg i_M_statement_129 ?_
        refine r_iast i_M_statement_130 (by repeat (first | assumption | exact upw_s | refine (upw_n (by omega)).trans ?_)) (by first | assumption | omega) (by assumption) ?_
        rw [ecy]
        refine r_iconst (v := (1 : Int32)) i_M_statement_131 rfl ?_
        refine r_ireturn i_M_statement_132 t_M_statement rfl ⟨rfl, ((hF.tr hF3).tr hF5).up (by omega) (by omega), 1, rfl, Or.inl ⟨rfl, b1, _, h9, ⟨fun j hj => (mA_ne (by omega)).trans (((d4.tr c5).tr b5).keep.1 j hj), ((d4.tr c5).tr b5).keep.2.1, ((d4.tr c5).tr b5).keep.2.2.1, ((d4.tr c5).tr b5).keep.2.2.2⟩, b2.of (fun _ _ => rfl) (mA_ne (by omega)), b3, hq9⟩⟩
        skip
      · skip
        obtain ⟨-, b1, N, hN, b2, d2⟩ := hx3.resolve_left (fun q => by rw [q.1] at h101; exact absurd h101 (by decide))
        have e1 := b1
        rw [if_neg e1]
        have hF4 := (hF.tr hF3).tr hF5
        have d1 := ((d4.tr c5).tr b2).keep
        refine r_iconst (v := (0 : Int32)) i_M_statement_104 rfl ?_
        refine r_ireturn i_M_statement_105 t_M_statement rfl ⟨rfl, hF4, 0, rfl, Or.inr ⟨rfl, e1, N, hN, d1, d2⟩⟩
        skip
end MSTM
