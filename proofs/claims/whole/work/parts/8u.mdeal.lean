-- THE REFERENCE: one, deal, bars, statements beside the class's
theorem lx_adv {f : Nat → Int32} {z : Nat} {L : aL} (h : isLx f z L) (h0 : ¬ L.2.1 = 0) : L.2.2 < L.1 := by
  obtain ⟨p, hp, e⟩ := h
  have hs : L.2.1 = tokN f z L.2.2 := by rw [e]; rfl
  rw [hs] at h0
  have e3 : L.1 = if tokN f z L.2.2 = 0 then L.2.2 else if tokN f z L.2.2 = 1 ∨ tokN f z L.2.2 = 2 then enF f z (tokN f z L.2.2) (z - (L.2.2 + 1)) (L.2.2 + 1) else L.2.2 + 1 := by
    rw [e]
    rfl
  rw [if_neg h0] at e3
  split at e3
  · have := (en_le (f := f) (z := z) (tk := tokN f z L.2.2) (z - (L.2.2 + 1)) (L.2.2 + 1)).1
    omega
  · omega
theorem lx_ge {f : Nat → Int32} {z p : Nat} : p ≤ (lexF f z p).2.2 := (sk_le (f := f) (z := z) (z - p) p).1
theorem num_adv {f : Nat → Int32} {z : Nat} {L : aL} {lo hi but : Int32} {v : aV} (hL : isLx f z L) (hz : z ≤ 250) (hl : 0 ≤ lo.toInt) (hv : rnR f z L (-1) lo hi but = v) (e : v.2.2 = -1) : L.2.2 < L.1 ∧ v.2.1 = lexF f z L.1 := by
  subst hv
  unfold rnR at e ⊢
  by_cases q : okN (rnV f L) lo hi but = true
  · rw [if_pos q] at e ⊢
    refine ⟨lx_adv hL (fun q0 => ?_), rfl⟩
    have : rnV f L = -1 := if_neg (by rw [q0]; decide)
    rw [this] at q
    unfold okN at q
    rw [wi_m1 hl, Bool.false_and] at q
    exact absurd q (by decide)
  · rw [if_neg q] at e
    have e : faF L (-1) = -1 := e
    exact absurd e (faF_ne hL.ok hz)
theorem hur_stop {f : Nat → Int32} {z : Nat} {b : Int32} {q : aP} (h : ¬ (q.2.1 = -1 ∧ wordB f q.1 2 = true)) : ∀ m, hurF f z b m q = q
  | 0 => rfl
  | m + 1 => if_neg h
theorem wi_99 {a : Nat} (h : a ≤ 99) : wi0 (nI a) 0 99 = true := by
  unfold wi0
  refine decide_eq_true ⟨nI_pos (by omega), ?_⟩
  rw [Int32.lt_iff_toInt_lt, toInt_nI (by omega), show (99 : Int32).toInt = 99 from rfl]
  omega
section MDEAL
variable {G : gE} {w : aW} {o n : Nat} {M : aM} {f : Nat → Int32} {z : Nat} {L : aL}
theorem c_S_one {P B : Nat} {S : aS} (h : MW w o M n) (hR : RS M f z L) (hz : z ≤ 250) (hL : isLx f z L) (hT : TQ S M) (hZ : ZB S P B) (hP : S.1 0 = nI P) (hP6 : P < 7) : Go G 8 y_M_statement 18 [some (.ref o)] [] w n 0 0 (stP w o n M f z (stOne f z (L, -1, S))) := by
  have g0 := h.1
  have hn := h.2.2.2.2.2.2
  have e9 : stOne f z (L, -1, S) = (lexF f z L.1, -1, upS S 0 (S.1 0 + 1)) := by
    unfold stOne
    rw [if_pos (show ((L, -1, S) : aP).2.2.1 0 < 7 by show S.1 0 < 7; rw [hP]; exact nI_lt (b := 7) hP6 (by decide))]
  rw [e9]
  have hlk := c_M_look (G := G) (p := L.1) (z := z) (f := f) h hR.1 hL.ok.2.1 hz hR.2.2.2.2.1 hR.2.2.2.2.2
  have hRS : RS (mLk M f z (lexF f z L.1)) f z (lexF f z L.1) := RS.lk hR.2.2.2.2.1 hR.2.2.2.2.2
  have hT2 := hT.scr (N := mLk M f z (lexF f z L.1)) scr_P
  have hk : keepM M (mLk M f z (lexF f z L.1)) := scr_P.keep
  have hP1 : (mLk M f z (lexF f z L.1)).1 10 = nI P := hT2.1.symm.trans hP
  generalize mLk M f z (lexF f z L.1) = N at *
  have hon := fun w h => c_M_one (G := G) (w := w) (o := o) (n := n) (M := N) h hP1 (Nat.le_of_lt hP6)
  rw [show m2_one N P = (nI P, oneM N P) from if_neg (by omega)] at hon
  have n1 : ∀ j, ¬ j = 18 → ¬ j = 19 → ¬ (29 ≤ j ∧ j < 36) → (oneM N P).2.1 j = N.2.1 j := fun j q1 q2 q3 => (if_neg q3).trans ((mA_ne q2).trans (mA_ne q1))
  refine r_aload_n (i := 0) i_M_statement_18 rfl rfl ?_
  refine m_virtual o_M_statement k_M_look v_M_look x_M_171 i_M_statement_19 o_M_look (hlk) rfl (rcv_ob g0 rfl (by omega)) rfl (by decide) (Nat.le_of_ble_eq_true rfl) (Nat.zero_le _) (Nat.zero_le _) (fun q1 w2 n1 hp9 => ?_)
  obtain ⟨rfl, ⟨hM2, hF2⟩, rfl⟩ := hp9
  have m2 := hM2.1
  refine r_aload_n (i := 0) i_M_statement_22 rfl rfl ?_
  refine m_virtual o_M_statement k_M_one v_M_one x_M_198 i_M_statement_23 o_M_one (hon _ hM2) rfl (rcv_ob m2 rfl (by omega)) rfl (by decide) (Nat.le_of_ble_eq_true rfl) (Nat.zero_le _) (Nat.zero_le _) (fun q2 w3 n2 hp8 => ?_)
  obtain ⟨rfl, ⟨hM3, hF3⟩, rfl⟩ := hp8
  refine r_pop i_M_statement_26 rfl ?_
  refine r_iconst (v := (1 : Int32)) i_M_statement_27 rfl ?_
  refine r_ireturn i_M_statement_28 t_M_statement rfl ⟨rfl, hF2.tr hF3, 1, rfl, Or.inl ⟨rfl, rfl, _, hM3, hk.tr ⟨fun j hj => n1 j (by omega) (by omega) (by omega), rfl, rfl, rfl⟩, hRS.of (fun k hk => if_neg (by omega)) (n1 16 (by omega) (by omega) (by omega)), hL.nx, hT2.one hZ hP hP6⟩⟩
  skip
theorem c_S_bars {B : Nat} {S : aS} (hfm : (gfm G).category = 1) (h : MW w o M n) (hR : RS M f z L) (hz : z ≤ 250) (hL : isLx f z L) (hT : TQ S M) (hB : S.1 1 = nI B) (hB7 : B ≤ 7) : Go G 8 y_M_statement 201 [some (.ref o)] [] w n 0 0 (stP w o n M f z (if wordB f L 4 = true then stBars f z (L, -1, S) else (L, faF L (-1), S))) := by
  have g0 := h.1
  have hn := h.2.2.2.2.2.2
  obtain ⟨j0, j1, j2, j3⟩ := v4
  have hBM : M.1 13 = nI B := hT.2.1.symm.trans hB
  by_cases hw : wordB f L 4 = true
  · rw [if_pos hw]
    obtain ⟨v1, hv1⟩ : ∃ v, rn1 f z (nI B) (L, -1, S) = v := ⟨_, rfl⟩
    obtain ⟨v2, hv2⟩ : ∃ v, rnP f z (nI B) v1.1 v1 = v := ⟨_, rfl⟩
    have e9 : stBars f z (L, -1, S) = (v2.2.1, v2.2.2, if v2.2.2 = -1 then putB S v1.1.toNatClampNeg v2.1.toNatClampNeg 1 else S) := by
      unfold stBars brS
      show (_, _, _) = _
      rw [show ((L, -1, S) : aP).2.2.1 1 = nI B from hB, hv1, hv2]
    rw [e9]
    have hv1 : rnR f z (lexF f z L.1) (-1) 0 (nI B - 1) (-1) = v1 := hv1
    have hv2 : rnR f z v1.2.1 v1.2.2 0 (nI B - 1) v1.1 = v2 := hv2
    have htl := c_tel (G := G) (i := 0) (j := 4) (lo := 0) (hi := nI B - 1) (v := v1) hfm h hR hz hL (by decide) (by decide) (by decide) (hi_le hB7) hw hv1
    refine r_aload_n (i := 0) i_M_statement_201 rfl rfl ?_
    refine r_ldcS (j := 4) (tx := "bars") o_M_statement i_M_statement_202 (by decide) ?_
    refine r_iconst (v := (0 : Int32)) i_M_statement_204 rfl ?_
    refine r_iconst (v := (0 : Int32)) i_M_statement_205 rfl ?_
    refine r_aload_n (i := 0) i_M_statement_206 rfl rfl ?_
    refine r_getf (ci := 6) (T := Fk6) (k := 13) o_M_statement i_M_statement_207 x_M_80 rfl (by decide) rfl (by repeat (first | assumption | exact upw_s | refine (upw_n (by omega)).trans ?_)) (by first | assumption | omega) (by rfl) ?_
    refine r_iconst (v := (1 : Int32)) i_M_statement_210 rfl ?_
    rw [hBM]
    refine r_isub i_M_statement_211 ?_
    refine m_virtual o_M_statement k_M_tells v_M_tells x_M_184 i_M_statement_212 o_M_tells (htl) rfl (rcv_ob g0 rfl (by omega)) rfl (by decide) (Nat.le_of_ble_eq_true rfl) (Nat.zero_le _) (Nat.zero_le _) (fun q1 w2 n1 hp9 => ?_)
    obtain ⟨rfl, hF, x, rfl, hx⟩ := hp9
    refine r_if_eq 232 i_M_statement_215 (by decide) (fun h215 => ?_) (fun h215 => ?_)
    · skip
      obtain ⟨-, e1, N, hN, d1, d2⟩ := hx.resolve_left (fun q => by rw [q.1] at h215; exact absurd h215 (by decide))
      have f2 : v2.2.2 = v1.2.2 := by rw [← hv2]; exact rn_fa e1
      rw [← f2] at e1 d2
      rw [if_neg e1]
      have hF4 := hF
      have d1 := d1.keep
      refine r_iconst (v := (0 : Int32)) i_M_statement_232 rfl ?_
      refine r_ireturn i_M_statement_233 t_M_statement rfl ⟨rfl, hF4, 0, rfl, Or.inr ⟨rfl, e1, N, hN, d1, d2⟩⟩
      skip
    · skip
      obtain ⟨-, e1, N1, hN1, d1, d2, d3, d4⟩ := hx.resolve_right (fun q => h215 q.1)
      rw [e1] at hv2
      obtain ⟨-, x9, hx9, ex9, -⟩ := rn_valE hv1 (lex_le hL.ok.2.1) hz hB7 e1
      have hnm := c_unl (G := G) (i := 1) (hi := nI B - 1) (but := v1.1) (v := v2) hN1 d1 hz d2 (by decide) (by decide) (hi_le hB7) (by rw [d3]; rfl) (by rw [ex9, toInt_nI (by omega)]; omega) hv2
      have m1 := hN1.1
      refine r_aload_n (i := 0) i_M_statement_218 rfl rfl ?_
      refine r_iconst (v := (1 : Int32)) i_M_statement_219 rfl ?_
      refine r_aload_n (i := 0) i_M_statement_220 rfl rfl ?_
      refine r_getf (ci := 6) (T := Fk6) (k := 13) o_M_statement i_M_statement_221 x_M_80 rfl (by decide) rfl (by repeat (first | assumption | exact upw_s | refine (upw_n (by omega)).trans ?_)) (by first | assumption | omega) (by rfl) ?_
      refine r_iconst (v := (1 : Int32)) i_M_statement_224 rfl ?_
      rw [show N1.1 13 = nI B from (d4.2.1 13 (by omega)).trans hBM]
      refine r_isub i_M_statement_225 ?_
      refine m_virtual o_M_statement k_M_unlike v_M_unlike x_M_188 i_M_statement_226 o_M_unlike (hnm) rfl (rcv_ob m1 rfl (by omega)) rfl (by decide) (Nat.le_of_ble_eq_true rfl) (Nat.zero_le _) (Nat.zero_le _) (fun q2 w3 n2 hp8 => ?_)
      obtain ⟨rfl, hF3, x2, rfl, hx2⟩ := hp8
      refine r_if_ne 234 i_M_statement_229 (by decide) (fun h229 => ?_) (fun h229 => ?_)
      · skip
        obtain ⟨-, c1, N2, hN2, c2, c3, c4, c5⟩ := hx2.resolve_right (fun q => h229 q.1)
        rw [if_pos c1]
        have m2 := hN2.1
        obtain ⟨-, y9, hy9, ey9, hne⟩ := rn_valE hv2 d2.ok hz hB7 c1
        have a37 : w3 (o + 37) = ai 4 (N2.2.1 37) := hN2.2.1 37 rfl
        have t0 : N2.2.1 37 0 = nI x9 := by rw [c4, d3, ← ex9]; rfl
        have t1 : N2.2.1 37 1 = nI y9 := by rw [c4, ← ey9]; rfl
        have hne2 : ¬ x9 = y9 := fun q => hne (by rw [ex9, ey9, q])
        have hBN : N2.1 13 = nI B := ((d4.tr c5).2.1 13 (by omega)).trans hBM
        have hbr := c_M_bars (G := G) (b := nI x9) (c := nI y9) (is := 1) hN2 hBN hB7
        have ebr : (m2_bars N2 (nI x9) (nI y9) 1).2 = brM N2 x9 y9 1 := by
          unfold m2_bars
          rw [hBN, lt0_in hx9 (by omega), lt0_in hy9 (by omega), decide_eq_false (fun q => hne2 ((nI_eq (by omega) (by omega)).mp q)), nI_clamp (by omega), nI_clamp (by omega)]
          rfl
        have hq9 := ((hT.scr (d4.tr c5)).bar (is := 1) (show x9 < 7 by omega) (show y9 < 7 by omega) hne2)
        have n1 : ∀ j, (j < 21 ∨ 27 < j) → (brM N2 x9 y9 1).2.1 j = N2.2.1 j := fun j hj => (mA_ne (by omega)).trans (mA_ne (by omega))
        rw [ex9, ey9, nI_clamp (by omega), nI_clamp (by omega)]
        refine r_aload_n (i := 0) i_M_statement_234 rfl rfl ?_
        refine r_aload_n (i := 0) i_M_statement_235 rfl rfl ?_
        refine r_getf (ci := 6) (T := Fk6) (k := 27) o_M_statement i_M_statement_236 x_M_61 rfl (by decide) rfl (by repeat (first | assumption | exact upw_s | refine (upw_n (by omega)).trans ?_)) (by first | assumption | omega) (by rfl) ?_
        refine r_iconst (v := (0 : Int32)) i_M_statement_239 rfl ?_
        refine r_iald i_M_statement_240 (by repeat (first | assumption | exact upw_s | refine (upw_n (by omega)).trans ?_)) (by first | assumption | omega) (by assumption) ?_
        rw [show N2.2.1 37 (Int32.toNatClampNeg 0) = nI x9 from t0]
        refine r_aload_n (i := 0) i_M_statement_241 rfl rfl ?_
        refine r_getf (ci := 6) (T := Fk6) (k := 27) o_M_statement i_M_statement_242 x_M_61 rfl (by decide) rfl (by repeat (first | assumption | exact upw_s | refine (upw_n (by omega)).trans ?_)) (by first | assumption | omega) (by rfl) ?_
        refine r_iconst (v := (1 : Int32)) i_M_statement_245 rfl ?_
        refine r_iald i_M_statement_246 (by repeat (first | assumption | exact upw_s | refine (upw_n (by omega)).trans ?_)) (by first | assumption | omega) (by assumption) ?_
        rw [show N2.2.1 37 (Int32.toNatClampNeg 1) = nI y9 from t1]
        refine r_iconst (v := (1 : Int32)) i_M_statement_247 rfl ?_
        refine m_virtual o_M_statement k_M_bars v_M_bars x_M_219 i_M_statement_248 o_M_bars (hbr) rfl (rcv_ob m2 rfl (by omega)) rfl (by decide) (Nat.le_of_ble_eq_true rfl) (Nat.zero_le _) (Nat.zero_le _) (fun q3 w4 n3 hp7 => ?_)
        obtain ⟨rfl, ⟨hM4, hF4⟩, rfl⟩ := hp7
        rw [ebr] at hM4
        refine r_pop i_M_statement_251 rfl ?_
        refine r_iconst (v := (1 : Int32)) i_M_statement_252 rfl ?_
        refine r_ireturn i_M_statement_253 t_M_statement rfl ⟨rfl, (hF.tr hF3).tr hF4, 1, rfl, Or.inl ⟨rfl, c1, _, hM4, (d4.tr c5).keep.tr ⟨fun j hj => n1 j (by omega), rfl, rfl, rfl⟩, c2.of (fun _ _ => rfl) (n1 16 (by omega)), c3, hq9⟩⟩
        skip
      · skip
        obtain ⟨-, c1, N, hN, c2, d2⟩ := hx2.resolve_left (fun q => by rw [q.1] at h229; exact absurd h229 (by decide))
        have e1 := c1
        rw [if_neg e1]
        have hF4 := hF.tr hF3
        have d1 := (d4.tr c2).keep
        refine r_iconst (v := (0 : Int32)) i_M_statement_232 rfl ?_
        refine r_ireturn i_M_statement_233 t_M_statement rfl ⟨rfl, hF4, 0, rfl, Or.inr ⟨rfl, e1, N, hN, d1, d2⟩⟩
        skip
  · rw [if_neg hw]
    have htl := c_M_tells (G := G) (i := 0) (j := 4) (lo := 0) (hi := nI B - 1) hfm h hR hz hL (by decide) (by decide) (by decide) (hi_le hB7)
    have e8 : tlN M f z 4 L 0 0 (nI B - 1) = (bI false, mS M 26 (M.1 24)) := by
      unfold tlN
      rw [if_neg hw, Bool.not_eq_true] at *
      rw [hw, Bool.false_and]
    rw [e8] at htl
    refine r_aload_n (i := 0) i_M_statement_201 rfl rfl ?_
    refine r_ldcS (j := 4) (tx := "bars") o_M_statement i_M_statement_202 (by decide) ?_
    refine r_iconst (v := (0 : Int32)) i_M_statement_204 rfl ?_
    refine r_iconst (v := (0 : Int32)) i_M_statement_205 rfl ?_
    refine r_aload_n (i := 0) i_M_statement_206 rfl rfl ?_
    refine r_getf (ci := 6) (T := Fk6) (k := 13) o_M_statement i_M_statement_207 x_M_80 rfl (by decide) rfl (by repeat (first | assumption | exact upw_s | refine (upw_n (by omega)).trans ?_)) (by first | assumption | omega) (by rfl) ?_
    refine r_iconst (v := (1 : Int32)) i_M_statement_210 rfl ?_
    rw [hBM]
    refine r_isub i_M_statement_211 ?_
    refine m_virtual o_M_statement k_M_tells v_M_tells x_M_184 i_M_statement_212 o_M_tells (htl) rfl (rcv_ob g0 rfl (by omega)) rfl (by decide) (Nat.le_of_ble_eq_true rfl) (Nat.zero_le _) (Nat.zero_le _) (fun q1 w2 n1 hp9 => ?_)
    obtain ⟨rfl, ⟨hM2, hF2⟩, rfl⟩ := hp9
    refine r_if_eq 232 i_M_statement_215 (by decide) (fun h215 => ?_) (fun h215 => (absurd rfl h215))
    refine r_iconst (v := (0 : Int32)) i_M_statement_232 rfl ?_
    refine r_ireturn i_M_statement_233 t_M_statement rfl ⟨rfl, hF2, 0, rfl, Or.inr ⟨rfl, show ¬ faF L (-1) = -1 from faF_ne hL.ok hz, _, hM2, scr_26.keep, ?_⟩⟩
    show M.1 24 = faF L (-1)
    rw [fa_m1]
    exact hR.2.2.1
theorem c_D_loop {P B : Nat} {M0 : aM} (hfm : (gfm G).category = 1) (hz : z ≤ 250) (hP7 : P ≤ 7) (hB6 : B < 7) : ∀ m (q : aP) (w1 : aW) (N : aM), q.2.1 = -1 → MW w1 o N n → mFr w w1 o → keepM M0 N → RS N f z q.1 → isLx f z q.1 → TQ q.2.2 N → q.2.2.1 0 = nI P → 250 < q.1.1 + m → Go G 7 y_M_dealTold 84 [some (.ref o), some (.int (nI B))] [] w1 n 0 0 (stP w o n M0 f z (hurF f z (nI B) m q)) := by
  intro m
  induction m with
  | zero =>
    intro q w1 N _ _ _ _ _ hL _ _ hm
    have := hL.ok.2.1
    omega
  | succ m ih =>
    intro q w1 N hq h1 hF hk hR hL hT hP hm
    have g0 := h1.1
    have hn := h1.2.2.2.2.2.2
    obtain ⟨j0, j1, j2, j3⟩ := v4
    have hPM : N.1 10 = nI P := hT.1.symm.trans hP
    have hw := c_M_isWord (G := G) (j := 2) hfm h1 hR hz hL.ok (by decide)
    by_cases hwd : wordB f q.1 2 = true
    · obtain ⟨v1, hv1⟩ : ∃ v, rn1 f z (nI P) q = v := ⟨_, rfl⟩
      obtain ⟨v2, hv2⟩ : ∃ v, rn9 f z v1 = v := ⟨_, rfl⟩
      have e9 : hurF f z (nI B) (m + 1) q = hurF f z (nI B) m (v2.2.1, v2.2.2, if v2.2.2 = -1 then putLS q.2.2 (nI B) v1.1 v2.1 else q.2.2) := by
        show (if q.2.1 = -1 ∧ wordB f q.1 2 = true then hurF f z (nI B) m (huS (nI B) q (rn1 f z (q.2.2.1 0) q) (rn9 f z (rn1 f z (q.2.2.1 0) q))) else q) = _
        rw [if_pos ⟨hq, hwd⟩, hP, hv1, hv2]
        rfl
      rw [e9]
      have hv1 : rnR f z (lexF f z q.1.1) q.2.1 0 (nI P - 1) (-1) = v1 := hv1
      have hv2 : rnR f z v1.2.1 v1.2.2 0 99 (-1) = v2 := hv2
      rw [hq] at hv1
      rw [hwd] at hw
      have htl := c_tel (G := G) (i := 0) (j := 2) (lo := 0) (hi := nI P - 1) (v := v1) hfm h1 hR hz hL (by decide) (by decide) (by decide) (hi_le hP7) hwd hv1
      refine r_aload_n (i := 0) i_M_dealTold_84 rfl rfl ?_
      refine r_ldcS (j := 2) (tx := "hurts") o_M_dealTold i_M_dealTold_85 (by decide) ?_
      refine f_virtual o_M_dealTold k_M_isWord v_M_isWord x_M_174 i_M_dealTold_87 o_M_isWord (hw) rfl (rcv_ob g0 rfl (by omega)) rfl (by decide) (Nat.le_of_ble_eq_true rfl) ?_
      refine r_if_eq 145 i_M_dealTold_90 (by decide) (fun h90 => (absurd h90 (by decide))) (fun h90 => ?_)
      refine r_aload_n (i := 0) i_M_dealTold_93 rfl rfl ?_
      refine r_ldcS (j := 2) (tx := "hurts") o_M_dealTold i_M_dealTold_94 (by decide) ?_
      refine r_iconst (v := (0 : Int32)) i_M_dealTold_96 rfl ?_
      refine r_iconst (v := (0 : Int32)) i_M_dealTold_97 rfl ?_
      refine r_aload_n (i := 0) i_M_dealTold_98 rfl rfl ?_
      refine r_getf (ci := 6) (T := Fk6) (k := 10) o_M_dealTold i_M_dealTold_99 x_M_73 rfl (by decide) rfl (by repeat (first | assumption | exact upw_s | refine (upw_n (by omega)).trans ?_)) (by first | assumption | omega) (by rfl) ?_
      refine r_iconst (v := (1 : Int32)) i_M_dealTold_102 rfl ?_
      rw [hPM]
      refine r_isub i_M_dealTold_103 ?_
      refine m_virtual o_M_dealTold k_M_tells v_M_tells x_M_184 i_M_dealTold_104 o_M_tells (htl) rfl (rcv_ob g0 rfl (by omega)) rfl (by decide) (Nat.le_of_ble_eq_true rfl) (Nat.zero_le _) (Nat.zero_le _) (fun q1 w2 n1 hp9 => ?_)
      obtain ⟨rfl, hF2, x, rfl, hx⟩ := hp9
      refine r_if_eq 121 i_M_dealTold_107 (by decide) (fun h107 => ?_) (fun h107 => ?_)
      · skip
        obtain ⟨-, e1, N2, hN2, d1, d2⟩ := hx.resolve_left (fun q => by rw [q.1] at h107; exact absurd h107 (by decide))
        have f2 : v2.2.2 = v1.2.2 := by rw [← hv2]; exact rn_fa e1
        rw [← f2] at e1 d2
        have hF4 := hF.tr hF2
        have d1 := hk.tr d1.keep
        rw [if_neg e1, hur_stop (fun y => e1 y.1)]
        refine r_iconst (v := (0 : Int32)) i_M_dealTold_121 rfl ?_
        refine r_ireturn i_M_dealTold_122 t_M_dealTold rfl ⟨rfl, hF4, 0, rfl, Or.inr ⟨rfl, e1, N2, hN2, d1, d2⟩⟩
        skip
      · skip
        obtain ⟨-, e1, N1, hN1, d1, d2, d3, d4⟩ := hx.resolve_right (fun q => h107 q.1)
        rw [e1] at hv2
        have hnm := c_num (G := G) (i := 1) (lo := 0) (hi := 99) (v := v2) hN1 d1 hz d2 (by decide) (by decide) (by decide) hv2
        have m1 := hN1.1
        refine r_aload_n (i := 0) i_M_dealTold_110 rfl rfl ?_
        refine r_iconst (v := (1 : Int32)) i_M_dealTold_111 rfl ?_
        refine r_iconst (v := (0 : Int32)) i_M_dealTold_112 rfl ?_
        refine r_bipush (v := (99 : Int32)) i_M_dealTold_113 (by decide) ?_
        refine m_virtual o_M_dealTold k_M_number v_M_number x_M_178 i_M_dealTold_115 o_M_number (hnm) rfl (rcv_ob m1 rfl (by omega)) rfl (by decide) (Nat.le_of_ble_eq_true rfl) (Nat.zero_le _) (Nat.zero_le _) (fun q2 w3 n2 hp8 => ?_)
        obtain ⟨rfl, hF3, x2, rfl, hx2⟩ := hp8
        refine r_if_ne 123 i_M_dealTold_118 (by decide) (fun h118 => ?_) (fun h118 => ?_)
        · skip
          obtain ⟨-, c1, N2, hN2, c2, c3, c4, c5⟩ := hx2.resolve_right (fun q => h118 q.1)
          rw [if_pos c1]
          have m2 := hN2.1
          obtain ⟨-, y9, hy9, ey9, -⟩ := rn_valE hv1 (lex_le hL.ok.2.1) hz hP7 e1
          have adv1 := num_adv hL.nx hz (by decide) hv1 e1
          have adv2 := num_adv d2 hz (by decide) hv2 c1
          have a37 : w3 (o + 37) = ai 4 (N2.2.1 37) := hN2.2.1 37 rfl
          have t0 : N2.2.1 37 0 = nI y9 := by rw [c4, d3, ← ey9]; rfl
          have t1 : N2.2.1 37 1 = v2.1 := by rw [c4]; rfl
          have m28 := hN2.2.2.2.2.2.1
          obtain ⟨r1, r2, r3, r4, r5⟩ := row_of hN2 (show B < 7 by omega)
          have iy : vp_in (nI y9) 7 := vp_in_nI (by omega) (by decide)
          have ecy : (nI y9).toNatClampNeg = y9 := nI_clamp (by omega)
          have h9 := hN2.rlo (show B < 7 by omega) (f := upd (N2.2.1 (29 + B)) y9 v2.1)
          have hq9 := ((hT.scr (d4.tr c5)).loss (x := v2.1) (show B < 7 by omega) (show y9 < 7 by omega))
          rw [ey9]
          refine r_aload_n (i := 0) i_M_dealTold_123 rfl rfl ?_
          refine r_getf (ci := 6) (T := Fk6) (k := 15) o_M_dealTold i_M_dealTold_124 x_M_51 rfl (by decide) rfl (by repeat (first | assumption | exact upw_s | refine (upw_n (by omega)).trans ?_)) (by first | assumption | omega) (by rfl) ?_
          refine r_iload_n (i := 1) i_M_dealTold_127 rfl rfl ?_
          refine r_aald i_M_dealTold_128 (by repeat (first | assumption | exact upw_s | refine (upw_n (by omega)).trans ?_)) (by decide) (by first | assumption | omega) (by assumption) r4 ?_
          refine r_aload_n (i := 0) i_M_dealTold_129 rfl rfl ?_
          refine r_getf (ci := 6) (T := Fk6) (k := 27) o_M_dealTold i_M_dealTold_130 x_M_61 rfl (by decide) rfl (by repeat (first | assumption | exact upw_s | refine (upw_n (by omega)).trans ?_)) (by first | assumption | omega) (by rfl) ?_
          refine r_iconst (v := (0 : Int32)) i_M_dealTold_133 rfl ?_
          refine r_iald i_M_dealTold_134 (by repeat (first | assumption | exact upw_s | refine (upw_n (by omega)).trans ?_)) (by first | assumption | omega) (by assumption) ?_
          rw [show N2.2.1 37 (Int32.toNatClampNeg 0) = nI y9 from t0]
          refine r_aload_n (i := 0) i_M_dealTold_135 rfl rfl ?_
          refine r_getf (ci := 6) (T := Fk6) (k := 27) o_M_dealTold i_M_dealTold_136 x_M_61 rfl (by decide) rfl (by repeat (first | assumption | exact upw_s | refine (upw_n (by omega)).trans ?_)) (by first | assumption | omega) (by rfl) ?_
          refine r_iconst (v := (1 : Int32)) i_M_dealTold_139 rfl ?_
          refine r_iald i_M_dealTold_140 (by repeat (first | assumption | exact upw_s | refine (upw_n (by omega)).trans ?_)) (by first | assumption | omega) (by assumption) ?_
          rw [show N2.2.1 37 (Int32.toNatClampNeg 1) = v2.1 from t1]
          refine r_iast i_M_dealTold_141 (by repeat (first | assumption | exact upw_s | refine (upw_n (by omega)).trans ?_)) (by first | assumption | omega) (by assumption) ?_
          rw [ecy]
          refine r_goto 84 i_M_dealTold_142 (by decide) ?_
          refine ih (v2.2.1, v2.2.2, putLS q.2.2 (nI B) (nI y9) v2.1) _ _ c1 h9 (((hF.tr hF2).tr hF3).up (by omega) (by omega)) (hk.tr ((d4.tr c5).keep.tr ⟨fun j hj => mA_ne (by omega), rfl, rfl, rfl⟩)) (c2.of (fun _ _ => rfl) (mA_ne (by omega))) c3 hq9 hP ?_
          have g1 : q.1.1 ≤ (lexF f z q.1.1).2.2 := lx_ge
          have g2 : v1.2.1.1 ≤ (lexF f z v1.2.1.1).2.2 := lx_ge
          have g3 := d2.ok.1
          have g4 := c3.ok.1
          show 250 < v2.2.1.1 + m
          have g5 : v2.2.1.2.2 = (lexF f z v1.2.1.1).2.2 := by rw [adv2.2]
          have g6 : v1.2.1.2.2 = (lexF f z (lexF f z q.1.1).1).2.2 := by rw [adv1.2]
          have g7 : (lexF f z q.1.1).1 ≤ (lexF f z (lexF f z q.1.1).1).2.2 := lx_ge
          have g8 := adv1.1
          omega
        · skip
          obtain ⟨-, c1, N2, hN2, c2, d2⟩ := hx2.resolve_left (fun q => by rw [q.1] at h118; exact absurd h118 (by decide))
          have e1 := c1
          have hF4 := (hF.tr hF2).tr hF3
          have d1 := hk.tr (d4.tr c2).keep
          rw [if_neg e1, hur_stop (fun y => e1 y.1)]
          refine r_iconst (v := (0 : Int32)) i_M_dealTold_121 rfl ?_
          refine r_ireturn i_M_dealTold_122 t_M_dealTold rfl ⟨rfl, hF4, 0, rfl, Or.inr ⟨rfl, e1, N2, hN2, d1, d2⟩⟩
          skip
    · rw [hur_stop (fun y => hwd y.2)]
      rw [Bool.not_eq_true] at hwd
      rw [hwd] at hw
      refine r_aload_n (i := 0) i_M_dealTold_84 rfl rfl ?_
      refine r_ldcS (j := 2) (tx := "hurts") o_M_dealTold i_M_dealTold_85 (by decide) ?_
      refine f_virtual o_M_dealTold k_M_isWord v_M_isWord x_M_174 i_M_dealTold_87 o_M_isWord (hw) rfl (rcv_ob g0 rfl (by omega)) rfl (by decide) (Nat.le_of_ble_eq_true rfl) ?_
      refine r_if_eq 145 i_M_dealTold_90 (by decide) (fun h90 => ?_) (fun h90 => (absurd rfl h90))
      refine r_iconst (v := (1 : Int32)) i_M_dealTold_145 rfl ?_
      refine r_ireturn i_M_dealTold_146 t_M_dealTold rfl ⟨rfl, hF, 1, rfl, Or.inl ⟨rfl, hq, N, h1, hk, hR, hL, hT⟩⟩
      skip
end MDEAL
