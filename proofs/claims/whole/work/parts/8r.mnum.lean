-- THE REFERENCE: its reader's words and numbers
def RS (M : aM) (f : Nat → Int32) (z : Nat) (L : aL) : Prop := M.1 22 = nI L.1 ∧ M.1 23 = nI L.2.1 ∧ M.1 24 = nI L.2.2 ∧ M.1 25 = figF f z L ∧ M.1 8 = nI z ∧ M.2.1 16 = f
def isLx (f : Nat → Int32) (z : Nat) (L : aL) : Prop := ∃ p, p ≤ z ∧ L = lexF f z p
theorem isLx.ok {f : Nat → Int32} {z : Nat} {L : aL} (h : isLx f z L) : LOk L z := by
  obtain ⟨p, hp, rfl⟩ := h
  exact lex_le hp
theorem isLx.nx {f : Nat → Int32} {z : Nat} {L : aL} (h : isLx f z L) : isLx f z (lexF f z L.1) := ⟨L.1, h.ok.2.1, rfl⟩
theorem fg_num {f : Nat → Int32} {z s : Nat} : ∀ m q v, q + m = z → s ≤ q → q ≤ enF f z 2 m q ∧ (enF f z 2 m q - s ≤ 3 → fgE f z s m q v = nhF f (enF f z 2 m q - q) q v) ∧ (3 < enF f z 2 m q - s → q < enF f z 2 m q → fgE f z s m q v = 100000)
  | 0, q, v, hq, hs => by
    refine ⟨Nat.le_refl _, fun _ => ?_, fun _ h => absurd h (Nat.lt_irrefl q)⟩
    show v = nhF f (q - q) q v
    rw [Nat.sub_self]
    rfl
  | m + 1, q, v, hq, hs => by
    have e8 : fgE f z s (m + 1) q v = if tokN f z q = 2 then fgE f z s m (q + 1) (if q - s < 3 then v * 10 + f q - 48 else 100000) else v := rfl
    rw [en_s, e8]
    by_cases h : tokN f z q = 2
    · rw [if_pos h, if_pos h]
      obtain ⟨i1, i2, i3⟩ := fg_num (f := f) (z := z) (s := s) m (q + 1) (if q - s < 3 then v * 10 + f q - 48 else 100000) (by omega) (by omega)
      refine ⟨by omega, fun h3 => ?_, fun h3 hq2 => ?_⟩
      · rw [i2 h3, if_pos (by omega), show enF f z 2 m (q + 1) - q = enF f z 2 m (q + 1) - (q + 1) + 1 by omega]
        show nhF f _ _ _ = nhF f (enF f z 2 m (q + 1) - (q + 1)) (q + 1) (v * 10 + (f q - 48))
        rw [Int32.sub_eq_add_neg, Int32.sub_eq_add_neg, Int32.add_assoc]
      · by_cases h4 : q + 1 < enF f z 2 m (q + 1)
        · exact i3 h3 h4
        · have h5 : enF f z 2 m (q + 1) = q + 1 := by omega
          have hv : (if q - s < 3 then v * 10 + f q - 48 else 100000) = 100000 := if_neg (by omega)
          rw [hv] at i2 ⊢
          -- the word ends here
          match m with
          | 0 => rfl
          | m + 1 =>
            have h6 : ¬ tokN f z (q + 1) = 2 := fun y => by
              rw [en_s, if_pos y] at h5
              have := (en_le (f := f) (z := z) (tk := 2) m (q + 1 + 1)).1
              omega
            have e9 : fgE f z s (m + 1) (q + 1) 100000 = if tokN f z (q + 1) = 2 then fgE f z s m (q + 1 + 1) (if q + 1 - s < 3 then 100000 * 10 + f (q + 1) - 48 else 100000) else 100000 := rfl
            rw [e9, if_neg h6]
    · rw [if_neg h, if_neg h]
      refine ⟨Nat.le_refl _, fun _ => ?_, fun _ h => absurd h (Nat.lt_irrefl q)⟩
      rw [Nat.sub_self]
      rfl
theorem fig_num {f : Nat → Int32} {z : Nat} {L : aL} (h : isLx f z L) (h2 : L.2.1 = 2) : (3 < L.1 - L.2.2 ∧ figF f z L = 100000 ∧ numV f L = -1) ∨ (figF f z L = numV f L) := by
  obtain ⟨p, hp, e⟩ := h
  have hs : L.2.1 = tokN f z L.2.2 := by rw [e]; rfl
  have h2' : tokN f z L.2.2 = 2 := by rw [← hs]; exact h2
  have hlt : L.2.2 < z := by
    refine Nat.lt_of_not_le (fun q => ?_)
    rw [tok_0.mpr q] at h2'
    omega
  have e1 : L.1 = enF f z 2 (z - L.2.2) L.2.2 := by
    rw [show z - L.2.2 = z - (L.2.2 + 1) + 1 by omega, en_s, if_pos h2']
    have e3 : L.1 = if tokN f z L.2.2 = 0 then L.2.2 else if tokN f z L.2.2 = 1 ∨ tokN f z L.2.2 = 2 then enF f z (tokN f z L.2.2) (z - (L.2.2 + 1)) (L.2.2 + 1) else L.2.2 + 1 := by
      rw [e]
      rfl
    rw [h2', if_neg (by decide), if_pos (Or.inr rfl)] at e3
    exact e3
  obtain ⟨i1, i2, i3⟩ := fg_num (f := f) (z := z) (s := L.2.2) (z - L.2.2) L.2.2 0 (by omega) (Nat.le_refl _)
  have ef : figF f z L = fgE f z L.2.2 (z - L.2.2) L.2.2 0 := if_pos h2
  rw [← e1] at i1 i2 i3
  unfold numV
  by_cases q : 3 < L.1 - L.2.2
  · rw [if_pos q]
    exact Or.inl ⟨q, ef.trans (i3 q (by omega)), rfl⟩
  · rw [if_neg q]
    exact Or.inr (ef.trans (i2 (by omega)))
theorem wi_big {lo hi : Int32} (hh : hi.toInt ≤ 999) : wi0 100000 lo hi = false := by
  unfold wi0
  refine decide_eq_false (fun q => q.2 ?_)
  rw [Int32.lt_iff_toInt_lt, show (100000 : Int32).toInt = 100000 from rfl]
  omega
theorem wi_m1 {lo hi : Int32} (hl : 0 ≤ lo.toInt) : wi0 (-1) lo hi = false := by
  unfold wi0
  refine decide_eq_false (fun q => q.1 ?_)
  rw [Int32.lt_iff_toInt_lt, show (-1 : Int32).toInt = -1 from rfl]
  omega
theorem num_eq {f : Nat → Int32} {z : Nat} {L : aL} {lo hi : Int32} (h : isLx f z L) (h2 : L.2.1 = 2) (hl : 0 ≤ lo.toInt) (hh : hi.toInt ≤ 999) : wi0 (figF f z L) lo hi = okN (rnV f L) lo hi (-1) ∧ (wi0 (figF f z L) lo hi = true → figF f z L = rnV f L) := by
  have er : rnV f L = numV f L := if_pos h2
  rw [er]
  unfold okN
  rcases fig_num h h2 with ⟨-, e1, e2⟩ | e
  · rw [e1, e2, wi_big hh, wi_m1 hl]
    exact ⟨rfl, fun q => absurd q (by decide)⟩
  · rw [e]
    refine ⟨?_, fun _ => rfl⟩
    by_cases q : numV f L = -1
    · rw [q, wi_m1 hl]
      rfl
    · rw [decide_eq_false q, Bool.not_false, Bool.and_true]
theorem num_but {f : Nat → Int32} {z : Nat} {L : aL} {hi but : Int32} (h : isLx f z L) (h2 : L.2.1 = 2) (hh : hi.toInt ≤ 999) (hb : but.toInt ≤ 999) : (figF f z L = but → okN (rnV f L) 0 hi but = false) ∧ (¬ figF f z L = but → okN (rnV f L) 0 hi but = okN (rnV f L) 0 hi (-1)) := by
  have er : rnV f L = numV f L := if_pos h2
  rw [er]
  unfold okN
  rcases fig_num h h2 with ⟨-, e1, e2⟩ | e
  · rw [e1, e2, wi_m1 (by decide)]
    exact ⟨fun _ => rfl, fun _ => rfl⟩
  · rw [e]
    refine ⟨fun q => by rw [q, decide_eq_true rfl, Bool.not_true, Bool.and_false], fun q => ?_⟩
    rw [decide_eq_false q]
    by_cases q : numV f L = -1
    · rw [q, wi_m1 (by decide)]
      rfl
    · rw [decide_eq_false q]
def nmS (M : aM) (f : Nat → Int32) (z : Nat) (L : aL) (i : Nat) : aM := mLk (mA M 37 (upd (M.2.1 37) i (rnV f L))) f z (lexF f z L.1)
def nmM (M : aM) (f : Nat → Int32) (z : Nat) (L : aL) (i : Nat) (lo hi but : Int32) : Int32 × aM := (bI (okN (rnV f L) lo hi but), if okN (rnV f L) lo hi but = true then nmS M f z L i else mS M 26 (M.1 24))
section MNUM
variable {G : gE} {w : aW} {o n : Nat} {M : aM} {f : Nat → Int32} {z : Nat} {L : aL}
theorem c_M_isWord {j : Nat} (hfm : (gfm G).category = 1) (h : MW w o M n) (hR : RS M f z L) (hz : z ≤ 250) (hL : LOk L z) (hj : j < 9) : Fn G 4 y_M_isWord [.ref o, .ref (gB + j)] w n (some (.int (bI (wordB f L j)))) w := by
  have hl := strL_lt j hj
  obtain ⟨l1, l2, l3⟩ := hL
  obtain ⟨s22, s23, s24, s25, s8, s16⟩ := hR
  have g0 := h.1
  have hn := h.2.2.2.2.2.2
  have a16 : w (o + 16) = ai 250 f := (h.2.1 16 rfl).trans (congrArg (ai 250) s16)
  have hloop : L.1 - L.2.2 = strL.getD j 0 → ∀ m i : Nat, i + m = strL.getD j 0 → Go G 4 y_M_isWord 28 [some (.ref o), some (.ref (gB + j)), some (.int (nI i))] [] w n 0 0 (fun r1 w1 n1 => r1 = some (.int (bI (wlF f L.2.2 j m i))) ∧ w1 = w ∧ n1 = n) := by
    intro hlen m
    induction m with
    | zero =>
      intro i hi
      have hi : i = strL.getD j 0 := by omega
      refine r_iload_n (i := 2) i_M_isWord_28 rfl rfl ?_
      refine r_aload_n (i := 1) i_M_isWord_29 rfl rfl ?_
      refine f_virtual o_M_isWord k_JS_length v_JS_length x_M_157 i_M_isWord_30 o_JS_length (c_JS_length hj) rfl (rcv_str hj) rfl (by decide) (Nat.le_of_ble_eq_true rfl) ?_
      refine r_icmp_ge 63 i_M_isWord_33 (by decide) (fun h33 => ?_) (fun h33 => (absurd (nI_le (by omega) (by omega)) h33))
      refine r_iconst (v := (1 : Int32)) i_M_isWord_63 rfl ?_
      refine r_ireturn i_M_isWord_64 t_M_isWord (by first | rfl | exact nar_bI _) ?_
      exact ⟨rfl, rfl, rfl⟩
    | succ m ih =>
      intro i hi
      have e9 : wlF f L.2.2 j (m + 1) i = (decide (f (L.2.2 + i) = chN j i) && wlF f L.2.2 j m (i + 1)) := rfl
      have ii : vp_in (nI (L.2.2 + i)) 250 := vp_in_nI (by omega) (by decide)
      have ec : (nI (L.2.2 + i)).toNatClampNeg = L.2.2 + i := nI_clamp (by omega)
      refine r_iload_n (i := 2) i_M_isWord_28 rfl rfl ?_
      refine r_aload_n (i := 1) i_M_isWord_29 rfl rfl ?_
      refine f_virtual o_M_isWord k_JS_length v_JS_length x_M_157 i_M_isWord_30 o_JS_length (c_JS_length hj) rfl (rcv_str hj) rfl (by decide) (Nat.le_of_ble_eq_true rfl) ?_
      refine r_icmp_ge 63 i_M_isWord_33 (by decide) (fun h33 => (absurd h33 (nI_ge (by omega) (by omega)))) (fun h33 => ?_)
      refine r_aload_n (i := 0) i_M_isWord_36 rfl rfl ?_
      refine r_getf (ci := 6) (T := Fk6) (k := 7) o_M_isWord i_M_isWord_37 x_M_34 rfl (by decide) rfl (by repeat (first | assumption | exact upw_s | refine (upw_n (by omega)).trans ?_)) (by first | assumption | omega) (by rfl) ?_
      refine r_aload_n (i := 0) i_M_isWord_40 rfl rfl ?_
      refine r_getf (ci := 6) (T := Fk6) (k := 24) o_M_isWord i_M_isWord_41 x_M_138 rfl (by decide) rfl (by repeat (first | assumption | exact upw_s | refine (upw_n (by omega)).trans ?_)) (by first | assumption | omega) (by rfl) ?_
      refine r_iload_n (i := 2) i_M_isWord_44 rfl rfl ?_
      refine r_iadd i_M_isWord_45 ?_
      rw [s24, nI_add]
      refine r_iald i_M_isWord_46 (by repeat (first | assumption | exact upw_s | refine (upw_n (by omega)).trans ?_)) (by first | assumption | omega) (by assumption) ?_
      rw [ec]
      refine r_aload_n (i := 1) i_M_isWord_47 rfl rfl ?_
      refine r_iload_n (i := 2) i_M_isWord_48 rfl rfl ?_
      refine f_virtual o_M_isWord k_JS_charAt v_JS_charAt x_M_163 i_M_isWord_49 o_JS_charAt (c_JS_charAt hfm hj (by omega)) rfl (rcv_str hj) rfl (by decide) (Nat.le_of_ble_eq_true rfl) ?_
      refine r_icmp_eq 57 i_M_isWord_52 (by decide) (fun h52 => ?_) (fun h52 => ?_)
      · skip
        rw [decide_eq_true h52] at e9
        refine r_iinc_2 (v := (1 : Int32)) i_M_isWord_57 rfl (by rw [l_M_isWord]; decide) rfl ?_
        refine r_goto 28 i_M_isWord_60 (by decide) ?_
        rw [nI_1, e9, Bool.true_and]
        exact ih (i + 1) (by omega)
      · skip
        rw [decide_eq_false h52] at e9
        refine r_iconst (v := (0 : Int32)) i_M_isWord_55 rfl ?_
        refine r_ireturn i_M_isWord_56 t_M_isWord (by first | rfl | exact nar_bI _) ?_
        exact ⟨by rw [e9]; rfl, rfl, rfl⟩
  refine Fn.of k_M_isWord l_M_isWord rfl rfl ?_
  have e1 : nI L.2.1 = 1 ↔ L.2.1 = 1 := nI_eq (b := 1) (by omega) (by decide)
  have e2 : nI L.1 - nI L.2.2 = nI (L.1 - L.2.2) := pk_sub l1
  refine r_aload_n (i := 0) i_M_isWord_0 rfl rfl ?_
  refine r_getf (ci := 6) (T := Fk6) (k := 23) o_M_isWord i_M_isWord_1 x_M_144 rfl (by decide) rfl (by repeat (first | assumption | exact upw_s | refine (upw_n (by omega)).trans ?_)) (by first | assumption | omega) (by rfl) ?_
  refine r_iconst (v := (1 : Int32)) i_M_isWord_4 rfl ?_
  rw [s23]
  refine r_icmp_ne 24 i_M_isWord_5 (by decide) (fun h5 => ?_) (fun h5 => ?_)
  · skip
    have h5 : ¬ L.2.1 = 1 := fun q => h5 (e1.mpr q)
    have e9 : wordB f L j = false := by unfold wordB; rw [decide_eq_false h5]; rfl
    refine r_iconst (v := (0 : Int32)) i_M_isWord_24 rfl ?_
    refine r_ireturn i_M_isWord_25 t_M_isWord (by first | rfl | exact nar_bI _) ?_
    exact ⟨by rw [e9]; rfl, rfl, rfl⟩
  · skip
    have h5 := e1.mp h5
    refine r_aload_n (i := 0) i_M_isWord_8 rfl rfl ?_
    refine r_getf (ci := 6) (T := Fk6) (k := 22) o_M_isWord i_M_isWord_9 x_M_135 rfl (by decide) rfl (by repeat (first | assumption | exact upw_s | refine (upw_n (by omega)).trans ?_)) (by first | assumption | omega) (by rfl) ?_
    refine r_aload_n (i := 0) i_M_isWord_12 rfl rfl ?_
    refine r_getf (ci := 6) (T := Fk6) (k := 24) o_M_isWord i_M_isWord_13 x_M_138 rfl (by decide) rfl (by repeat (first | assumption | exact upw_s | refine (upw_n (by omega)).trans ?_)) (by first | assumption | omega) (by rfl) ?_
    refine r_isub i_M_isWord_16 ?_
    rw [s22, s24, e2]
    refine r_aload_n (i := 1) i_M_isWord_17 rfl rfl ?_
    refine f_virtual o_M_isWord k_JS_length v_JS_length x_M_157 i_M_isWord_18 o_JS_length (c_JS_length hj) rfl (rcv_str hj) rfl (by decide) (Nat.le_of_ble_eq_true rfl) ?_
    refine r_icmp_eq 26 i_M_isWord_21 (by decide) (fun h21 => ?_) (fun h21 => ?_)
    · skip
      have h21 : L.1 - L.2.2 = strL.getD j 0 := (nI_eq (by omega) (by omega)).mp h21
      refine r_iconst (v := (0 : Int32)) i_M_isWord_26 rfl ?_
      refine r_istore_2 i_M_isWord_27 (by rw [l_M_isWord]; decide) rfl ?_
      have h9 := hloop h21 (strL.getD j 0) 0 (by omega)
      have e9 : wordB f L j = wlF f L.2.2 j (strL.getD j 0) 0 := by unfold wordB; rw [decide_eq_true h5, decide_eq_true h21]; rfl
      rw [e9]
      exact h9
    · skip
      have h21 : ¬ L.1 - L.2.2 = strL.getD j 0 := fun q => h21 (by rw [q])
      have e9 : wordB f L j = false := by unfold wordB; rw [decide_eq_false h21, Bool.false_and, Bool.and_false]
      refine r_iconst (v := (0 : Int32)) i_M_isWord_24 rfl ?_
      refine r_ireturn i_M_isWord_25 t_M_isWord (by first | rfl | exact nar_bI _) ?_
      exact ⟨by rw [e9]; rfl, rfl, rfl⟩
theorem c_M_number {i : Nat} {lo hi : Int32} (h : MW w o M n) (hR : RS M f z L) (hz : z ≤ 250) (hL : isLx f z L) (hi4 : i < 4) (hl : 0 ≤ lo.toInt) (hh : hi.toInt ≤ 999) : Mm G 2 y_M_number [.ref o, .int (nI i), .int lo, .int hi] w o n (nmM M f z L i lo hi (-1)) := by
  obtain ⟨s22, s23, s24, s25, s8, s16⟩ := hR
  obtain ⟨l1, l2, l3⟩ := hL.ok
  have g0 := h.1
  have hn := h.2.2.2.2.2.2
  have a37 : w (o + 37) = ai 4 (M.2.1 37) := h.2.1 37 rfl
  have ii : vp_in (nI i) 4 := vp_in_nI hi4 (by decide)
  have ec : (nI i).toNatClampNeg = i := nI_clamp (by omega)
  refine Mm.of k_M_number l_M_number rfl rfl ?_
  have h2 := fun x => h.arr (j := 37) (f := upd (M.2.1 37) i x) rfl
  have hlk := fun x => c_M_look (G := G) (M := mA M 37 (upd (M.2.1 37) i x)) (p := L.1) (z := z) (f := f) (h2 x) s22 l2 hz s8 s16
  have hwr : Mt G 0 y_M_wrong [.ref o] w n 0 0 (fun r w' n' => r = some (.int 0) ∧ (MW w' o (mS M 26 (M.1 24)) n ∧ mFr w w' o) ∧ n' = n) := c_M_wrong h
  have hno : okN (rnV f L) lo hi (-1) = false → Go G 2 y_M_number 23 [some (.ref o), some (.int (nI i)), some (.int lo), some (.int hi)] [] w n 0 0 (fun r w' n' => r = some (.int (nmM M f z L i lo hi (-1)).1) ∧ (MW w' o (nmM M f z L i lo hi (-1)).2 n ∧ mFr w w' o) ∧ n' = n) := by
    intro q
    unfold nmM
    rw [q]
    refine r_aload_n (i := 0) i_M_number_23 rfl rfl ?_
    refine m_virtual o_M_number k_M_wrong v_M_wrong x_M_167 i_M_number_24 o_M_wrong (hwr) rfl (rcv_ob (by repeat (first | assumption | exact upw_s | refine (upw_n (by omega)).trans ?_)) rfl (by first | assumption | omega)) rfl (by decide) (Nat.le_of_ble_eq_true rfl) (Nat.zero_le _) (Nat.zero_le _) (fun r1 w2 n1 hp9 => ?_)
    obtain ⟨rfl, hp9, rfl⟩ := hp9
    refine r_ireturn i_M_number_27 t_M_number (by first | rfl | exact nar_bI _) ?_
    exact ⟨rfl, hp9, rfl⟩
  refine r_aload_n (i := 0) i_M_number_0 rfl rfl ?_
  refine r_getf (ci := 6) (T := Fk6) (k := 23) o_M_number i_M_number_1 x_M_144 rfl (by decide) rfl (by repeat (first | assumption | exact upw_s | refine (upw_n (by omega)).trans ?_)) (by first | assumption | omega) (by rfl) ?_
  refine r_iconst (v := (2 : Int32)) i_M_number_4 rfl ?_
  rw [s23]
  refine r_icmp_ne 23 i_M_number_5 (by decide) (fun h5 => ?_) (fun h5 => ?_)
  · skip
    have q5 : ¬ L.2.1 = 2 := fun q => h5 (by rw [q]; rfl)
    have e9 : rnV f L = -1 := if_neg q5
    have hno := hno (by unfold okN; rw [e9, wi_m1 hl]; rfl)
    exact hno
  · skip
    have q5 : L.2.1 = 2 := (nI_eq (b := 2) (by omega) (by decide)).mp h5
    obtain ⟨e8, e9⟩ := num_eq (lo := lo) (hi := hi) hL q5 hl hh
    refine r_aload_n (i := 0) i_M_number_8 rfl rfl ?_
    refine r_getf (ci := 6) (T := Fk6) (k := 25) o_M_number i_M_number_9 x_M_141 rfl (by decide) rfl (by repeat (first | assumption | exact upw_s | refine (upw_n (by omega)).trans ?_)) (by first | assumption | omega) (by rfl) ?_
    refine r_i2l i_M_number_12 ?_
    refine r_iload_n (i := 2) i_M_number_13 rfl rfl ?_
    refine r_i2l i_M_number_14 ?_
    refine r_iload_n (i := 3) i_M_number_15 rfl rfl ?_
    refine r_i2l i_M_number_16 ?_
    rw [s25]
    refine f_static o_M_number k_M_in s_M_in x_M_76 i_M_number_17 (c_M_in) rfl rfl (by decide) (Nat.le_of_ble_eq_true rfl) ?_
    rw [in_wi]
    refine r_if_ne 28 i_M_number_20 (by decide) (fun h20 => ?_) (fun h20 => ?_)
    · skip
      have h20 := bI_ne0.mp h20
      have e9 := e9 h20
      rw [e8] at h20
      unfold nmM nmS
      rw [h20, if_pos rfl]
      refine r_aload_n (i := 0) i_M_number_28 rfl rfl ?_
      refine r_getf (ci := 6) (T := Fk6) (k := 27) o_M_number i_M_number_29 x_M_61 rfl (by decide) rfl (by repeat (first | assumption | exact upw_s | refine (upw_n (by omega)).trans ?_)) (by first | assumption | omega) (by rfl) ?_
      refine r_iload_n (i := 1) i_M_number_32 rfl rfl ?_
      refine r_aload_n (i := 0) i_M_number_33 rfl rfl ?_
      refine r_getf (ci := 6) (T := Fk6) (k := 25) o_M_number i_M_number_34 x_M_141 rfl (by decide) rfl (by repeat (first | assumption | exact upw_s | refine (upw_n (by omega)).trans ?_)) (by first | assumption | omega) (by rfl) ?_
      rw [s25, e9]
      refine r_iast i_M_number_37 (by repeat (first | assumption | exact upw_s | refine (upw_n (by omega)).trans ?_)) (by first | assumption | omega) (by assumption) ?_
      rw [ec]
      refine r_aload_n (i := 0) i_M_number_38 rfl rfl ?_
      refine m_virtual o_M_number k_M_look v_M_look x_M_171 i_M_number_39 o_M_look (hlk _) rfl (rcv_ob (by repeat (first | assumption | exact upw_s | refine (upw_n (by omega)).trans ?_)) rfl (by first | assumption | omega)) rfl (by decide) (Nat.le_of_ble_eq_true rfl) (Nat.zero_le _) (Nat.zero_le _) (fun q1 w3 n1 hp9 => ?_)
      obtain ⟨rfl, ⟨hM3, hF3⟩, rfl⟩ := hp9
      refine r_iconst (v := (1 : Int32)) i_M_number_42 rfl ?_
      refine r_ireturn i_M_number_43 t_M_number (by first | rfl | exact nar_bI _) ?_
      exact ⟨rfl, ⟨hM3, (mFr.rf.up (by omega) (by omega)).tr hF3⟩, rfl⟩
    · skip
      have hno := hno (by rw [← e8]; exact bI_eq0.mp h20)
      exact hno
theorem c_M_unlike {i : Nat} {hi but : Int32} (h : MW w o M n) (hR : RS M f z L) (hz : z ≤ 250) (hL : isLx f z L) (hi1 : 1 ≤ i) (hi4 : i < 4) (hh : hi.toInt ≤ 999) (hb : M.2.1 37 (i - 1) = but) (hb9 : but.toInt ≤ 999) : Mm G 3 y_M_unlike [.ref o, .int (nI i), .int hi] w o n (nmM M f z L i 0 hi but) := by
  have hnm := c_M_number (G := G) (i := i) (lo := 0) (hi := hi) h hR hz hL hi4 (by decide) hh
  obtain ⟨s22, s23, s24, s25, s8, s16⟩ := hR
  obtain ⟨l1, l2, l3⟩ := hL.ok
  have g0 := h.1
  have hn := h.2.2.2.2.2.2
  have a37 : w (o + 37) = ai 4 (M.2.1 37) := h.2.1 37 rfl
  have ii : vp_in (nI (i - 1)) 4 := vp_in_nI (by omega) (by decide)
  have ec : (nI (i - 1)).toNatClampNeg = i - 1 := nI_clamp (by omega)
  refine Mm.of k_M_unlike l_M_unlike rfl rfl ?_
  have h28 : okN (rnV f L) 0 hi but = okN (rnV f L) 0 hi (-1) → Go G 3 y_M_unlike 28 [some (.ref o), some (.int (nI i)), some (.int hi)] [] w n 0 0 (fun r w' n' => r = some (.int (nmM M f z L i 0 hi but).1) ∧ (MW w' o (nmM M f z L i 0 hi but).2 n ∧ mFr w w' o) ∧ n' = n) := by
    intro q
    have e : nmM M f z L i 0 hi but = nmM M f z L i 0 hi (-1) := by
      unfold nmM
      rw [q]
    rw [e]
    refine r_aload_n (i := 0) i_M_unlike_28 rfl rfl ?_
    refine r_iload_n (i := 1) i_M_unlike_29 rfl rfl ?_
    refine r_iconst (v := (0 : Int32)) i_M_unlike_30 rfl ?_
    refine r_iload_n (i := 2) i_M_unlike_31 rfl rfl ?_
    refine m_virtual o_M_unlike k_M_number v_M_number x_M_178 i_M_unlike_32 o_M_number (hnm) rfl (rcv_ob (by repeat (first | assumption | exact upw_s | refine (upw_n (by omega)).trans ?_)) rfl (by first | assumption | omega)) rfl (by decide) (Nat.le_of_ble_eq_true rfl) (Nat.zero_le _) (Nat.zero_le _) (fun r1 w2 n1 hp9 => ?_)
    obtain ⟨rfl, hp9, rfl⟩ := hp9
    refine r_ireturn i_M_unlike_35 t_M_unlike (nar_bI _) ⟨rfl, hp9, rfl⟩
    skip
  have hwr : Mt G 0 y_M_wrong [.ref o] w n 0 0 (fun r w' n' => r = some (.int 0) ∧ (MW w' o (mS M 26 (M.1 24)) n ∧ mFr w w' o) ∧ n' = n) := c_M_wrong h
  refine r_aload_n (i := 0) i_M_unlike_0 rfl rfl ?_
  refine r_getf (ci := 6) (T := Fk6) (k := 23) o_M_unlike i_M_unlike_1 x_M_144 rfl (by decide) rfl (by repeat (first | assumption | exact upw_s | refine (upw_n (by omega)).trans ?_)) (by first | assumption | omega) (by rfl) ?_
  refine r_iconst (v := (2 : Int32)) i_M_unlike_4 rfl ?_
  rw [s23]
  refine r_icmp_ne 28 i_M_unlike_5 (by decide) (fun h5 => ?_) (fun h5 => ?_)
  · skip
    have q5 : ¬ L.2.1 = 2 := fun q => h5 (by rw [q]; rfl)
    have e9 : rnV f L = -1 := if_neg q5
    have h28 := h28 (by unfold okN; rw [e9, wi_m1 (by decide)]; rfl)
    exact h28
  · skip
    have q5 : L.2.1 = 2 := (nI_eq (b := 2) (by omega) (by decide)).mp h5
    obtain ⟨e8, e9⟩ := num_but (hi := hi) (but := but) hL q5 hh hb9
    refine r_aload_n (i := 0) i_M_unlike_8 rfl rfl ?_
    refine r_getf (ci := 6) (T := Fk6) (k := 25) o_M_unlike i_M_unlike_9 x_M_141 rfl (by decide) rfl (by repeat (first | assumption | exact upw_s | refine (upw_n (by omega)).trans ?_)) (by first | assumption | omega) (by rfl) ?_
    refine r_aload_n (i := 0) i_M_unlike_12 rfl rfl ?_
    refine r_getf (ci := 6) (T := Fk6) (k := 27) o_M_unlike i_M_unlike_13 x_M_61 rfl (by decide) rfl (by repeat (first | assumption | exact upw_s | refine (upw_n (by omega)).trans ?_)) (by first | assumption | omega) (by rfl) ?_
    refine r_iload_n (i := 1) i_M_unlike_16 rfl rfl ?_
    refine r_iconst (v := (1 : Int32)) i_M_unlike_17 rfl ?_
    refine r_isub i_M_unlike_18 ?_
    rw [show nI i - 1 = nI (i - 1) from pk_sub (b := 1) (by omega)]
    refine r_iald i_M_unlike_19 (by repeat (first | assumption | exact upw_s | refine (upw_n (by omega)).trans ?_)) (by first | assumption | omega) (by assumption) ?_
    rw [s25, ec, hb]
    refine r_icmp_ne 28 i_M_unlike_20 (by decide) (fun h20 => ?_) (fun h20 => ?_)
    · skip
      have h28 := h28 (e9 h20)
      exact h28
    · skip
      unfold nmM
      rw [e8 h20]
      refine r_aload_n (i := 0) i_M_unlike_23 rfl rfl ?_
      refine m_virtual o_M_unlike k_M_wrong v_M_wrong x_M_167 i_M_unlike_24 o_M_wrong (hwr) rfl (rcv_ob (by repeat (first | assumption | exact upw_s | refine (upw_n (by omega)).trans ?_)) rfl (by first | assumption | omega)) rfl (by decide) (Nat.le_of_ble_eq_true rfl) (Nat.zero_le _) (Nat.zero_le _) (fun r1 w2 n1 hp9 => ?_)
      obtain ⟨rfl, hp9, rfl⟩ := hp9
      refine r_ireturn i_M_unlike_27 t_M_unlike (by first | rfl | exact nar_bI _) ?_
      exact ⟨rfl, hp9, rfl⟩
theorem RS.lk {N : aM} {L' : aL} (h8 : N.1 8 = nI z) (h16 : N.2.1 16 = f) : RS (mLk N f z L') f z L' := ⟨rfl, rfl, rfl, rfl, h8, h16⟩
def tlN (M : aM) (f : Nat → Int32) (z j : Nat) (L : aL) (i : Nat) (lo hi : Int32) : Int32 × aM := (bI (wordB f L j && okN (rnV f (lexF f z L.1)) lo hi (-1)), if wordB f L j = true then (nmM (mLk M f z (lexF f z L.1)) f z (lexF f z L.1) i lo hi (-1)).2 else mS M 26 (M.1 24))
theorem c_M_tells {i j : Nat} {lo hi : Int32} (hfm : (gfm G).category = 1) (h : MW w o M n) (hR : RS M f z L) (hz : z ≤ 250) (hL : isLx f z L) (hj : j < 9) (hi4 : i < 4) (hl : 0 ≤ lo.toInt) (hh : hi.toInt ≤ 999) : Mm G 5 y_M_tells [.ref o, .ref (gB + j), .int (nI i), .int lo, .int hi] w o n (tlN M f z j L i lo hi) := by
  have hw := c_M_isWord (G := G) hfm h hR hz hL.ok hj
  have g0 := h.1
  have hn := h.2.2.2.2.2.2
  have hlk := c_M_look (G := G) (p := L.1) (z := z) (f := f) h hR.1 hL.ok.2.1 hz hR.2.2.2.2.1 hR.2.2.2.2.2
  have hRS : RS (mLk M f z (lexF f z L.1)) f z (lexF f z L.1) := RS.lk hR.2.2.2.2.1 hR.2.2.2.2.2
  have hnm := fun w h => c_M_number (G := G) (w := w) (o := o) (n := n) (i := i) (lo := lo) (hi := hi) h hRS hz hL.nx hi4 hl hh
  have hwr : Mt G 0 y_M_wrong [.ref o] w n 0 0 (fun r w' n' => r = some (.int 0) ∧ (MW w' o (mS M 26 (M.1 24)) n ∧ mFr w w' o) ∧ n' = n) := c_M_wrong h
  refine Mm.of k_M_tells l_M_tells rfl rfl ?_
  unfold tlN
  refine r_aload_n (i := 0) i_M_tells_0 rfl rfl ?_
  refine r_aload_n (i := 1) i_M_tells_1 rfl rfl ?_
  refine f_virtual o_M_tells k_M_isWord v_M_isWord x_M_174 i_M_tells_2 o_M_isWord (hw) rfl (rcv_ob g0 rfl (by omega)) rfl (by decide) (Nat.le_of_ble_eq_true rfl) ?_
  refine r_if_ne 13 i_M_tells_5 (by decide) (fun h5 => ?_) (fun h5 => ?_)
  · skip
    rw [bI_ne0.mp h5, if_pos rfl, Bool.true_and]
    refine r_aload_n (i := 0) i_M_tells_13 rfl rfl ?_
    refine m_virtual o_M_tells k_M_look v_M_look x_M_171 i_M_tells_14 o_M_look (hlk) rfl (rcv_ob (by repeat (first | assumption | exact upw_s | refine (upw_n (by omega)).trans ?_)) rfl (by first | assumption | omega)) rfl (by decide) (Nat.le_of_ble_eq_true rfl) (Nat.zero_le _) (Nat.zero_le _) (fun q1 w3 n1 hp9 => ?_)
    obtain ⟨rfl, ⟨hM3, hF3⟩, rfl⟩ := hp9
    have x0 := hM3.1
    refine r_aload_n (i := 0) i_M_tells_17 rfl rfl ?_
    refine r_iload_n (i := 2) i_M_tells_18 rfl rfl ?_
    refine r_iload_n (i := 3) i_M_tells_19 rfl rfl ?_
    refine r_iload (i := 4) i_M_tells_20 rfl ?_
    refine m_virtual o_M_tells k_M_number v_M_number x_M_178 i_M_tells_22 o_M_number (hnm _ hM3) rfl (rcv_ob (by repeat (first | assumption | exact upw_s | refine (upw_n (by omega)).trans ?_)) rfl (by first | assumption | omega)) rfl (by decide) (Nat.le_of_ble_eq_true rfl) (Nat.zero_le _) (Nat.zero_le _) (fun q2 w4 n2 hp8 => ?_)
    obtain ⟨rfl, ⟨hM4, hF4⟩, rfl⟩ := hp8
    refine r_ireturn i_M_tells_25 t_M_tells (nar_bI _) ⟨rfl, ⟨hM4, hF3.tr hF4⟩, rfl⟩
    skip
  · skip
    rw [bI_eq0.mp h5, Bool.false_and]
    refine r_aload_n (i := 0) i_M_tells_8 rfl rfl ?_
    refine m_virtual o_M_tells k_M_wrong v_M_wrong x_M_167 i_M_tells_9 o_M_wrong (hwr) rfl (rcv_ob (by repeat (first | assumption | exact upw_s | refine (upw_n (by omega)).trans ?_)) rfl (by first | assumption | omega)) rfl (by decide) (Nat.le_of_ble_eq_true rfl) (Nat.zero_le _) (Nat.zero_le _) (fun r1 w2 n1 hp9 => ?_)
    obtain ⟨rfl, hp9, rfl⟩ := hp9
    refine r_ireturn i_M_tells_12 t_M_tells (by first | rfl | exact nar_bI _) ?_
    exact ⟨rfl, hp9, rfl⟩
end MNUM
