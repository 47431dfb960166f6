-- THE CLASS: its world
abbrev aQ : Type := aS × aS × Int32 × aH × (Nat → Int32) × Nat × (Nat → Int32)
abbrev nob (fl : Int32) : List Value := [.ref 1, .ref 10, .ref 19, .int fl, .ref 28, .ref 33, .ref 35, .ref 37, .ref 43]
def CX (w : aW) (Q : aQ) (D : aS) (L : aL) (fa : Int32) (K : aK) (Z : aZ) (n : Nat) : Prop := w 0 = .inr (0, nob Q.2.2.1) ∧ TW w 1 Q.1 n ∧ TW w 10 Q.2.1 n ∧ TW w 19 D n ∧ SW w 28 Q.2.2.2.1 n ∧ RW w 33 Q.2.2.2.2.1 Q.2.2.2.2.2.1 L fa n ∧ WW w 35 K n ∧ EW w 37 Z n ∧ w 43 = ai 5 Q.2.2.2.2.2.2 ∧ 43 < n
def CW (w : aW) (Q : aQ) (n : Nat) : Prop := ∃ (D : aS) (L : aL) (fa : Int32) (K : aK) (Z : aZ), CX w Q D L fa K Z n
def cFr (w w' : aW) : Prop := ∀ j, 43 < j → w' j = w j
def Cm (G : gE) (d z : Nat) (args : List Value) (w : aW) (n : Nat) (m : Int32 × aQ) : Prop := Mt G d z args w n 0 0 (fun r w' n' => r = some (.int m.1) ∧ (CW w' m.2 n ∧ cFr w w') ∧ n' = n)
theorem Cm.of {G : gE} {d z na nL : Nat} {args : List Value} {w : aW} {n : Nat} {m : Int32 × aQ} {ls : List (Option Value)} (hz : okM z na) (hm : ml z = nL) (hfit : Nat.ble (ent args).length nL = true) (hls : ent args ++ List.replicate (nL - (ent args).length) none = ls)
    (h : Go G d z 0 ls [] w n 0 0 (fun r w' n' => r = some (.int m.1) ∧ (CW w' m.2 n ∧ cFr w w') ∧ n' = n)) : Cm G d z args w n m := Mt.of hz hm (Nat.le_of_ble_eq_true hfit) hls h
theorem CX.now {w w' : aW} {Q : aQ} {D : aS} {L : aL} {fa : Int32} {K : aK} {Z : aZ} {n : Nat} {S : aS} (h : CX w Q D L fa K Z n) (hN : TW w' 1 S n) (hf : ∀ j, (j < 1 ∨ 9 < j) → w' j = w j) : CX w' (S, Q.2) D L fa K Z n := by
  obtain ⟨c0, cT, cK, cD, cS, cR, cW, cE, cF, cn⟩ := h
  exact ⟨(hf 0 (by omega)).trans c0, hN, cK.fr (fun j q1 q2 => hf j (by omega)), cD.fr (fun j q1 q2 => hf j (by omega)), cS.fr (fun j q1 q2 => hf j (by omega)), cR.fr (fun j q1 q2 => hf j (by omega)), cW.fr (fun j q1 q2 => hf j (by omega)), cE.fr (fun j q1 q2 => hf j (by omega)), (hf 43 (by omega)).trans cF, cn⟩
theorem CX.kept {w w' : aW} {Q : aQ} {D : aS} {L : aL} {fa : Int32} {K : aK} {Z : aZ} {n : Nat} {S : aS} (h : CX w Q D L fa K Z n) (hN : TW w' 10 S n) (hf : ∀ j, (j < 10 ∨ 18 < j) → w' j = w j) : CX w' (Q.1, S, Q.2.2) D L fa K Z n := by
  obtain ⟨c0, cT, cK, cD, cS, cR, cW, cE, cF, cn⟩ := h
  exact ⟨(hf 0 (by omega)).trans c0, cT.fr (fun j q1 q2 => hf j (by omega)), hN, cD.fr (fun j q1 q2 => hf j (by omega)), cS.fr (fun j q1 q2 => hf j (by omega)), cR.fr (fun j q1 q2 => hf j (by omega)), cW.fr (fun j q1 q2 => hf j (by omega)), cE.fr (fun j q1 q2 => hf j (by omega)), (hf 43 (by omega)).trans cF, cn⟩
theorem CX.draft {w w' : aW} {Q : aQ} {D : aS} {L : aL} {fa : Int32} {K : aK} {Z : aZ} {n : Nat} {S : aS} (h : CX w Q D L fa K Z n) (hN : TW w' 19 S n) (hf : ∀ j, (j < 19 ∨ 27 < j) → w' j = w j) : CX w' Q S L fa K Z n := by
  obtain ⟨c0, cT, cK, cD, cS, cR, cW, cE, cF, cn⟩ := h
  exact ⟨(hf 0 (by omega)).trans c0, cT.fr (fun j q1 q2 => hf j (by omega)), cK.fr (fun j q1 q2 => hf j (by omega)), hN, cS.fr (fun j q1 q2 => hf j (by omega)), cR.fr (fun j q1 q2 => hf j (by omega)), cW.fr (fun j q1 q2 => hf j (by omega)), cE.fr (fun j q1 q2 => hf j (by omega)), (hf 43 (by omega)).trans cF, cn⟩
theorem CX.shel {w w' : aW} {Q : aQ} {D : aS} {L : aL} {fa : Int32} {K : aK} {Z : aZ} {n : Nat} {S : aH} (h : CX w Q D L fa K Z n) (hN : SW w' 28 S n) (hf : ∀ j, (j < 28 ∨ 32 < j) → w' j = w j) : CX w' (Q.1, Q.2.1, Q.2.2.1, S, Q.2.2.2.2) D L fa K Z n := by
  obtain ⟨c0, cT, cK, cD, cS, cR, cW, cE, cF, cn⟩ := h
  exact ⟨(hf 0 (by omega)).trans c0, cT.fr (fun j q1 q2 => hf j (by omega)), cK.fr (fun j q1 q2 => hf j (by omega)), cD.fr (fun j q1 q2 => hf j (by omega)), hN, cR.fr (fun j q1 q2 => hf j (by omega)), cW.fr (fun j q1 q2 => hf j (by omega)), cE.fr (fun j q1 q2 => hf j (by omega)), (hf 43 (by omega)).trans cF, cn⟩
theorem CX.tape {w w' : aW} {Q : aQ} {D : aS} {L : aL} {fa : Int32} {K : aK} {Z : aZ} {n : Nat} {f : Nat → Int32} {z : Nat} {L' : aL} {fa' : Int32} (h : CX w Q D L fa K Z n) (hN : RW w' 33 f z L' fa' n) (hf : ∀ j, (j < 33 ∨ 34 < j) → w' j = w j) : CX w' (Q.1, Q.2.1, Q.2.2.1, Q.2.2.2.1, f, z, Q.2.2.2.2.2.2) D L' fa' K Z n := by
  obtain ⟨c0, cT, cK, cD, cS, cR, cW, cE, cF, cn⟩ := h
  exact ⟨(hf 0 (by omega)).trans c0, cT.fr (fun j q1 q2 => hf j (by omega)), cK.fr (fun j q1 q2 => hf j (by omega)), cD.fr (fun j q1 q2 => hf j (by omega)), cS.fr (fun j q1 q2 => hf j (by omega)), hN, cW.fr (fun j q1 q2 => hf j (by omega)), cE.fr (fun j q1 q2 => hf j (by omega)), (hf 43 (by omega)).trans cF, cn⟩
theorem CX.week {w w' : aW} {Q : aQ} {D : aS} {L : aL} {fa : Int32} {K : aK} {Z : aZ} {n : Nat} {S : aK} (h : CX w Q D L fa K Z n) (hN : WW w' 35 S n) (hf : ∀ j, (j < 35 ∨ 36 < j) → w' j = w j) : CX w' Q D L fa S Z n := by
  obtain ⟨c0, cT, cK, cD, cS, cR, cW, cE, cF, cn⟩ := h
  exact ⟨(hf 0 (by omega)).trans c0, cT.fr (fun j q1 q2 => hf j (by omega)), cK.fr (fun j q1 q2 => hf j (by omega)), cD.fr (fun j q1 q2 => hf j (by omega)), cS.fr (fun j q1 q2 => hf j (by omega)), cR.fr (fun j q1 q2 => hf j (by omega)), hN, cE.fr (fun j q1 q2 => hf j (by omega)), (hf 43 (by omega)).trans cF, cn⟩
theorem CX.srch {w w' : aW} {Q : aQ} {D : aS} {L : aL} {fa : Int32} {K : aK} {Z : aZ} {n : Nat} {S : aZ} (h : CX w Q D L fa K Z n) (hN : EW w' 37 S n) (hf : ∀ j, (j < 37 ∨ 42 < j) → w' j = w j) : CX w' Q D L fa K S n := by
  obtain ⟨c0, cT, cK, cD, cS, cR, cW, cE, cF, cn⟩ := h
  exact ⟨(hf 0 (by omega)).trans c0, cT.fr (fun j q1 q2 => hf j (by omega)), cK.fr (fun j q1 q2 => hf j (by omega)), cD.fr (fun j q1 q2 => hf j (by omega)), cS.fr (fun j q1 q2 => hf j (by omega)), cR.fr (fun j q1 q2 => hf j (by omega)), cW.fr (fun j q1 q2 => hf j (by omega)), hN, (hf 43 (by omega)).trans cF, cn⟩
theorem CX.flag {w w' : aW} {Q : aQ} {D : aS} {L : aL} {fa v : Int32} {K : aK} {Z : aZ} {n : Nat} (h : CX w Q D L fa K Z n) (hN : w' 0 = .inr (0, nob v)) (hf : ∀ j, ¬ j = 0 → w' j = w j) : CX w' (Q.1, Q.2.1, v, Q.2.2.2) D L fa K Z n := by
  obtain ⟨c0, cT, cK, cD, cS, cR, cW, cE, cF, cn⟩ := h
  exact ⟨hN, cT.fr (fun j q1 q2 => hf j (by omega)), cK.fr (fun j q1 q2 => hf j (by omega)), cD.fr (fun j q1 q2 => hf j (by omega)), cS.fr (fun j q1 q2 => hf j (by omega)), cR.fr (fun j q1 q2 => hf j (by omega)), cW.fr (fun j q1 q2 => hf j (by omega)), cE.fr (fun j q1 q2 => hf j (by omega)), (hf 43 (by omega)).trans cF, cn⟩
theorem CX.refs {w w' : aW} {Q : aQ} {D : aS} {L : aL} {fa : Int32} {K : aK} {Z : aZ} {n : Nat} {f : Nat → Int32} (h : CX w Q D L fa K Z n) (hN : w' 43 = ai 5 f) (hf : ∀ j, ¬ j = 43 → w' j = w j) : CX w' (Q.1, Q.2.1, Q.2.2.1, Q.2.2.2.1, Q.2.2.2.2.1, Q.2.2.2.2.2.1, f) D L fa K Z n := by
  obtain ⟨c0, cT, cK, cD, cS, cR, cW, cE, cF, cn⟩ := h
  exact ⟨(hf 0 (by omega)).trans c0, cT.fr (fun j q1 q2 => hf j (by omega)), cK.fr (fun j q1 q2 => hf j (by omega)), cD.fr (fun j q1 q2 => hf j (by omega)), cS.fr (fun j q1 q2 => hf j (by omega)), cR.fr (fun j q1 q2 => hf j (by omega)), cW.fr (fun j q1 q2 => hf j (by omega)), cE.fr (fun j q1 q2 => hf j (by omega)), hN, cn⟩
def rfF (f : Nat → Int32) (r : Int32) : Nat → Int32 := if ¬ (-2 - r) < 0 ∧ ¬ Int32.ofNat 5 ≤ (-2 - r) then upd f (-2 - r).toNatClampNeg (atI f 5 (-2 - r) + 1) else f
def rfQ (Q : aQ) (r : Int32) : aQ := (Q.1, Q.2.1, Q.2.2.1, Q.2.2.2.1, Q.2.2.2.2.1, Q.2.2.2.2.2.1, rfF Q.2.2.2.2.2.2 r)
abbrev rfz (Q : aQ) (r : Int32) : Int32 × aQ := (r, rfQ Q r)
abbrev rfb (Q : aQ) (r : Int32) : Int32 × aQ := (-1000000 + r, rfQ Q r)
section CLASS
variable {G : gE} {w : aW} {n : Nat} {Q : aQ}
theorem CX.cw {D : aS} {L : aL} {fa : Int32} {K : aK} {Z : aZ} (h : CX w Q D L fa K Z n) : CW w Q n := ⟨D, L, fa, K, Z, h⟩
theorem cFr.rfl {w : aW} : cFr w w := fun _ _ => Eq.refl _
theorem c_N_refuse {r : Int32} (hC : CW w Q n) : Cm G 1 y_N_refuse [.ref 0, .int r] w n (rfz Q r) := by
  obtain ⟨D, L, fa, K, Z, hX⟩ := hC
  obtain ⟨c0, cT, cK, cD, cS, cR, cW, cE, cF, cn⟩ := id hX
  refine Cm.of k_N_refuse l_N_refuse rfl rfl ?_
  refine r_bipush (v := (-2 : Int32)) i_N_refuse_0 (by decide) ?_
  refine r_iload_n (i := 1) i_N_refuse_2 rfl rfl ?_
  refine r_isub i_N_refuse_3 ?_
  refine r_istore_2 i_N_refuse_4 (by rw [l_N_refuse]; decide) rfl ?_
  refine r_aload_n (i := 0) i_N_refuse_5 rfl rfl ?_
  refine r_getf (ci := 0) (T := Fk0) (k := 8) o_N_refuse i_N_refuse_6 x_N_54 rfl (by decide) rfl (by repeat (first | assumption | exact upw_s | refine (upw_n (by omega)).trans ?_)) (by first | assumption | omega) (by rfl) ?_
  refine r_iload_n (i := 2) i_N_refuse_9 rfl rfl ?_
  refine r_aload_n (i := 0) i_N_refuse_10 rfl rfl ?_
  refine r_getf (ci := 0) (T := Fk0) (k := 8) o_N_refuse i_N_refuse_11 x_N_54 rfl (by decide) rfl (by repeat (first | assumption | exact upw_s | refine (upw_n (by omega)).trans ?_)) (by first | assumption | omega) (by rfl) ?_
  refine r_iload_n (i := 2) i_N_refuse_14 rfl rfl ?_
  refine f_static o_N_refuse k_N_at s_N_at x_N_195 i_N_refuse_15 (c_N_at (by repeat (first | assumption | exact upw_s | refine (upw_n (by omega)).trans ?_)) (by omega) (by decide)) rfl rfl (by decide) (Nat.le_of_ble_eq_true rfl) ?_
  refine r_iconst (v := (1 : Int32)) i_N_refuse_18 rfl ?_
  refine r_iadd i_N_refuse_19 ?_
  refine f_static o_N_refuse k_N_put s_N_put x_N_339 i_N_refuse_20 (c_N_put (by repeat (first | assumption | exact upw_s | refine (upw_n (by omega)).trans ?_)) (by omega) (by decide)) rfl rfl (by decide) (Nat.le_of_ble_eq_true rfl) ?_
  refine r_iload_n (i := 1) i_N_refuse_23 rfl rfl ?_
  refine r_ireturn i_N_refuse_24 t_N_refuse rfl ?_
  unfold puI rfz rfQ rfF
  by_cases q : ¬ (-2 - r) < 0 ∧ ¬ Int32.ofNat 5 ≤ (-2 - r)
  · rw [if_pos q, if_pos q]
    exact ⟨rfl, ⟨⟨D, L, fa, K, Z, hX.refs upw_s (fun j hj => upw_n hj)⟩, fun j hj => upw_n (by omega)⟩, rfl⟩
  · rw [if_neg q, if_neg q]
    exact ⟨rfl, ⟨⟨D, L, fa, K, Z, hX⟩, fun _ _ => rfl⟩, rfl⟩
theorem c_N_refuseBelow {r : Int32} (hC : CW w Q n) : Cm G 2 y_N_refuseBelow [.ref 0, .int r] w n (rfb Q r) := by
  obtain ⟨D, L, fa, K, Z, c0, cT, cK, cD, cS, cR, cW, cE, cF, cn⟩ := id hC
  refine Cm.of k_N_refuseBelow l_N_refuseBelow rfl rfl ?_
  refine r_ldcw o_N_refuseBelow i_N_refuseBelow_0 x_N_343 ?_
  refine r_aload_n (i := 0) i_N_refuseBelow_3 rfl rfl ?_
  refine r_iload_n (i := 1) i_N_refuseBelow_4 rfl rfl ?_
  refine m_virtual o_N_refuseBelow k_N_refuse v_N_refuse x_N_66 i_N_refuseBelow_5 o_N_refuse (c_N_refuse hC) rfl (rcv_ob (by repeat (first | assumption | exact upw_s | refine (upw_n (by omega)).trans ?_)) rfl (by first | assumption | omega)) rfl (by decide) (Nat.le_of_ble_eq_true rfl) (Nat.zero_le _) (Nat.zero_le _) (fun r1 w2 n1 hp9 => ?_)
  obtain ⟨rfl, hp9, rfl⟩ := hp9
  refine r_iadd i_N_refuseBelow_8 ?_
  refine r_ireturn i_N_refuseBelow_9 t_N_refuseBelow rfl ?_
  exact ⟨rfl, hp9, rfl⟩
end CLASS
