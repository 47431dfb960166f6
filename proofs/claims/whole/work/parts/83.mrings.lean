-- THE REFERENCE: rings
def PMk (M : aM) (B : Nat) : Prop := ∀ c, c < B → ∃ p q, p < 7 ∧ q < 7 ∧ M.2.1 (21 + c) 0 = nI p ∧ M.2.1 (21 + c) 1 = nI q
def pfN (M : aM) (b c : Nat) : Int32 := pfM M b (M.2.1 (21 + c) 0).toNatClampNeg (M.2.1 (21 + c) 1).toNatClampNeg
def rgM (M : aM) (a b c : Nat) : Bool := !decide (pfN M a b = -1) && (!decide (pfN M b c = -1) && !decide (pfN M c a = -1))
section MRINGS
variable {G : gE} {w : aW} {o n : Nat} {M : aM}
theorem c_M_partyForN {b c B : Nat} (h : MW w o M n) (hk : PMk M B) (hB7 : B ≤ 7) (hb : b < 7) (hc : c < B) : Fn G 2 y_M_partyFor [.ref o, .int (nI b), .int (nI c)] w n (some (.int (pfN M b c))) w := by
  obtain ⟨p, q, hp, hq, ep, eq⟩ := hk c hc
  unfold pfN
  rw [ep, eq, nI_clamp (by omega), nI_clamp (by omega)]
  exact c_M_partyFor h hb (by omega) hp hq ep eq
theorem c_M_isRing {a b c B : Nat} (h : MW w o M n) (hk : PMk M B) (hB7 : B ≤ 7) (ha : a < B) (hb : b < B) (hc : c < B) : Fn G 3 y_M_isRing [.ref o, .int (nI a), .int (nI b), .int (nI c)] w n (some (.int (bI (rgM M a b c)))) w := by
  obtain ⟨m0, mA', mL', m4, m20, m28, mn'⟩ := id h
  refine Fn.of k_M_isRing l_M_isRing rfl rfl ?_
  unfold rgM
  refine r_aload_n (i := 0) i_M_isRing_0 rfl rfl ?_
  refine r_iload_n (i := 1) i_M_isRing_1 rfl rfl ?_
  refine r_iload_n (i := 2) i_M_isRing_2 rfl rfl ?_
  refine f_virtual o_M_isRing k_M_partyFor v_M_partyFor x_M_313 i_M_isRing_3 o_M_partyFor (c_M_partyForN h hk hB7 (by omega) hb) rfl (rcv_ob (by repeat (first | assumption | exact upw_s | refine (upw_n (by omega)).trans ?_)) rfl (by first | assumption | omega)) rfl (by decide) (Nat.le_of_ble_eq_true rfl) ?_
  refine r_iconst (v := (-1 : Int32)) i_M_isRing_6 rfl ?_
  refine r_icmp_eq 34 i_M_isRing_7 (by decide) (fun h7 => ?_) (fun h7 => ?_)
  · skip
    rw [decide_eq_true h7]
    refine r_iconst (v := (0 : Int32)) i_M_isRing_34 rfl ?_
    refine r_ireturn i_M_isRing_35 t_M_isRing (by first | rfl | exact nar_bI _) ?_
    exact ⟨rfl, rfl, rfl⟩
  · skip
    rw [decide_eq_false h7]
    refine r_aload_n (i := 0) i_M_isRing_10 rfl rfl ?_
    refine r_iload_n (i := 2) i_M_isRing_11 rfl rfl ?_
    refine r_iload_n (i := 3) i_M_isRing_12 rfl rfl ?_
    refine f_virtual o_M_isRing k_M_partyFor v_M_partyFor x_M_313 i_M_isRing_13 o_M_partyFor (c_M_partyForN h hk hB7 (by omega) hc) rfl (rcv_ob (by repeat (first | assumption | exact upw_s | refine (upw_n (by omega)).trans ?_)) rfl (by first | assumption | omega)) rfl (by decide) (Nat.le_of_ble_eq_true rfl) ?_
    refine r_iconst (v := (-1 : Int32)) i_M_isRing_16 rfl ?_
    refine r_icmp_eq 34 i_M_isRing_17 (by decide) (fun h17 => ?_) (fun h17 => ?_)
    · skip
      rw [decide_eq_true h17]
      refine r_iconst (v := (0 : Int32)) i_M_isRing_34 rfl ?_
      refine r_ireturn i_M_isRing_35 t_M_isRing (by first | rfl | exact nar_bI _) ?_
      exact ⟨rfl, rfl, rfl⟩
    · skip
      rw [decide_eq_false h17]
      refine r_aload_n (i := 0) i_M_isRing_20 rfl rfl ?_
      refine r_iload_n (i := 3) i_M_isRing_21 rfl rfl ?_
      refine r_iload_n (i := 1) i_M_isRing_22 rfl rfl ?_
      refine f_virtual o_M_isRing k_M_partyFor v_M_partyFor x_M_313 i_M_isRing_23 o_M_partyFor (c_M_partyForN h hk hB7 (by omega) ha) rfl (rcv_ob (by repeat (first | assumption | exact upw_s | refine (upw_n (by omega)).trans ?_)) rfl (by first | assumption | omega)) rfl (by decide) (Nat.le_of_ble_eq_true rfl) ?_
      refine r_iconst (v := (-1 : Int32)) i_M_isRing_26 rfl ?_
      refine r_icmp_eq 34 i_M_isRing_27 (by decide) (fun h27 => ?_) (fun h27 => ?_)
      · skip
        rw [decide_eq_true h27]
        refine r_iconst (v := (0 : Int32)) i_M_isRing_34 rfl ?_
        refine r_ireturn i_M_isRing_35 t_M_isRing (by first | rfl | exact nar_bI _) ?_
        exact ⟨rfl, rfl, rfl⟩
      · skip
        rw [decide_eq_false h27]
        refine r_iconst (v := (1 : Int32)) i_M_isRing_30 rfl ?_
        refine r_goto 35 i_M_isRing_31 (by decide) ?_
        refine r_ireturn i_M_isRing_35 t_M_isRing (by first | rfl | exact nar_bI _) ?_
        exact ⟨rfl, rfl, rfl⟩
end MRINGS
