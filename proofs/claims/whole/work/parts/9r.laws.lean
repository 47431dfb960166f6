-- THE LAW: its other cases
theorem CX.at {w w' : aW} {Q : aQ} {D : aS} {L : aL} {fa : Int32} {K : aK} {Z : aZ} {n n' : Nat} (h : CX w Q D L fa K Z n) (hf : ∀ j, j ≤ 43 → w' j = w j) (hn : 43 < n') : CX w' Q D L fa K Z n' := by
  have h := h.fr (n' := n + n') hf (Nat.le_add_right n n')
  obtain ⟨g0, ⟨t0, t1, t2, t3, t4, t5, t6, t7, t8, -⟩, ⟨k0, k1, k2, k3, k4, k5, k6, k7, k8, -⟩, ⟨d0, d1, d2, d3, d4, d5, d6, d7, d8, -⟩, ⟨s0, s1, s2, s3, s4, -⟩, ⟨r0, r1, -⟩, ⟨a0, a1, -⟩, ⟨e0, e1, e2, e3, e4, e5, -⟩, g43, g⟩ := h
  exact ⟨g0, ⟨t0, t1, t2, t3, t4, t5, t6, t7, t8, by omega⟩, ⟨k0, k1, k2, k3, k4, k5, k6, k7, k8, by omega⟩, ⟨d0, d1, d2, d3, d4, d5, d6, d7, d8, by omega⟩, ⟨s0, s1, s2, s3, s4, by omega⟩, ⟨r0, r1, by omega⟩, ⟨a0, a1, by omega⟩, ⟨e0, e1, e2, e3, e4, e5, by omega⟩, g43, hn⟩
theorem law_x {w1 w2 : aW} {Q : aQ} {M' K' : aM} {n n' : Nat} (hC1 : CW w1 Q n) (hF2 : xFr w1 w2) (hX : XW w2 M' K' n') (hR : Rl Q M' K') : LN w2 n' := by
  obtain ⟨D, L, fa, K1, Z, hC1⟩ := hC1
  exact law_norm (hC1.at (fun j hj => hF2 j (by omega)) (by have := hX.lt44; omega)).cw hX hR
section LAWS
variable {G : gE} {w : aW} {n i bc bs : Nat} {post : Option Value → aW → Nat → Prop}
theorem law_image (hLI : LI w n) (hbc : 41 ≤ bc) (hbs : 840 ≤ bs) (hk9 : ∀ w' n', LN w' n' → Go G 100 299 1744 [some (.ref (gB + 201)), some (.ref 0), some (.ref 44), some (.int (nI i))] [] w' n' (bc - 41) (bs - 840) post) : Go G 100 299 1695 [some (.ref (gB + 201)), some (.ref 0), some (.ref 44), some (.int (nI i))] [] w n bc bs post := by
  obtain ⟨Q, M, K, hC, hX, hR, hQ⟩ := hLI
  have g0 := hC.ob
  have gn := hC.lt
  have gm := hX.lt44
  refine r_aload_n (i := 1) i_L_law_1695 rfl rfl ?_
  refine m_virtual o_L_law k_N_image v_N_image x_L_240 i_L_law_1696 o_N_image (c_N_image hC) rfl (rcv_ob g0 rfl (by omega)) rfl (by decide) (Nat.le_of_ble_eq_true rfl) (Nat.zero_le _) (Nat.zero_le _) (fun r1 w1 n1 hp1 => ?_)
  obtain ⟨rfl, ⟨hC1, hF1⟩, rfl⟩ := hp1
  have hX1 := hX.cf hF1
  refine r_aload_n (i := 2) i_L_law_1699 rfl rfl ?_
  refine m_virtual o_L_law k_M_image v_M_image x_L_243 i_L_law_1700 o_M_image (c_X_image hX1) rfl (rcv_ob hX1.1.1 rfl (by omega)) rfl (by decide) (Nat.le_of_ble_eq_true rfl) hbc hbs (fun r2 w2 n2 hp2 => ?_)
  obtain ⟨rfl, ⟨k, K', hX2, hG⟩, hF2⟩ := hp2
  refine r_icmp_eq 1744 i_L_law_1703 (by decide) (fun h1703 => ?_) (fun h1703 => (absurd rfl h1703))
  exact hk9 _ _ (law_x hC1 hF2 hX2 (rl_image hR hG))
theorem law_town (hfm : (gfm G).category = 1) (hLI : LI w n) (hbc : 41 ≤ bc) (hbs : 840 ≤ bs) (hk9 : ∀ w' n', LN w' n' → Go G 100 299 1744 [some (.ref (gB + 201)), some (.ref 0), some (.ref 44), some (.int (nI i))] [] w' n' (bc - 41) (bs - 840) post) : Go G 100 299 825 [some (.ref (gB + 201)), some (.ref 0), some (.ref 44), some (.int (nI i))] [] w n bc bs post := by
  obtain ⟨Q, M, K, hC, hX, hR, hQ⟩ := hLI
  have hq := hR.2.2.2.2.2.1
  have g0 := hC.ob
  have gn := hC.lt
  have gm := hX.lt44
  refine r_aload_n (i := 1) i_L_law_825 rfl rfl ?_
  refine m_virtual o_L_law k_N_town v_N_town x_L_80 i_L_law_826 o_N_town (c_N_town hfm hC hq) rfl (rcv_ob g0 rfl (by omega)) rfl (by decide) (Nat.le_of_ble_eq_true rfl) (Nat.zero_le _) (Nat.zero_le _) (fun r1 w1 n1 hp1 => ?_)
  obtain ⟨rfl, ⟨hC1, hF1⟩, rfl⟩ := hp1
  have hX1 := hX.cf hF1
  refine r_aload_n (i := 2) i_L_law_829 rfl rfl ?_
  refine m_virtual o_L_law k_M_town v_M_town x_L_83 i_L_law_830 o_M_town (c_X_town (S := Q.1) hfm hX1 hq.2.2.2 hR.2.2.2.1.2 hR.2.2.2.1.1 hR.1 hR.2.2.2.2.2.2.1) rfl (rcv_ob hX1.1.1 rfl (by omega)) rfl (by decide) (Nat.le_of_ble_eq_true rfl) hbc hbs (fun r2 w2 n2 hp2 => ?_)
  obtain ⟨N, rfl, hX2, hF2, e1, e2, e3, e4, e5⟩ := hp2
  refine r_icmp_eq 1744 i_L_law_833 (by decide) (fun h833 => ?_) (fun h833 => (absurd rfl h833))
  exact hk9 _ _ (law_x hC1 hF2 hX2 (rl_town hR e1 e2 e3 e4 e5))
theorem law_back (hLI : LI w n) (hk9 : ∀ w', LN w' n → Go G 100 299 1744 [some (.ref (gB + 201)), some (.ref 0), some (.ref 44), some (.int (nI i))] [] w' n bc bs post) : Go G 100 299 1708 [some (.ref (gB + 201)), some (.ref 0), some (.ref 44), some (.int (nI i))] [] w n bc bs post := by
  obtain ⟨Q, M, K, hC, hX, hR, hQ⟩ := hLI
  have g0 := hC.ob
  have gn := hC.lt
  have gm := hX.lt44
  obtain ⟨b1, b2⟩ := rl_back hR
  have hE : ∀ (w1 w2 : aW) (r : Option Value), CW w1 (m_back Q).2 n → xFr w1 w2 → ((M.2.2.2.1 = .null ∧ r = some (.int (-5)) ∧ XW w2 (mR M 5) K n) ∨ (¬ M.2.2.2.1 = .null ∧ r = some (.int 1) ∧ XW w2 (tfM M K) K n)) → r = some (.int (m_back Q).1) ∧ LN w2 n := by
    intro w1 w2 r hC1 hF2 h
    rcases h with ⟨e, rfl, hX2⟩ | ⟨e, rfl, hX2⟩
    · rw [(b1 e).1]
      exact ⟨rfl, law_x hC1 hF2 hX2 (b1 e).2⟩
    · rw [(b2 e).1]
      exact ⟨rfl, law_x hC1 hF2 hX2 (b2 e).2⟩
  refine r_aload_n (i := 1) i_L_law_1708 rfl rfl ?_
  refine m_virtual o_L_law k_N_back v_N_back x_L_244 i_L_law_1709 o_N_back (c_N_back hC) rfl (rcv_ob g0 rfl (by omega)) rfl (by decide) (Nat.le_of_ble_eq_true rfl) (Nat.zero_le _) (Nat.zero_le _) (fun r1 w1 n1 hp1 => ?_)
  obtain ⟨rfl, ⟨hC1, hF1⟩, rfl⟩ := hp1
  have hX1 := hX.cf hF1
  refine r_aload_n (i := 2) i_L_law_1712 rfl rfl ?_
  refine m_virtual o_L_law k_M_back v_M_back x_L_247 i_L_law_1713 o_M_back (c_X_back hX1) rfl (rcv_ob hX1.1.1 rfl (by omega)) rfl (by decide) (Nat.le_of_ble_eq_true rfl) (Nat.zero_le _) (Nat.zero_le _) (fun r2 w2 n2 hp2 => ?_)
  obtain ⟨rfl, hF2, hp2⟩ := hp2
  obtain ⟨rfl, hN⟩ := hE w1 w2 r2 hC1 hF2 hp2
  refine r_icmp_eq 1744 i_L_law_1716 (by decide) (fun h1716 => ?_) (fun h1716 => (absurd rfl h1716))
  exact hk9 _ hN
theorem law_bars (hLI : LI w n) (hi : i + 6 ≤ gL G) (hL : gL G ≤ 384) (hk9 : ∀ w', LN w' n → Go G 100 299 1744 [some (.ref (gB + 201)), some (.ref 0), some (.ref 44), some (.int (nI i))] [] w' n bc bs post) : Go G 100 299 697 [some (.ref (gB + 201)), some (.ref 0), some (.ref 44), some (.int (nI i))] [] w n bc bs post := by
  obtain ⟨Q, M, K, hC, hX, hR, hQ⟩ := hLI
  obtain ⟨P, B, hCn⟩ := hR.cnt
  obtain ⟨hP7, hB7, hP, hB, hPM, hBM, -⟩ := id hCn
  have hq := hR.2.2.2.2.2.1
  have g0 := hC.ob
  have gn := hC.lt
  have gm := hX.lt44
  by_cases hz : gxs G (nI i + 3).toNatClampNeg = 0
  · skip
    refine r_aload_n (i := 1) i_L_law_697 rfl rfl ?_
    refine r_aload_n (i := 0) i_L_law_698 rfl rfl ?_
    refine r_iload_n (i := 3) i_L_law_699 rfl rfl ?_
    refine r_iconst (v := (1 : Int32)) i_L_law_700 rfl ?_
    refine r_iadd i_L_law_701 ?_
    refine r_scriptAt i_L_law_702 (sc_in (k := 1) hi hL (by decide)) ?_
    refine r_aload_n (i := 0) i_L_law_703 rfl rfl ?_
    refine r_iload_n (i := 3) i_L_law_704 rfl rfl ?_
    refine r_iconst (v := (2 : Int32)) i_L_law_705 rfl ?_
    refine r_iadd i_L_law_706 ?_
    refine r_scriptAt i_L_law_707 (sc_in (k := 2) hi hL (by decide)) ?_
    refine r_aload_n (i := 0) i_L_law_708 rfl rfl ?_
    refine r_iload_n (i := 3) i_L_law_709 rfl rfl ?_
    refine r_iconst (v := (3 : Int32)) i_L_law_710 rfl ?_
    refine r_iadd i_L_law_711 ?_
    refine r_scriptAt i_L_law_712 (sc_in (k := 3) hi hL (by decide)) ?_
    refine r_if_eq 720 i_L_law_713 (by decide) (fun h713 => ?_) (fun h713 => (absurd hz h713))
    refine r_iconst (v := (0 : Int32)) i_L_law_720 rfl ?_
    refine m_virtual o_L_law k_N_bars v_N_bars x_L_63 i_L_law_721 o_N_bars (c_N_bars hC hq) rfl (rcv_ob g0 rfl (by omega)) rfl (by decide) (Nat.le_of_ble_eq_true rfl) (Nat.zero_le _) (Nat.zero_le _) (fun r1 w1 n1 hp1 => ?_)
    obtain ⟨rfl, ⟨hC1, hF1⟩, rfl⟩ := hp1
    have hm1 := (hX.cf hF1).1
    refine r_aload_n (i := 2) i_L_law_724 rfl rfl ?_
    refine r_aload_n (i := 0) i_L_law_725 rfl rfl ?_
    refine r_iload_n (i := 3) i_L_law_726 rfl rfl ?_
    refine r_iconst (v := (1 : Int32)) i_L_law_727 rfl ?_
    refine r_iadd i_L_law_728 ?_
    refine r_scriptAt i_L_law_729 (sc_in (k := 1) hi hL (by decide)) ?_
    refine r_aload_n (i := 0) i_L_law_730 rfl rfl ?_
    refine r_iload_n (i := 3) i_L_law_731 rfl rfl ?_
    refine r_iconst (v := (2 : Int32)) i_L_law_732 rfl ?_
    refine r_iadd i_L_law_733 ?_
    refine r_scriptAt i_L_law_734 (sc_in (k := 2) hi hL (by decide)) ?_
    refine r_aload_n (i := 0) i_L_law_735 rfl rfl ?_
    refine r_iload_n (i := 3) i_L_law_736 rfl rfl ?_
    refine r_iconst (v := (3 : Int32)) i_L_law_737 rfl ?_
    refine r_iadd i_L_law_738 ?_
    refine r_scriptAt i_L_law_739 (sc_in (k := 3) hi hL (by decide)) ?_
    refine r_if_eq 747 i_L_law_740 (by decide) (fun h740 => ?_) (fun h740 => (absurd hz h740))
    refine r_iconst (v := (0 : Int32)) i_L_law_747 rfl ?_
    refine m_virtual o_L_law k_M_bars v_M_bars x_L_67 i_L_law_748 o_M_bars (c_M_bars hm1 hBM hB7) rfl (rcv_ob hm1.1 rfl (by omega)) rfl (by decide) (Nat.le_of_ble_eq_true rfl) (Nat.zero_le _) (Nat.zero_le _) (fun r2 w2 n2 hp2 => ?_)
    obtain ⟨rfl, ⟨hM2, hF2⟩, rfl⟩ := hp2
    have hE := eqv_bars (b := gxs G (nI i + 1).toNatClampNeg) (c := gxs G (nI i + 2).toNatClampNeg) (z := 0) hR hCn (Or.inl rfl)
    refine r_icmp_eq 1744 i_L_law_751 (by decide) (fun h751 => ?_) (fun h751 => (absurd hE.1 h751))
    exact hk9 _ (law_next hX hC1 hF1 hM2 hF2 hE)
  · skip
    refine r_aload_n (i := 1) i_L_law_697 rfl rfl ?_
    refine r_aload_n (i := 0) i_L_law_698 rfl rfl ?_
    refine r_iload_n (i := 3) i_L_law_699 rfl rfl ?_
    refine r_iconst (v := (1 : Int32)) i_L_law_700 rfl ?_
    refine r_iadd i_L_law_701 ?_
    refine r_scriptAt i_L_law_702 (sc_in (k := 1) hi hL (by decide)) ?_
    refine r_aload_n (i := 0) i_L_law_703 rfl rfl ?_
    refine r_iload_n (i := 3) i_L_law_704 rfl rfl ?_
    refine r_iconst (v := (2 : Int32)) i_L_law_705 rfl ?_
    refine r_iadd i_L_law_706 ?_
    refine r_scriptAt i_L_law_707 (sc_in (k := 2) hi hL (by decide)) ?_
    refine r_aload_n (i := 0) i_L_law_708 rfl rfl ?_
    refine r_iload_n (i := 3) i_L_law_709 rfl rfl ?_
    refine r_iconst (v := (3 : Int32)) i_L_law_710 rfl ?_
    refine r_iadd i_L_law_711 ?_
    refine r_scriptAt i_L_law_712 (sc_in (k := 3) hi hL (by decide)) ?_
    refine r_if_eq 720 i_L_law_713 (by decide) (fun h713 => (absurd h713 hz)) (fun h713 => ?_)
    refine r_iconst (v := (1 : Int32)) i_L_law_716 rfl ?_
    refine r_goto 721 i_L_law_717 (by decide) ?_
    refine m_virtual o_L_law k_N_bars v_N_bars x_L_63 i_L_law_721 o_N_bars (c_N_bars hC hq) rfl (rcv_ob g0 rfl (by omega)) rfl (by decide) (Nat.le_of_ble_eq_true rfl) (Nat.zero_le _) (Nat.zero_le _) (fun r1 w1 n1 hp1 => ?_)
    obtain ⟨rfl, ⟨hC1, hF1⟩, rfl⟩ := hp1
    have hm1 := (hX.cf hF1).1
    refine r_aload_n (i := 2) i_L_law_724 rfl rfl ?_
    refine r_aload_n (i := 0) i_L_law_725 rfl rfl ?_
    refine r_iload_n (i := 3) i_L_law_726 rfl rfl ?_
    refine r_iconst (v := (1 : Int32)) i_L_law_727 rfl ?_
    refine r_iadd i_L_law_728 ?_
    refine r_scriptAt i_L_law_729 (sc_in (k := 1) hi hL (by decide)) ?_
    refine r_aload_n (i := 0) i_L_law_730 rfl rfl ?_
    refine r_iload_n (i := 3) i_L_law_731 rfl rfl ?_
    refine r_iconst (v := (2 : Int32)) i_L_law_732 rfl ?_
    refine r_iadd i_L_law_733 ?_
    refine r_scriptAt i_L_law_734 (sc_in (k := 2) hi hL (by decide)) ?_
    refine r_aload_n (i := 0) i_L_law_735 rfl rfl ?_
    refine r_iload_n (i := 3) i_L_law_736 rfl rfl ?_
    refine r_iconst (v := (3 : Int32)) i_L_law_737 rfl ?_
    refine r_iadd i_L_law_738 ?_
    refine r_scriptAt i_L_law_739 (sc_in (k := 3) hi hL (by decide)) ?_
    refine r_if_eq 747 i_L_law_740 (by decide) (fun h740 => (absurd h740 hz)) (fun h740 => ?_)
    refine r_iconst (v := (1 : Int32)) i_L_law_743 rfl ?_
    refine r_goto 748 i_L_law_744 (by decide) ?_
    refine m_virtual o_L_law k_M_bars v_M_bars x_L_67 i_L_law_748 o_M_bars (c_M_bars hm1 hBM hB7) rfl (rcv_ob hm1.1 rfl (by omega)) rfl (by decide) (Nat.le_of_ble_eq_true rfl) (Nat.zero_le _) (Nat.zero_le _) (fun r2 w2 n2 hp2 => ?_)
    obtain ⟨rfl, ⟨hM2, hF2⟩, rfl⟩ := hp2
    have hE := eqv_bars (b := gxs G (nI i + 1).toNatClampNeg) (c := gxs G (nI i + 2).toNatClampNeg) (z := 1) hR hCn (Or.inr rfl)
    refine r_icmp_eq 1744 i_L_law_751 (by decide) (fun h751 => ?_) (fun h751 => (absurd hE.1 h751))
    exact hk9 _ (law_next hX hC1 hF1 hM2 hF2 hE)
theorem lcmp_e {x y : Int64} (h : x = y) : lg_cmp x y = 0 := by
  subst h
  simp [lg_cmp]
theorem law_element (hLI : LI w n) (hi : i + 6 ≤ gL G) (hL : gL G ≤ 384) (hk9 : ∀ w', LN w' n → Go G 100 299 1744 [some (.ref (gB + 201)), some (.ref 0), some (.ref 44), some (.int (nI i))] [] w' n bc bs post) : Go G 100 299 455 [some (.ref (gB + 201)), some (.ref 0), some (.ref 44), some (.int (nI i))] [] w n bc bs post := by
  obtain ⟨Q, M, K, hC, hX, hR, hQ⟩ := hLI
  have hq := hR.2.2.2.2.2.1
  have g0 := hC.ob
  have gn := hC.lt
  have gm := hX.lt44
  have hE := eq_element (s := gxs G (nI i + 1).toNatClampNeg) (i := gxs G (nI i + 2).toNatClampNeg) hR
  refine r_aload_n (i := 1) i_L_law_455 rfl rfl ?_
  refine r_aload_n (i := 0) i_L_law_456 rfl rfl ?_
  refine r_iload_n (i := 3) i_L_law_457 rfl rfl ?_
  refine r_iconst (v := (1 : Int32)) i_L_law_458 rfl ?_
  refine r_iadd i_L_law_459 ?_
  refine r_scriptAt i_L_law_460 (sc_in (k := 1) hi hL (by decide)) ?_
  refine r_aload_n (i := 0) i_L_law_461 rfl rfl ?_
  refine r_iload_n (i := 3) i_L_law_462 rfl rfl ?_
  refine r_iconst (v := (2 : Int32)) i_L_law_463 rfl ?_
  refine r_iadd i_L_law_464 ?_
  refine r_scriptAt i_L_law_465 (sc_in (k := 2) hi hL (by decide)) ?_
  refine f_virtual o_L_law k_N_element v_N_element x_L_30 i_L_law_466 o_N_element (c_N_element hC hq) rfl (rcv_ob g0 rfl (by omega)) rfl (by decide) (Nat.le_of_ble_eq_true rfl) ?_
  refine r_aload_n (i := 2) i_L_law_469 rfl rfl ?_
  refine r_aload_n (i := 0) i_L_law_470 rfl rfl ?_
  refine r_iload_n (i := 3) i_L_law_471 rfl rfl ?_
  refine r_iconst (v := (1 : Int32)) i_L_law_472 rfl ?_
  refine r_iadd i_L_law_473 ?_
  refine r_scriptAt i_L_law_474 (sc_in (k := 1) hi hL (by decide)) ?_
  refine r_aload_n (i := 0) i_L_law_475 rfl rfl ?_
  refine r_iload_n (i := 3) i_L_law_476 rfl rfl ?_
  refine r_iconst (v := (2 : Int32)) i_L_law_477 rfl ?_
  refine r_iadd i_L_law_478 ?_
  refine r_scriptAt i_L_law_479 (sc_in (k := 2) hi hL (by decide)) ?_
  refine f_virtual o_L_law k_M_element v_M_element x_L_34 i_L_law_480 o_M_element (c_M_element hX.1 hR.mh) rfl (rcv_ob hX.1.1 rfl (by omega)) rfl (by decide) (Nat.le_of_ble_eq_true rfl) ?_
  refine r_lcmp i_L_law_483 ?_
  refine r_if_eq 1744 i_L_law_484 (by decide) (fun h484 => ?_) (fun h484 => (absurd (lcmp_e hE) h484))
  exact hk9 _ (law_norm hC hX hR)
end LAWS
