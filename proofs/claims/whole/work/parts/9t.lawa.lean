-- THE LAW: from its start
theorem VOk_0 : VOk S0 := by
  refine ⟨⟨0, 0, rfl, by omega, rfl, by omega, fun _ _ _ => ⟨rfl, rfl⟩, fun _ _ _ => rfl, fun _ _ _ _ _ => rfl⟩, fun b _ => ⟨⟨0, by omega, rfl⟩, ⟨0, by omega, rfl⟩⟩, fun b t _ _ => ?_, ?_, Or.inr rfl, ?_, ?_, fun b c _ _ => ⟨?_, ?_⟩⟩
  · show -99 ≤ (0 : Int32).toInt ∧ (0 : Int32).toInt ≤ 99
    decide
  · show 1 ≤ (1 : Int32).toInt ∧ (1 : Int32).toInt ≤ 99
    decide
  · show 0 ≤ (5 : Int32).toInt ∧ (5 : Int32).toInt ≤ 10
    decide
  · show 0 ≤ (50 : Int32).toInt ∧ (50 : Int32).toInt ≤ 999
    decide
  · show bt 0 c = bt 0 b
    rw [b_0, b_0]
  · exact b_0 b
theorem Rl_0 {K : aM} : Rl Q0 M0 K := by
  refine ⟨⟨rfl, rfl, fun k hk => ?_, ⟨rfl, rfl, rfl⟩, fun t _ => ⟨rfl, rfl⟩, fun j b hj hb => ?_, fun b t hb ht => ?_⟩, Or.inl ⟨rfl, rfl⟩, fun s hs => ⟨⟨0, by omega, rfl⟩, ⟨0, by omega, rfl⟩, Or.inl ⟨rfl, rfl⟩⟩, ⟨rfl, rfl⟩, fun k hk => rfl, Q0_ok, VOk_0⟩
  · rcases (show k = 0 ∨ k = 1 ∨ k = 2 ∨ k = 3 by omega) with rfl | rfl | rfl | rfl <;> rfl
  · show (0 : Int32) = (if 21 + b = 36 then upd (upd (upd (upd (fun _ => 0) 0 1) 1 1) 2 5) 3 50 else fun _ => 0) j
    rw [if_neg (by omega)]
  · show (0 : Int32) = (if 29 + b = 36 then upd (upd (upd (upd (fun _ => 0) 0 1) 1 1) 2 5) 3 50 else fun _ => 0) t
    rw [if_neg (by omega)]
theorem law_all {G : gE} {w : aW} (hfm : (gfm G).category = 1) (hL : gL G ≤ 384) : Go G 100 299 0 [some (.ref (gB + 201)), none, none, none] [] w 0 600000 7302250 (fun r _ _ => r = some (.int 1)) := by
  have hgB : gB = 1000000000 := rfl
  refine r_new (ci := 0) o_L_law i_L_law_0 x_L_7 rfl rfl (by decide) (by omega) (by omega) ?_
  refine r_dup i_L_law_3 rfl ?_
  refine m_special o_L_law k_N_init i_N_init x_L_9 i_L_law_4 (c_N_init upw_s) rfl rfl (by decide) (Nat.le_of_ble_eq_true rfl) (by omega) (by omega) (fun r1 w1 n1 hp1 => ?_)
  obtain ⟨rfl, ⟨hX1, hF1⟩, rfl⟩ := hp1
  refine r_astore_1 i_L_law_7 (by rw [l_L_law]; decide) rfl ?_
  refine r_new (ci := 6) o_L_law i_L_law_8 x_L_10 rfl rfl (by decide) (by omega) (by omega) ?_
  refine r_dup i_L_law_11 rfl ?_
  refine m_special o_L_law k_M_init i_M_init x_L_12 i_L_law_12 (c_M_init (o := 44) upw_s (by omega)) rfl rfl (by decide) (Nat.le_of_ble_eq_true rfl) (by omega) (by omega) (fun r2 w2 n2 hp2 => ?_)
  obtain ⟨rfl, ⟨hM2, hF2⟩, rfl⟩ := hp2
  refine r_astore_2 i_L_law_15 (by rw [l_L_law]; decide) rfl ?_
  refine r_iconst (v := (0 : Int32)) i_L_law_16 rfl ?_
  refine r_istore_3 i_L_law_17 (by rw [l_L_law]; decide) rfl ?_
  skip
  have hC2 : CW w2 Q0 85 := (hX1.fr (fun j hj => (hF2 j (by omega)).trans (upw_n (by omega))) (by omega)).cw
  have hX2 : XW w2 M0 M0 85 := ⟨hM2, Or.inl rfl, Or.inl rfl, rfl⟩
  obtain ⟨w3, hw, h3⟩ := law_norm hC2 hX2 (Rl_0 (K := M0))
  refine r_norm hw ?_
  exact law_loop hfm hL 65 0 w3 85 _ _ h3 (by omega) (by omega) (by omega) (by omega)
