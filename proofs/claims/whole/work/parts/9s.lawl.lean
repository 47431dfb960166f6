-- THE LAW: its loop
theorem and63 (v : Int32) : ∃ k, k < 64 ∧ v &&& 63 = nI k := by
  refine ⟨(v &&& 63).toBitVec.toNat, ?_, Int32.toBitVec_inj.mp ?_⟩
  · rw [Int32.toBitVec_and, BitVec.toNat_and]
    exact Nat.lt_of_le_of_lt Nat.and_le_right (by decide)
  · show (v &&& 63).toBitVec = BitVec.ofNat 32 (v &&& 63).toBitVec.toNat
    simp
section LAWL
variable {G : gE}
def lPost : Option Value → aW → Nat → Prop := fun r _ _ => r = some (.int 1)
theorem law_switch {w : aW} {n i t bc bs : Nat} (hfm : (gfm G).category = 1) (hLI : LI w n) (hi : i + 6 ≤ gL G) (hL : gL G ≤ 384) (hbc : 41 * (t + 1) ≤ bc) (hbs : 840 * (t + 1) ≤ bs) (back : ∀ w' n' bc' bs', LN w' n' → 41 * t ≤ bc' → 840 * t ≤ bs' → Go G 100 299 1744 [some (.ref (gB + 201)), some (.ref 0), some (.ref 44), some (.int (nI i))] [] w' n' bc' bs' lPost) (x : Int32) : Go G 100 299 33 [some (.ref (gB + 201)), some (.ref 0), some (.ref 44), some (.int (nI i))] [.int (x &&& 63)] w n bc bs lPost := by
  obtain ⟨k, hk, e⟩ := and63 x
  rw [e]
  have bk : ∀ w', LN w' n → Go G 100 299 1744 [some (.ref (gB + 201)), some (.ref 0), some (.ref 44), some (.int (nI i))] [] w' n bc bs lPost := fun w' h => back w' n bc bs h (by omega) (by omega)
  have bx : ∀ w' n', LN w' n' → Go G 100 299 1744 [some (.ref (gB + 201)), some (.ref 0), some (.ref 44), some (.int (nI i))] [] w' n' (bc - 41) (bs - 840) lPost := fun w' n' h => back w' n' _ _ h (by omega) (by omega)
  have nn : LN w n := ⟨w, fun _ _ => Or.inl rfl, hLI⟩
  rcases (show k = 0 ∨ k = 1 ∨ k = 2 ∨ k = 3 ∨ k = 4 ∨ k = 5 ∨ k = 6 ∨ k = 7 ∨ k = 8 ∨ k = 9 ∨ k = 10 ∨ k = 11 ∨ k = 12 ∨ k = 13 ∨ k = 14 ∨ k = 15 ∨ k = 16 ∨ k = 17 ∨ k = 18 ∨ k = 19 ∨ k = 20 ∨ k = 21 ∨ k = 22 ∨ k = 23 ∨ k = 24 ∨ k = 25 ∨ k = 26 ∨ k = 27 ∨ k = 28 ∨ k = 29 ∨ k = 30 ∨ k = 31 ∨ k = 32 ∨ k = 33 ∨ k = 34 ∨ k = 35 ∨ k = 36 ∨ k = 37 ∨ k = 38 ∨ k = 39 ∨ k = 40 ∨ k = 41 ∨ k = 42 ∨ k = 43 ∨ k = 44 ∨ k = 45 ∨ k = 46 ∨ k = 47 ∨ k = 48 ∨ k = 49 ∨ k = 50 ∨ k = 51 ∨ k = 52 ∨ k = 53 ∨ k = 54 ∨ k = 55 ∨ k = 56 ∨ 57 ≤ k by omega) with rfl | rfl | rfl | rfl | rfl | rfl | rfl | rfl | rfl | rfl | rfl | rfl | rfl | rfl | rfl | rfl | rfl | rfl | rfl | rfl | rfl | rfl | rfl | rfl | rfl | rfl | rfl | rfl | rfl | rfl | rfl | rfl | rfl | rfl | rfl | rfl | rfl | rfl | rfl | rfl | rfl | rfl | rfl | rfl | rfl | rfl | rfl | rfl | rfl | rfl | rfl | rfl | rfl | rfl | rfl | rfl | rfl | hk57
  · exact r_tableIn 276 i_L_law_33 (by decide) (by decide) (by rfl) (by decide) (law_row hLI hi hL bk)
  · exact r_tableIn 319 i_L_law_33 (by decide) (by decide) (by rfl) (by decide) (law_set hLI hi hL bk)
  · exact r_tableIn 392 i_L_law_33 (by decide) (by decide) (by rfl) (by decide) (law_copy hLI hi hL bk)
  · exact r_tableIn 455 i_L_law_33 (by decide) (by decide) (by rfl) (by decide) (law_element hLI hi hL bk)
  · exact r_tableIn 489 i_L_law_33 (by decide) (by decide) (by rfl) (by decide) (law_holds hLI hi hL bk)
  · exact r_tableIn 512 i_L_law_33 (by decide) (by decide) (by rfl) (by decide) (law_rule hLI hi hL bk)
  · exact r_tableIn 555 i_L_law_33 (by decide) (by decide) (by rfl) (by decide) (law_says hLI hi hL bk)
  · exact r_tableIn 588 i_L_law_33 (by decide) (by decide) (by rfl) (by decide) (law_one hLI hi hL bk)
  · exact r_tableIn 601 i_L_law_33 (by decide) (by decide) (by rfl) (by decide) (law_bargain hLI hi hL bk)
  · exact r_tableIn 654 i_L_law_33 (by decide) (by decide) (by rfl) (by decide) (law_hurts hLI hi hL bk)
  · exact r_tableIn 697 i_L_law_33 (by decide) (by decide) (by rfl) (by decide) (law_bars hLI hi hL bk)
  · exact r_tableIn 756 i_L_law_33 (by decide) (by decide) (by rfl) (by decide) (law_ask hLI hi hL bk)
  · exact r_tableIn 789 i_L_law_33 (by decide) (by decide) (by rfl) (by decide) (law_feed hLI hi hL bk)
  · exact r_tableIn 812 i_L_law_33 (by decide) (by decide) (by rfl) (by decide) (law_wipe hLI hi hL bk)
  · exact r_tableIn 825 i_L_law_33 (by decide) (by decide) (by rfl) (by decide) (law_town hfm hLI (by omega) (by omega) bx)
  · exact r_tableIn 838 i_L_law_33 (by decide) (by decide) (by rfl) (by decide) (law_bargainOf hLI hi hL bk)
  · exact r_tableIn 871 i_L_law_33 (by decide) (by decide) (by rfl) (by decide) (law_lossOf hLI hi hL bk)
  · exact r_tableIn 904 i_L_law_33 (by decide) (by decide) (by rfl) (by decide) (law_standing hLI hi hL bk)
  · exact r_tableIn 927 i_L_law_33 (by decide) (by decide) (by rfl) (by decide) (law_good hLI hi hL bk)
  · exact r_tableIn 950 i_L_law_33 (by decide) (by decide) (by rfl) (by decide) (law_value hLI hi hL bk)
  · exact r_tableIn 983 i_L_law_33 (by decide) (by decide) (by rfl) (by decide) (law_name hLI hi hL bk)
  · exact r_tableIn 1026 i_L_law_33 (by decide) (by decide) (by rfl) (by decide) (law_judge hLI hi hL bk)
  · exact r_tableIn 1049 i_L_law_33 (by decide) (by decide) (by rfl) (by decide) (law_told hLI hi hL bk)
  · exact r_tableIn 1082 i_L_law_33 (by decide) (by decide) (by rfl) (by decide) (law_by hLI hi hL bk)
  · exact r_tableIn 1115 i_L_law_33 (by decide) (by decide) (by rfl) (by decide) (law_head hLI hi hL bk)
  · exact r_tableIn 1128 i_L_law_33 (by decide) (by decide) (by rfl) (by decide) (law_lives hLI hi hL bk)
  · exact r_tableIn 1151 i_L_law_33 (by decide) (by decide) (by rfl) (by decide) (law_makes hLI hi hL bk)
  · exact r_tableIn 1174 i_L_law_33 (by decide) (by decide) (by rfl) (by decide) (law_best hLI hi hL bk)
  · exact r_tableIn 1187 i_L_law_33 (by decide) (by decide) (by rfl) (by decide) (law_bestOf hLI hi hL bk)
  · exact r_tableIn 1210 i_L_law_33 (by decide) (by decide) (by rfl) (by decide) (law_worth hLI hi hL bk)
  · exact r_tableIn 1233 i_L_law_33 (by decide) (by decide) (by rfl) (by decide) (law_dearest hLI hi hL bk)
  · exact r_tableIn 1246 i_L_law_33 (by decide) (by decide) (by rfl) (by decide) (law_gap hLI hi hL bk)
  · exact r_tableIn 1269 i_L_law_33 (by decide) (by decide) (by rfl) (by decide) (law_fewest hLI hi hL bk)
  · exact r_tableIn 1282 i_L_law_33 (by decide) (by decide) (by rfl) (by decide) (law_richest hLI hi hL bk)
  · exact r_tableIn 1295 i_L_law_33 (by decide) (by decide) (by rfl) (by decide) (law_alone hLI hi hL bk)
  · exact r_tableIn 1318 i_L_law_33 (by decide) (by decide) (by rfl) (by decide) (law_party hLI hi hL bk)
  · exact r_tableIn 1341 i_L_law_33 (by decide) (by decide) (by rfl) (by decide) (law_fair hLI hi hL bk)
  · exact r_tableIn 1354 i_L_law_33 (by decide) (by decide) (by rfl) (by decide) (law_never hLI hi hL bk)
  · exact r_tableIn 1367 i_L_law_33 (by decide) (by decide) (by rfl) (by decide) (law_free hLI hi hL bk)
  · exact r_tableIn 1380 i_L_law_33 (by decide) (by decide) (by rfl) (by decide) (law_cross hLI hi hL bk)
  · exact r_tableIn 1423 i_L_law_33 (by decide) (by decide) (by rfl) (by decide) (law_rings hLI hi hL bk)
  · exact r_tableIn 1436 i_L_law_33 (by decide) (by decide) (by rfl) (by decide) (law_harm hLI hi hL bk)
  · exact r_tableIn 1459 i_L_law_33 (by decide) (by decide) (by rfl) (by decide) (law_worst hLI hi hL bk)
  · exact r_tableIn 1472 i_L_law_33 (by decide) (by decide) (by rfl) (by decide) (law_hated hLI hi hL bk)
  · exact r_tableIn 1485 i_L_law_33 (by decide) (by decide) (by rfl) (by decide) (law_said hLI hi hL bk)
  · exact r_tableIn 1518 i_L_law_33 (by decide) (by decide) (by rfl) (by decide) (law_dares hLI hi hL bk)
  · exact r_tableIn 1531 i_L_law_33 (by decide) (by decide) (by rfl) (by decide) (law_deters hLI hi hL bk)
  · exact r_tableIn 1544 i_L_law_33 (by decide) (by decide) (by rfl) (by decide) (law_under hLI hi hL bk)
  · exact r_tableIn 1567 i_L_law_33 (by decide) (by decide) (by rfl) (by decide) (law_bestLaw hLI hi hL bk)
  · exact r_tableIn 1580 i_L_law_33 (by decide) (by decide) (by rfl) (by decide) (law_hiding hLI hi hL bk)
  · exact r_tableIn 1613 i_L_law_33 (by decide) (by decide) (by rfl) (by decide) (law_week hLI hi hL bk)
  · exact r_tableIn 1626 i_L_law_33 (by decide) (by decide) (by rfl) (by decide) (law_weeks hLI hi hL bk)
  · exact r_tableIn 1649 i_L_law_33 (by decide) (by decide) (by rfl) (by decide) (law_named hLI hi hL bk)
  · exact r_tableIn 1672 i_L_law_33 (by decide) (by decide) (by rfl) (by decide) (law_seed hLI hi hL bk)
  · exact r_tableIn 1695 i_L_law_33 (by decide) (by decide) (by rfl) (by decide) (law_image hLI (by omega) (by omega) bx)
  · exact r_tableIn 1708 i_L_law_33 (by decide) (by decide) (by rfl) (by decide) (law_back hLI bk)
  · exact r_tableIn 1721 i_L_law_33 (by decide) (by decide) (by rfl) (by decide) (law_status hLI hi hL bk)
  · refine r_tableOut 1744 i_L_law_33 (Or.inr ?_) (by decide) (bk w nn)
    rw [toInt_nI (by omega)]
    omega
theorem law_loop (hfm : (gfm G).category = 1) (hL : gL G ≤ 384) : ∀ t i (w : aW) (n bc bs : Nat), LI w n → gL G < i + 6 * t → i ≤ 390 → 41 * t ≤ bc → 840 * t ≤ bs → Go G 100 299 18 [some (.ref (gB + 201)), some (.ref 0), some (.ref 44), some (.int (nI i))] [] w n bc bs lPost := by
  intro t
  induction t with
  | zero =>
    intro i w n bc bs hLI ht hi9 _ _
    refine r_iload_n (i := 3) i_L_law_18 rfl rfl ?_
    refine r_aload_n (i := 0) i_L_law_19 rfl rfl ?_
    refine r_scriptLen i_L_law_20 ?_
    refine r_bipush (v := (6 : Int32)) i_L_law_21 (by decide) ?_
    refine r_isub i_L_law_23 ?_
    have e6 : (Int32.ofNat (gL G) - 6 : Int32).toInt = (gL G : Int) - 6 := by
      have e0 : (Int32.ofNat (gL G)).toInt = gL G := toInt_nI (k := gL G) (by omega)
      rw [i_sub (by rw [e0, show (6 : Int32).toInt = 6 from rfl]; omega) (by rw [e0, show (6 : Int32).toInt = 6 from rfl]; omega), e0]
      rfl
    refine r_icmp_gt 1750 i_L_law_24 (by decide) (fun h24 => ?_) (fun h24 => ?_)
    · refine r_iconst (v := (1 : Int32)) i_L_law_1750 rfl ?_
      refine r_ireturn i_L_law_1751 t_L_law (by first | rfl | exact nar_bI _) ?_
      exact rfl
    · exfalso
      apply h24
      rw [Int32.lt_iff_toInt_lt, e6, toInt_nI (by omega)]
      omega
  | succ t ih =>
    intro i w n bc bs hLI ht hi9 hbc hbs
    refine r_iload_n (i := 3) i_L_law_18 rfl rfl ?_
    refine r_aload_n (i := 0) i_L_law_19 rfl rfl ?_
    refine r_scriptLen i_L_law_20 ?_
    refine r_bipush (v := (6 : Int32)) i_L_law_21 (by decide) ?_
    refine r_isub i_L_law_23 ?_
    have e6 : (Int32.ofNat (gL G) - 6 : Int32).toInt = (gL G : Int) - 6 := by
      have e0 : (Int32.ofNat (gL G)).toInt = gL G := toInt_nI (k := gL G) (by omega)
      rw [i_sub (by rw [e0, show (6 : Int32).toInt = 6 from rfl]; omega) (by rw [e0, show (6 : Int32).toInt = 6 from rfl]; omega), e0]
      rfl
    refine r_icmp_gt 1750 i_L_law_24 (by decide) (fun h24 => ?_) (fun h24 => ?_)
    · refine r_iconst (v := (1 : Int32)) i_L_law_1750 rfl ?_
      refine r_ireturn i_L_law_1751 t_L_law (by first | rfl | exact nar_bI _) ?_
      exact rfl
    · have hi : i + 6 ≤ gL G := by
        refine Nat.le_of_not_lt (fun z => h24 ?_)
        rw [Int32.lt_iff_toInt_lt, e6, toInt_nI (by omega)]
        omega
      refine r_aload_n (i := 0) i_L_law_27 rfl rfl ?_
      refine r_iload_n (i := 3) i_L_law_28 rfl rfl ?_
      refine r_scriptAt i_L_law_29 (vp_in_nI (by omega) (by omega)) ?_
      refine r_bipush (v := (63 : Int32)) i_L_law_30 (by decide) ?_
      refine r_iand i_L_law_32 ?_
      refine law_switch (t := t) hfm hLI hi hL hbc hbs (fun w' n' bc' bs' h b1 b2 => ?_) _
      obtain ⟨w2, hw, h2⟩ := h
      refine r_norm hw ?_
      refine r_iinc_3 (v := (6 : Int32)) i_L_law_1744 rfl (by rw [l_L_law]; decide) rfl ?_
      refine r_goto 18 i_L_law_1747 (by decide) ?_
      rw [show nI i + 6 = nI (i + 6) from (Int32.ofNat_add i 6).symm]
      exact ih (i + 6) w2 n' bc' bs' h2 (by omega) (by omega) b1 b2
end LAWL
