-- THE REFERENCE: harm, worst, hated
def hmC (M : aM) (B s : Nat) : Bool := (decide (M.2.1 36 1 = 0) || !decide (1 < bitF (nI s) 8)) && !ibF M (nI s) B 0
def hmI (M : aM) (t s : Nat) (c : Bool) : Nat → Bool × Int32
  | 0 => (c, 0)
  | b + 1 => ((hmI M t s c b).1 && (!hsB (nI s) (nI b) || gd (tM M) b t), if hsB (nI s) (nI b) = true then (hmI M t s c b).2 + M.2.1 (29 + b) t else (hmI M t s c b).2)
def hmS (M : aM) (t B s : Nat) (x : Int32) : Int32 := if (hmI M t s (hmC M B s) B).1 = true ∧ x < (hmI M t s (hmC M B s) B).2 then (hmI M t s (hmC M B s) B).2 else x
def hmO (M : aM) (t B : Nat) : Int32 := lpF (hmS M t B) (2 ^ B) 0 0
theorem bI_a1 {c : Bool} : bI c &&& 1 = bI c := by cases c <;> rfl
theorem bI_a0 {c : Bool} : bI c &&& 0 = bI false := by cases c <;> rfl
section MHARM
variable {G : gE} {w : aW} {o n : Nat} {M : aM}
theorem c_M_harmOf {t B : Nat} (h : MW w o M n) (ht : t < 7) (hB : M.1 13 = nI B) (hB7 : B ≤ 7) : Fn G 2 y_M_harmOf [.ref o, .int (nI t)] w n (some (.int (hmO M t B))) w := by
  obtain ⟨m0, mA', mL', m4, m20, m28, mn'⟩ := id h
  obtain ⟨j0, j1, j2, j3⟩ := v4
  have a36 : w (o + 36) = ai 4 (M.2.1 36) := mA' 36 rfl
  have it : vp_in (nI t) 7 := vp_in_nI ht (by decide)
  have et : (nI t).toNatClampNeg = t := nI_clamp (by omega)
  refine Fn.of k_M_harmOf l_M_harmOf rfl rfl ?_
  have hp7 := pow7 hB7
  have l2 : ∀ (post : Option Value → aW → Nat → Prop) (s : Nat) (y : Int32) (c0 : Bool), ∀ m b, b + m = B → (∀ z : Option Value, Go G 2 y_M_harmOf 123 [some (.ref o), some (.int (nI t)), some (.int y), some (.int (nI s)), some (.int (bI (hmI M t s c0 B).1)), some (.int (hmI M t s c0 B).2), z] [] w n 0 0 post) → Go G 2 y_M_harmOf 52 [some (.ref o), some (.int (nI t)), some (.int y), some (.int (nI s)), some (.int (bI (hmI M t s c0 b).1)), some (.int (hmI M t s c0 b).2), some (.int (nI b))] [] w n 0 0 post := by
    intro post s y c0 m
    induction m with
    | zero =>
      intro b hb hq
      have hb : b = B := by omega
      subst hb
      refine r_iload (i := 6) i_M_harmOf_52 rfl ?_
      refine r_aload_n (i := 0) i_M_harmOf_54 rfl rfl ?_
      refine r_getf (ci := 6) (T := Fk6) (k := 13) o_M_harmOf i_M_harmOf_55 x_M_80 rfl (by decide) rfl (by repeat (first | assumption | exact upw_s | refine (upw_n (by omega)).trans ?_)) (by first | assumption | omega) (by rfl) ?_
      refine r_icmp_ge 123 i_M_harmOf_58 (by decide) (fun h58 => ?_) (fun h58 => (absurd (by rw [hB]; exact nI_le (Nat.le_refl _) (by omega)) h58))
      exact hq _
    | succ m ih =>
      intro b hb hq
      have ih' := ih (b + 1) (by omega) hq
      have e7 : hmI M t s c0 (b + 1) = ((hmI M t s c0 b).1 && (!hsB (nI s) (nI b) || gd (tM M) b t), if hsB (nI s) (nI b) = true then (hmI M t s c0 b).2 + M.2.1 (29 + b) t else (hmI M t s c0 b).2) := rfl
      rw [e7] at ih'
      generalize hmI M t s c0 b = D at *
      obtain ⟨r1, r2, r3, r4, r5⟩ := row_of h (show b < 7 by omega)
      have e8 : (!decide ((nI s >>> (nI b &&& 31)) &&& 1 = 0)) = hsB (nI s) (nI b) := rfl
      refine r_iload (i := 6) i_M_harmOf_52 rfl ?_
      refine r_aload_n (i := 0) i_M_harmOf_54 rfl rfl ?_
      refine r_getf (ci := 6) (T := Fk6) (k := 13) o_M_harmOf i_M_harmOf_55 x_M_80 rfl (by decide) rfl (by repeat (first | assumption | exact upw_s | refine (upw_n (by omega)).trans ?_)) (by first | assumption | omega) (by rfl) ?_
      refine r_icmp_ge 123 i_M_harmOf_58 (by decide) (fun h58 => (absurd h58 (by rw [hB]; exact nI_ge (by omega) (by omega)))) (fun h58 => ?_)
      refine r_iload (i := 4) i_M_harmOf_61 rfl ?_
      refine r_iload_n (i := 3) i_M_harmOf_63 rfl rfl ?_
      refine r_iload (i := 6) i_M_harmOf_64 rfl ?_
      refine f_static o_M_harmOf k_M_has s_M_has x_M_122 i_M_harmOf_66 (c_M_has) rfl rfl (by decide) (Nat.le_of_ble_eq_true rfl) ?_
      rw [e8]
      refine r_if_eq 82 i_M_harmOf_69 (by decide) (fun h69 => ?_) (fun h69 => ?_)
      · skip
        have h69 := bI_eq0.mp h69
        rw [h69, if_neg (by decide)] at ih'
        refine r_iconst (v := (1 : Int32)) i_M_harmOf_82 rfl ?_
        refine r_goto 87 i_M_harmOf_83 (by decide) ?_
        refine r_iand i_M_harmOf_87 ?_
        first | rw [bI_a1] | rw [bI_a0]
        refine r_istore_4 i_M_harmOf_88 (by rw [l_M_harmOf]; decide) rfl ?_
        refine r_iload (i := 5) i_M_harmOf_90 rfl ?_
        refine r_iload_n (i := 3) i_M_harmOf_92 rfl rfl ?_
        refine r_iload (i := 6) i_M_harmOf_93 rfl ?_
        refine f_static o_M_harmOf k_M_has s_M_has x_M_122 i_M_harmOf_95 (c_M_has) rfl rfl (by decide) (Nat.le_of_ble_eq_true rfl) ?_
        rw [e8]
        refine r_if_eq 113 i_M_harmOf_98 (by decide) (fun h98 => ?_) (fun h98 => ?_)
        · first
          | exact absurd h98 (by decide)
          | first | exact absurd (bI_ne0.mp h98) (by rw [h69]; decide) | exact absurd (bI_eq0.mp h98) (by rw [h69]; decide)
          | skip
            refine r_iconst (v := (0 : Int32)) i_M_harmOf_113 rfl ?_
            refine r_iadd i_M_harmOf_114 ?_
            refine r_istore_5 i_M_harmOf_115 (by rw [l_M_harmOf]; decide) rfl ?_
            refine r_iinc_6 (v := (1 : Int32)) i_M_harmOf_117 rfl (by rw [l_M_harmOf]; decide) rfl ?_
            refine r_goto 52 i_M_harmOf_120 (by decide) ?_
            rw [nI_1]
            first | exact ih' | (rw [Int32.add_zero]; exact ih') | (rw [Int32.add_zero]; simp only [Bool.not_false, Bool.true_or, Bool.and_true, Bool.not_true, Bool.or_true, Bool.or_false, Bool.and_false] at ih' ⊢; exact ih') | (simp only [Bool.not_false, Bool.true_or, Bool.and_true, Bool.not_true, Bool.or_true, Bool.or_false, Bool.and_false] at ih' ⊢; exact ih')
        · first
          | exact absurd h98 (by decide)
          | first | exact absurd (bI_ne0.mp h98) (by rw [h69]; decide) | exact absurd (bI_eq0.mp h98) (by rw [h69]; decide)
          | skip
            refine r_aload_n (i := 0) i_M_harmOf_101 rfl rfl ?_
            refine r_getf (ci := 6) (T := Fk6) (k := 15) o_M_harmOf i_M_harmOf_102 x_M_51 rfl (by decide) rfl (by repeat (first | assumption | exact upw_s | refine (upw_n (by omega)).trans ?_)) (by first | assumption | omega) (by rfl) ?_
            refine r_iload (i := 6) i_M_harmOf_105 rfl ?_
            refine r_aald i_M_harmOf_107 (by repeat (first | assumption | exact upw_s | refine (upw_n (by omega)).trans ?_)) (by decide) (by first | assumption | omega) (by assumption) r4 ?_
            refine r_iload_n (i := 1) i_M_harmOf_108 rfl rfl ?_
            refine r_iald i_M_harmOf_109 (by repeat (first | assumption | exact upw_s | refine (upw_n (by omega)).trans ?_)) (by first | assumption | omega) (by assumption) ?_
            rw [et]
            refine r_goto 114 i_M_harmOf_110 (by decide) ?_
            refine r_iadd i_M_harmOf_114 ?_
            refine r_istore_5 i_M_harmOf_115 (by rw [l_M_harmOf]; decide) rfl ?_
            refine r_iinc_6 (v := (1 : Int32)) i_M_harmOf_117 rfl (by rw [l_M_harmOf]; decide) rfl ?_
            refine r_goto 52 i_M_harmOf_120 (by decide) ?_
            rw [nI_1]
            first | exact ih' | (rw [Int32.add_zero]; exact ih') | (rw [Int32.add_zero]; simp only [Bool.not_false, Bool.true_or, Bool.and_true, Bool.not_true, Bool.or_true, Bool.or_false, Bool.and_false] at ih' ⊢; exact ih') | (simp only [Bool.not_false, Bool.true_or, Bool.and_true, Bool.not_true, Bool.or_true, Bool.or_false, Bool.and_false] at ih' ⊢; exact ih')
      · skip
        have h69 := bI_ne0.mp h69
        rw [h69, if_pos rfl] at ih'
        refine r_aload_n (i := 0) i_M_harmOf_72 rfl rfl ?_
        refine r_iload (i := 6) i_M_harmOf_73 rfl ?_
        refine r_iload_n (i := 1) i_M_harmOf_75 rfl rfl ?_
        refine f_virtual o_M_harmOf k_M_isGood v_M_isGood x_M_243 i_M_harmOf_76 o_M_isGood (c_M_isGood h (by omega) ht) rfl (rcv_ob (by repeat (first | assumption | exact upw_s | refine (upw_n (by omega)).trans ?_)) rfl (by first | assumption | omega)) rfl (by decide) (Nat.le_of_ble_eq_true rfl) ?_
        refine r_if_eq 86 i_M_harmOf_79 (by decide) (fun h79 => ?_) (fun h79 => ?_)
        · skip
          have h79 := bI_eq0.mp h79
          rw [h79] at ih'
          refine r_iconst (v := (0 : Int32)) i_M_harmOf_86 rfl ?_
          refine r_iand i_M_harmOf_87 ?_
          first | rw [bI_a1] | rw [bI_a0]
          refine r_istore_4 i_M_harmOf_88 (by rw [l_M_harmOf]; decide) rfl ?_
          refine r_iload (i := 5) i_M_harmOf_90 rfl ?_
          refine r_iload_n (i := 3) i_M_harmOf_92 rfl rfl ?_
          refine r_iload (i := 6) i_M_harmOf_93 rfl ?_
          refine f_static o_M_harmOf k_M_has s_M_has x_M_122 i_M_harmOf_95 (c_M_has) rfl rfl (by decide) (Nat.le_of_ble_eq_true rfl) ?_
          rw [e8]
          refine r_if_eq 113 i_M_harmOf_98 (by decide) (fun h98 => ?_) (fun h98 => ?_)
          · first
            | exact absurd h98 (by decide)
            | first | exact absurd (bI_ne0.mp h98) (by rw [h69]; decide) | exact absurd (bI_eq0.mp h98) (by rw [h69]; decide)
            | skip
              refine r_iconst (v := (0 : Int32)) i_M_harmOf_113 rfl ?_
              refine r_iadd i_M_harmOf_114 ?_
              refine r_istore_5 i_M_harmOf_115 (by rw [l_M_harmOf]; decide) rfl ?_
              refine r_iinc_6 (v := (1 : Int32)) i_M_harmOf_117 rfl (by rw [l_M_harmOf]; decide) rfl ?_
              refine r_goto 52 i_M_harmOf_120 (by decide) ?_
              rw [nI_1]
              first | exact ih' | (rw [Int32.add_zero]; exact ih') | (rw [Int32.add_zero]; simp only [Bool.not_false, Bool.true_or, Bool.and_true, Bool.not_true, Bool.or_true, Bool.or_false, Bool.and_false] at ih' ⊢; exact ih') | (simp only [Bool.not_false, Bool.true_or, Bool.and_true, Bool.not_true, Bool.or_true, Bool.or_false, Bool.and_false] at ih' ⊢; exact ih')
          · first
            | exact absurd h98 (by decide)
            | first | exact absurd (bI_ne0.mp h98) (by rw [h69]; decide) | exact absurd (bI_eq0.mp h98) (by rw [h69]; decide)
            | skip
              refine r_aload_n (i := 0) i_M_harmOf_101 rfl rfl ?_
              refine r_getf (ci := 6) (T := Fk6) (k := 15) o_M_harmOf i_M_harmOf_102 x_M_51 rfl (by decide) rfl (by repeat (first | assumption | exact upw_s | refine (upw_n (by omega)).trans ?_)) (by first | assumption | omega) (by rfl) ?_
              refine r_iload (i := 6) i_M_harmOf_105 rfl ?_
              refine r_aald i_M_harmOf_107 (by repeat (first | assumption | exact upw_s | refine (upw_n (by omega)).trans ?_)) (by decide) (by first | assumption | omega) (by assumption) r4 ?_
              refine r_iload_n (i := 1) i_M_harmOf_108 rfl rfl ?_
              refine r_iald i_M_harmOf_109 (by repeat (first | assumption | exact upw_s | refine (upw_n (by omega)).trans ?_)) (by first | assumption | omega) (by assumption) ?_
              rw [et]
              refine r_goto 114 i_M_harmOf_110 (by decide) ?_
              refine r_iadd i_M_harmOf_114 ?_
              refine r_istore_5 i_M_harmOf_115 (by rw [l_M_harmOf]; decide) rfl ?_
              refine r_iinc_6 (v := (1 : Int32)) i_M_harmOf_117 rfl (by rw [l_M_harmOf]; decide) rfl ?_
              refine r_goto 52 i_M_harmOf_120 (by decide) ?_
              rw [nI_1]
              first | exact ih' | (rw [Int32.add_zero]; exact ih') | (rw [Int32.add_zero]; simp only [Bool.not_false, Bool.true_or, Bool.and_true, Bool.not_true, Bool.or_true, Bool.or_false, Bool.and_false] at ih' ⊢; exact ih') | (simp only [Bool.not_false, Bool.true_or, Bool.and_true, Bool.not_true, Bool.or_true, Bool.or_false, Bool.and_false] at ih' ⊢; exact ih')
        · skip
          have h79 := bI_ne0.mp h79
          rw [h79] at ih'
          refine r_iconst (v := (1 : Int32)) i_M_harmOf_82 rfl ?_
          refine r_goto 87 i_M_harmOf_83 (by decide) ?_
          refine r_iand i_M_harmOf_87 ?_
          first | rw [bI_a1] | rw [bI_a0]
          refine r_istore_4 i_M_harmOf_88 (by rw [l_M_harmOf]; decide) rfl ?_
          refine r_iload (i := 5) i_M_harmOf_90 rfl ?_
          refine r_iload_n (i := 3) i_M_harmOf_92 rfl rfl ?_
          refine r_iload (i := 6) i_M_harmOf_93 rfl ?_
          refine f_static o_M_harmOf k_M_has s_M_has x_M_122 i_M_harmOf_95 (c_M_has) rfl rfl (by decide) (Nat.le_of_ble_eq_true rfl) ?_
          rw [e8]
          refine r_if_eq 113 i_M_harmOf_98 (by decide) (fun h98 => ?_) (fun h98 => ?_)
          · first
            | exact absurd h98 (by decide)
            | first | exact absurd (bI_ne0.mp h98) (by rw [h69]; decide) | exact absurd (bI_eq0.mp h98) (by rw [h69]; decide)
            | skip
              refine r_iconst (v := (0 : Int32)) i_M_harmOf_113 rfl ?_
              refine r_iadd i_M_harmOf_114 ?_
              refine r_istore_5 i_M_harmOf_115 (by rw [l_M_harmOf]; decide) rfl ?_
              refine r_iinc_6 (v := (1 : Int32)) i_M_harmOf_117 rfl (by rw [l_M_harmOf]; decide) rfl ?_
              refine r_goto 52 i_M_harmOf_120 (by decide) ?_
              rw [nI_1]
              first | exact ih' | (rw [Int32.add_zero]; exact ih') | (rw [Int32.add_zero]; simp only [Bool.not_false, Bool.true_or, Bool.and_true, Bool.not_true, Bool.or_true, Bool.or_false, Bool.and_false] at ih' ⊢; exact ih') | (simp only [Bool.not_false, Bool.true_or, Bool.and_true, Bool.not_true, Bool.or_true, Bool.or_false, Bool.and_false] at ih' ⊢; exact ih')
          · first
            | exact absurd h98 (by decide)
            | first | exact absurd (bI_ne0.mp h98) (by rw [h69]; decide) | exact absurd (bI_eq0.mp h98) (by rw [h69]; decide)
            | skip
              refine r_aload_n (i := 0) i_M_harmOf_101 rfl rfl ?_
              refine r_getf (ci := 6) (T := Fk6) (k := 15) o_M_harmOf i_M_harmOf_102 x_M_51 rfl (by decide) rfl (by repeat (first | assumption | exact upw_s | refine (upw_n (by omega)).trans ?_)) (by first | assumption | omega) (by rfl) ?_
              refine r_iload (i := 6) i_M_harmOf_105 rfl ?_
              refine r_aald i_M_harmOf_107 (by repeat (first | assumption | exact upw_s | refine (upw_n (by omega)).trans ?_)) (by decide) (by first | assumption | omega) (by assumption) r4 ?_
              refine r_iload_n (i := 1) i_M_harmOf_108 rfl rfl ?_
              refine r_iald i_M_harmOf_109 (by repeat (first | assumption | exact upw_s | refine (upw_n (by omega)).trans ?_)) (by first | assumption | omega) (by assumption) ?_
              rw [et]
              refine r_goto 114 i_M_harmOf_110 (by decide) ?_
              refine r_iadd i_M_harmOf_114 ?_
              refine r_istore_5 i_M_harmOf_115 (by rw [l_M_harmOf]; decide) rfl ?_
              refine r_iinc_6 (v := (1 : Int32)) i_M_harmOf_117 rfl (by rw [l_M_harmOf]; decide) rfl ?_
              refine r_goto 52 i_M_harmOf_120 (by decide) ?_
              rw [nI_1]
              first | exact ih' | (rw [Int32.add_zero]; exact ih') | (rw [Int32.add_zero]; simp only [Bool.not_false, Bool.true_or, Bool.and_true, Bool.not_true, Bool.or_true, Bool.or_false, Bool.and_false] at ih' ⊢; exact ih') | (simp only [Bool.not_false, Bool.true_or, Bool.and_true, Bool.not_true, Bool.or_true, Bool.or_false, Bool.and_false] at ih' ⊢; exact ih')
  have tail : ∀ (post : Option Value → aW → Nat → Prop) (s : Nat) (x v : Int32) (c : Bool) (z9 : Option Value), (∀ z8 z7 z6 : Option Value, Go G 2 y_M_harmOf 4 [some (.ref o), some (.int (nI t)), some (.int (if c = true ∧ x < v then v else x)), some (.int (nI (s + 1))), z6, z7, z8] [] w n 0 0 post) → Go G 2 y_M_harmOf 123 [some (.ref o), some (.int (nI t)), some (.int x), some (.int (nI s)), some (.int (bI c)), some (.int v), z9] [] w n 0 0 post := by
    intro post s x v c z9 hq
    refine r_iload (i := 4) i_M_harmOf_123 rfl ?_
    refine r_if_eq 139 i_M_harmOf_125 (by decide) (fun h125 => ?_) (fun h125 => ?_)
    · skip
      rw [if_neg (fun z => by rw [bI_eq0.mp h125] at z; exact absurd z.1 (by decide))] at hq
      refine r_iload_n (i := 2) i_M_harmOf_139 rfl rfl ?_
      refine r_istore_2 i_M_harmOf_140 (by rw [l_M_harmOf]; decide) rfl ?_
      refine r_iinc_3 (v := (1 : Int32)) i_M_harmOf_141 rfl (by rw [l_M_harmOf]; decide) rfl ?_
      refine r_goto 4 i_M_harmOf_144 (by decide) ?_
      rw [nI_1]
      exact hq _ _ _
    · skip
      refine r_iload (i := 5) i_M_harmOf_128 rfl ?_
      refine r_iload_n (i := 2) i_M_harmOf_130 rfl rfl ?_
      refine r_icmp_le 139 i_M_harmOf_131 (by decide) (fun h131 => ?_) (fun h131 => ?_)
      · skip
        rw [if_neg (fun z => absurd z.2 (Int32.not_lt.mpr h131))] at hq
        refine r_iload_n (i := 2) i_M_harmOf_139 rfl rfl ?_
        refine r_istore_2 i_M_harmOf_140 (by rw [l_M_harmOf]; decide) rfl ?_
        refine r_iinc_3 (v := (1 : Int32)) i_M_harmOf_141 rfl (by rw [l_M_harmOf]; decide) rfl ?_
        refine r_goto 4 i_M_harmOf_144 (by decide) ?_
        rw [nI_1]
        exact hq _ _ _
      · skip
        rw [if_pos ⟨bI_ne0.mp h125, Int32.not_le.mp h131⟩] at hq
        refine r_iload (i := 5) i_M_harmOf_134 rfl ?_
        refine r_goto 140 i_M_harmOf_136 (by decide) ?_
        refine r_istore_2 i_M_harmOf_140 (by rw [l_M_harmOf]; decide) rfl ?_
        refine r_iinc_3 (v := (1 : Int32)) i_M_harmOf_141 rfl (by rw [l_M_harmOf]; decide) rfl ?_
        refine r_goto 4 i_M_harmOf_144 (by decide) ?_
        rw [nI_1]
        exact hq _ _ _
  have l1 : ∀ m s, s + m = 2 ^ B → ∀ (x : Int32) (z4 z5 z6 : Option Value), lpF (hmS M t B) m s x = hmO M t B → Go G 2 y_M_harmOf 4 [some (.ref o), some (.int (nI t)), some (.int x), some (.int (nI s)), z4, z5, z6] [] w n 0 0 (fun r1 w1 n1 => r1 = some (.int (hmO M t B)) ∧ w1 = w ∧ n1 = n) := by
    intro m
    induction m with
    | zero =>
      intro s hs x z4 z5 z6 hx
      have hs : s = 2 ^ B := by omega
      subst hs
      have hx : x = _ := hx
      refine r_iload_n (i := 3) i_M_harmOf_4 rfl rfl ?_
      refine r_iconst (v := (1 : Int32)) i_M_harmOf_5 rfl ?_
      refine r_aload_n (i := 0) i_M_harmOf_6 rfl rfl ?_
      refine r_getf (ci := 6) (T := Fk6) (k := 13) o_M_harmOf i_M_harmOf_7 x_M_80 rfl (by decide) rfl (by repeat (first | assumption | exact upw_s | refine (upw_n (by omega)).trans ?_)) (by first | assumption | omega) (by rfl) ?_
      refine r_ishl i_M_harmOf_10 ?_
      rw [hB, b1_pow B hB7]
      refine r_icmp_ge 147 i_M_harmOf_11 (by decide) (fun h11 => ?_) (fun h11 => (absurd (nI_le (Nat.le_refl _) (by omega)) h11))
      refine r_iload_n (i := 2) i_M_harmOf_147 rfl rfl ?_
      refine r_ireturn i_M_harmOf_148 t_M_harmOf rfl ?_
      exact ⟨by rw [← hx], rfl, rfl⟩
    | succ m ih =>
      intro s hs x z4 z5 z6 hx
      have hx : lpF (hmS M t B) m (s + 1) (if (hmI M t s (hmC M B s) B).1 = true ∧ x < (hmI M t s (hmC M B s) B).2 then (hmI M t s (hmC M B s) B).2 else x) = _ := hx
      have eC : hmC M B s = ((decide (M.2.1 36 1 = 0) || !decide (1 < bitF (nI s) 8)) && !ibF M (nI s) B 0) := rfl
      have mid : ∀ z5 z6 : Option Value, Go G 2 y_M_harmOf 44 [some (.ref o), some (.int (nI t)), some (.int x), some (.int (nI s)), z4, z5, z6] [.int (bI (hmC M B s))] w n 0 0 (fun r1 w1 n1 => r1 = some (.int (hmO M t B)) ∧ w1 = w ∧ n1 = n) := by
        intro z5 z6
        generalize hmC M B s = c0 at *
        refine r_istore_4 i_M_harmOf_44 (by rw [l_M_harmOf]; decide) rfl ?_
        refine r_iconst (v := (0 : Int32)) i_M_harmOf_46 rfl ?_
        refine r_istore_5 i_M_harmOf_47 (by rw [l_M_harmOf]; decide) rfl ?_
        refine r_iconst (v := (0 : Int32)) i_M_harmOf_49 rfl ?_
        refine r_istore_6 i_M_harmOf_50 (by rw [l_M_harmOf]; decide) rfl ?_
        refine l2 _ s x c0 B 0 (by omega) (fun z9 => ?_)
        refine tail _ s x _ _ z9 (fun z8 z7 z6 => ih (s + 1) (by omega) _ _ _ _ hx)
      have hib := c_M_isBarred (G := G) (x := nI s) h hB hB7
      have mid := mid z5 z6
      rw [eC] at mid
      generalize ibF M (nI s) B 0 = c1 at *
      refine r_iload_n (i := 3) i_M_harmOf_4 rfl rfl ?_
      refine r_iconst (v := (1 : Int32)) i_M_harmOf_5 rfl ?_
      refine r_aload_n (i := 0) i_M_harmOf_6 rfl rfl ?_
      refine r_getf (ci := 6) (T := Fk6) (k := 13) o_M_harmOf i_M_harmOf_7 x_M_80 rfl (by decide) rfl (by repeat (first | assumption | exact upw_s | refine (upw_n (by omega)).trans ?_)) (by first | assumption | omega) (by rfl) ?_
      refine r_ishl i_M_harmOf_10 ?_
      rw [hB, b1_pow B hB7]
      refine r_icmp_ge 147 i_M_harmOf_11 (by decide) (fun h11 => (absurd h11 (nI_ge (by omega) (by omega)))) (fun h11 => ?_)
      refine r_aload_n (i := 0) i_M_harmOf_14 rfl rfl ?_
      refine r_getf (ci := 6) (T := Fk6) (k := 16) o_M_harmOf i_M_harmOf_15 x_M_54 rfl (by decide) rfl (by repeat (first | assumption | exact upw_s | refine (upw_n (by omega)).trans ?_)) (by first | assumption | omega) (by rfl) ?_
      refine r_iconst (v := (1 : Int32)) i_M_harmOf_18 rfl ?_
      refine r_iald i_M_harmOf_19 (by repeat (first | assumption | exact upw_s | refine (upw_n (by omega)).trans ?_)) (by first | assumption | omega) (by assumption) ?_
      refine r_if_eq 31 i_M_harmOf_20 (by decide) (fun h20 => ?_) (fun h20 => ?_)
      · skip
        have h20 : M.2.1 36 1 = 0 := h20
        rw [decide_eq_true h20, Bool.true_or] at mid
        refine r_aload_n (i := 0) i_M_harmOf_31 rfl rfl ?_
        refine r_iload_n (i := 3) i_M_harmOf_32 rfl rfl ?_
        refine f_virtual o_M_harmOf k_M_isBarred v_M_isBarred x_M_310 i_M_harmOf_33 o_M_isBarred (hib) rfl (rcv_ob (by repeat (first | assumption | exact upw_s | refine (upw_n (by omega)).trans ?_)) rfl (by first | assumption | omega)) rfl (by decide) (Nat.le_of_ble_eq_true rfl) ?_
        refine r_if_ne 43 i_M_harmOf_36 (by decide) (fun h36 => ?_) (fun h36 => ?_)
        · skip
          rw [bI_ne0.mp h36] at mid
          refine r_iconst (v := (0 : Int32)) i_M_harmOf_43 rfl ?_
          exact mid
        · skip
          rw [bI_eq0.mp h36] at mid
          refine r_iconst (v := (1 : Int32)) i_M_harmOf_39 rfl ?_
          refine r_goto 44 i_M_harmOf_40 (by decide) ?_
          exact mid
      · skip
        have h20 : ¬ M.2.1 36 1 = 0 := h20
        rw [decide_eq_false h20, Bool.false_or] at mid
        refine r_iload_n (i := 3) i_M_harmOf_23 rfl rfl ?_
        refine f_static o_M_harmOf k_M_bits s_M_bits x_M_307 i_M_harmOf_24 (c_M_bits) rfl rfl (by decide) (Nat.le_of_ble_eq_true rfl) ?_
        refine r_iconst (v := (1 : Int32)) i_M_harmOf_27 rfl ?_
        refine r_icmp_gt 43 i_M_harmOf_28 (by decide) (fun h28 => ?_) (fun h28 => ?_)
        · skip
          rw [decide_eq_true h28] at mid
          refine r_iconst (v := (0 : Int32)) i_M_harmOf_43 rfl ?_
          exact mid
        · skip
          rw [decide_eq_false h28] at mid
          refine r_aload_n (i := 0) i_M_harmOf_31 rfl rfl ?_
          refine r_iload_n (i := 3) i_M_harmOf_32 rfl rfl ?_
          refine f_virtual o_M_harmOf k_M_isBarred v_M_isBarred x_M_310 i_M_harmOf_33 o_M_isBarred (hib) rfl (rcv_ob (by repeat (first | assumption | exact upw_s | refine (upw_n (by omega)).trans ?_)) rfl (by first | assumption | omega)) rfl (by decide) (Nat.le_of_ble_eq_true rfl) ?_
          refine r_if_ne 43 i_M_harmOf_36 (by decide) (fun h36 => ?_) (fun h36 => ?_)
          · skip
            rw [bI_ne0.mp h36] at mid
            refine r_iconst (v := (0 : Int32)) i_M_harmOf_43 rfl ?_
            exact mid
          · skip
            rw [bI_eq0.mp h36] at mid
            refine r_iconst (v := (1 : Int32)) i_M_harmOf_39 rfl ?_
            refine r_goto 44 i_M_harmOf_40 (by decide) ?_
            exact mid
  refine r_iconst (v := (0 : Int32)) i_M_harmOf_0 rfl ?_
  refine r_istore_2 i_M_harmOf_1 (by rw [l_M_harmOf]; decide) rfl ?_
  refine r_iconst (v := (0 : Int32)) i_M_harmOf_2 rfl ?_
  refine r_istore_3 i_M_harmOf_3 (by rw [l_M_harmOf]; decide) rfl ?_
  exact l1 (2 ^ B) 0 (by omega) 0 none none none rfl
def m2_harm (M : aM) (B : Nat) (t : Int32) : Int32 × aM := if lt0 t (M.1 10) = true then (hmO M t.toNatClampNeg B, M) else (-2, mR M 2)
theorem c_M_harm {P B : Nat} {t : Int32} (h : MW w o M n) (hP : M.1 10 = nI P) (hP7 : P ≤ 7) (hB : M.1 13 = nI B) (hB7 : B ≤ 7) : Mm G 3 y_M_harm [.ref o, .int t] w o n (m2_harm M B t) := by
  obtain ⟨m0, mA', mL', m4, m20, m28, mn'⟩ := id h
  refine Mm.of k_M_harm l_M_harm rfl rfl ?_
  unfold m2_harm
  rw [hP]
  refine r_aload_n (i := 0) i_M_harm_0 rfl rfl ?_
  refine r_iload_n (i := 1) i_M_harm_1 rfl rfl ?_
  refine r_i2l i_M_harm_2 ?_
  refine f_virtual o_M_harm k_M_isOne v_M_isOne x_M_112 i_M_harm_3 o_M_isOne (c_M_isOne h) rfl (rcv_ob (by repeat (first | assumption | exact upw_s | refine (upw_n (by omega)).trans ?_)) rfl (by first | assumption | omega)) rfl (by decide) (Nat.le_of_ble_eq_true rfl) ?_
  rw [hP, in_lt (by omega)]
  refine r_if_eq 17 i_M_harm_6 (by decide) (fun h6 => ?_) (fun h6 => ?_)
  · skip
    have h6 := bI_eq0.mp h6
    try rw [h6]
    refine r_aload_n (i := 0) i_M_harm_17 rfl rfl ?_
    refine r_bipush (v := (-2 : Int32)) i_M_harm_18 (by decide) ?_
    refine m_virtual o_M_harm k_M_refuse v_M_refuse x_M_89 i_M_harm_20 o_M_refuse (c_M_refuse (i := 2) h (by decide)) rfl (rcv_ob (by repeat (first | assumption | exact upw_s | refine (upw_n (by omega)).trans ?_)) rfl (by first | assumption | omega)) rfl (by decide) (Nat.le_of_ble_eq_true rfl) (Nat.zero_le _) (Nat.zero_le _) (fun rr20 wr20 nr20 hp9 => ?_)
    obtain ⟨rfl, hp9, rfl⟩ := hp9
    refine r_ireturn i_M_harm_23 t_M_harm rfl ?_
    first | exact ⟨rfl, hp9, rfl⟩ | exact ⟨rfl, ⟨h, fun _ _ => rfl⟩, rfl⟩
  · skip
    have h6 := bI_ne0.mp h6
    try rw [h6]
    obtain ⟨t, ht, rfl⟩ := lt0_of (by omega) h6
    rw [nI_clamp (by omega)]
    refine r_aload_n (i := 0) i_M_harm_9 rfl rfl ?_
    refine r_iload_n (i := 1) i_M_harm_10 rfl rfl ?_
    refine f_virtual o_M_harm k_M_harmOf v_M_harmOf x_M_319 i_M_harm_11 o_M_harmOf (c_M_harmOf h (by omega) hB hB7) rfl (rcv_ob (by repeat (first | assumption | exact upw_s | refine (upw_n (by omega)).trans ?_)) rfl (by first | assumption | omega)) rfl (by decide) (Nat.le_of_ble_eq_true rfl) ?_
    refine r_goto 23 i_M_harm_14 (by decide) ?_
    refine r_ireturn i_M_harm_23 t_M_harm rfl ?_
    first | exact ⟨rfl, hp9, rfl⟩ | exact ⟨rfl, ⟨h, fun _ _ => rfl⟩, rfl⟩
def gtF (f : Nat → Int32) (t i : Nat) : Bool := decide (f i < f t)
theorem c_M_worstF {P : Nat} {f : Nat → Int32} (h : MW w o M n) (hP : M.1 10 = nI P) (hP7 : P ≤ 7) (hs : ∀ t, t < 7 → Fn G 2 y_M_harmOf [.ref o, .int (nI t)] w n (some (.int (f t))) w) : Mm G 3 y_M_worst [.ref o] w o n (frM M (pkF (fun _ => true) (gtF f) P)) := by
  obtain ⟨m0, mA', mL', m4, m20, m28, mn'⟩ := id h
  refine Mm.of k_M_worst l_M_worst rfl rfl ?_
  have hloop : ∀ m t, t + m = P → Go G 3 y_M_worst 4 [some (.ref o), some (.int (pkF (fun _ => true) (gtF f) t)), some (.int (nI t))] [] w n 0 0 (fun r w' n' => r = some (.int (frM M (pkF (fun _ => true) (gtF f) P)).1) ∧ (MW w' o (frM M (pkF (fun _ => true) (gtF f) P)).2 n ∧ mFr w w' o) ∧ n' = n) := by
    intro m
    induction m with
    | zero =>
      intro t ht
      have ht : t = P := by omega
      subst ht
      unfold frM
      generalize pkF (fun _ => true) (gtF f) t = v at *
      refine r_iload_n (i := 2) i_M_worst_4 rfl rfl ?_
      refine r_aload_n (i := 0) i_M_worst_5 rfl rfl ?_
      refine r_getf (ci := 6) (T := Fk6) (k := 10) o_M_worst i_M_worst_6 x_M_73 rfl (by decide) rfl (by repeat (first | assumption | exact upw_s | refine (upw_n (by omega)).trans ?_)) (by first | assumption | omega) (by rfl) ?_
      refine r_icmp_ge 42 i_M_worst_9 (by decide) (fun h9 => ?_) (fun h9 => (absurd (by rw [hP]; exact nI_le (Nat.le_refl _) (by omega)) h9))
      refine r_iload_n (i := 1) i_M_worst_42 rfl rfl ?_
      refine r_iconst (v := (-1 : Int32)) i_M_worst_43 rfl ?_
      refine r_icmp_ne 56 i_M_worst_44 (by decide) (fun h44 => ?_) (fun h44 => ?_)
      · skip
        rw [if_neg h44]
        refine r_iload_n (i := 1) i_M_worst_56 rfl rfl ?_
        refine r_ireturn i_M_worst_57 t_M_worst rfl ?_
        first | exact ⟨rfl, hp9, rfl⟩ | exact ⟨rfl, ⟨h, fun _ _ => rfl⟩, rfl⟩
      · skip
        rw [if_pos h44]
        refine r_aload_n (i := 0) i_M_worst_47 rfl rfl ?_
        refine r_bipush (v := (-5 : Int32)) i_M_worst_48 (by decide) ?_
        refine m_virtual o_M_worst k_M_refuse v_M_refuse x_M_89 i_M_worst_50 o_M_refuse (c_M_refuse (i := 5) h (by decide)) rfl (rcv_ob (by repeat (first | assumption | exact upw_s | refine (upw_n (by omega)).trans ?_)) rfl (by first | assumption | omega)) rfl (by decide) (Nat.le_of_ble_eq_true rfl) (Nat.zero_le _) (Nat.zero_le _) (fun rr50 wr50 nr50 hp9 => ?_)
        obtain ⟨rfl, hp9, rfl⟩ := hp9
        refine r_goto 57 i_M_worst_53 (by decide) ?_
        refine r_ireturn i_M_worst_57 t_M_worst rfl ?_
        first | exact ⟨rfl, hp9, rfl⟩ | exact ⟨rfl, ⟨h, fun _ _ => rfl⟩, rfl⟩
    | succ m ih =>
      intro t ht
      have ih' := ih (t + 1) (by omega)
      have hc := pkF_cases (fun _ => true) (gtF f) t
      have e7 : pkF (fun _ => true) (gtF f) (t + 1) = if (true && (decide (pkF (fun _ => true) (gtF f) t = -1) || decide (f (pkF (fun _ => true) (gtF f) t).toNatClampNeg < f t))) = true then nI t else pkF (fun _ => true) (gtF f) t := rfl
      rw [e7, Bool.true_and] at ih'
      generalize hpv : pkF (fun _ => true) (gtF f) t = v at *
      refine r_iload_n (i := 2) i_M_worst_4 rfl rfl ?_
      refine r_aload_n (i := 0) i_M_worst_5 rfl rfl ?_
      refine r_getf (ci := 6) (T := Fk6) (k := 10) o_M_worst i_M_worst_6 x_M_73 rfl (by decide) rfl (by repeat (first | assumption | exact upw_s | refine (upw_n (by omega)).trans ?_)) (by first | assumption | omega) (by rfl) ?_
      refine r_icmp_ge 42 i_M_worst_9 (by decide) (fun h9 => (absurd h9 (by rw [hP]; exact nI_ge (by omega) (by omega)))) (fun h9 => ?_)
      refine r_iload_n (i := 1) i_M_worst_12 rfl rfl ?_
      refine r_iconst (v := (-1 : Int32)) i_M_worst_13 rfl ?_
      refine r_icmp_eq 30 i_M_worst_14 (by decide) (fun h14 => ?_) (fun h14 => ?_)
      · skip
        rw [decide_eq_true h14, Bool.true_or, if_pos rfl] at ih'
        refine r_iload_n (i := 2) i_M_worst_30 rfl rfl ?_
        refine r_goto 35 i_M_worst_31 (by decide) ?_
        refine r_istore_1 i_M_worst_35 (by rw [l_M_worst]; decide) rfl ?_
        refine r_iinc_2 (v := (1 : Int32)) i_M_worst_36 rfl (by rw [l_M_worst]; decide) rfl ?_
        refine r_goto 4 i_M_worst_39 (by decide) ?_
        rw [nI_1]
        first | exact ih' | (rw [ei]; exact ih')
      · skip
        rw [decide_eq_false h14, Bool.false_or] at ih'
        obtain ⟨i, hi, -, ei⟩ := hc.resolve_left h14
        rw [ei, nI_clamp (by omega)] at ih'
        refine r_aload_n (i := 0) i_M_worst_17 rfl rfl ?_
        refine r_iload_n (i := 2) i_M_worst_18 rfl rfl ?_
        skip
        refine f_virtual o_M_worst k_M_harmOf v_M_harmOf x_M_319 i_M_worst_19 o_M_harmOf (hs t (by omega)) rfl (rcv_ob (by repeat (first | assumption | exact upw_s | refine (upw_n (by omega)).trans ?_)) rfl (by first | assumption | omega)) rfl (by decide) (Nat.le_of_ble_eq_true rfl) ?_
        refine r_aload_n (i := 0) i_M_worst_22 rfl rfl ?_
        refine r_iload_n (i := 1) i_M_worst_23 rfl rfl ?_
        rw [ei]
        refine f_virtual o_M_worst k_M_harmOf v_M_harmOf x_M_319 i_M_worst_24 o_M_harmOf (hs i (by omega)) rfl (rcv_ob (by repeat (first | assumption | exact upw_s | refine (upw_n (by omega)).trans ?_)) rfl (by first | assumption | omega)) rfl (by decide) (Nat.le_of_ble_eq_true rfl) ?_
        refine r_icmp_le 34 i_M_worst_27 (by decide) (fun h27 => ?_) (fun h27 => ?_)
        · skip
          rw [if_neg (fun q => absurd (of_decide_eq_true q) (Int32.not_lt.mpr h27))] at ih'
          refine r_iload_n (i := 1) i_M_worst_34 rfl rfl ?_
          refine r_istore_1 i_M_worst_35 (by rw [l_M_worst]; decide) rfl ?_
          refine r_iinc_2 (v := (1 : Int32)) i_M_worst_36 rfl (by rw [l_M_worst]; decide) rfl ?_
          refine r_goto 4 i_M_worst_39 (by decide) ?_
          rw [nI_1]
          first | exact ih' | (rw [ei]; exact ih')
        · skip
          rw [if_pos (decide_eq_true (Int32.not_le.mp h27))] at ih'
          refine r_iload_n (i := 2) i_M_worst_30 rfl rfl ?_
          refine r_goto 35 i_M_worst_31 (by decide) ?_
          refine r_istore_1 i_M_worst_35 (by rw [l_M_worst]; decide) rfl ?_
          refine r_iinc_2 (v := (1 : Int32)) i_M_worst_36 rfl (by rw [l_M_worst]; decide) rfl ?_
          refine r_goto 4 i_M_worst_39 (by decide) ?_
          rw [nI_1]
          first | exact ih' | (rw [ei]; exact ih')
  refine r_iconst (v := (-1 : Int32)) i_M_worst_0 rfl ?_
  refine r_istore_1 i_M_worst_1 (by rw [l_M_worst]; decide) rfl ?_
  refine r_iconst (v := (0 : Int32)) i_M_worst_2 rfl ?_
  refine r_istore_2 i_M_worst_3 (by rw [l_M_worst]; decide) rfl ?_
  exact hloop P 0 (by omega)
theorem c_M_worst {P B : Nat} (h : MW w o M n) (hP : M.1 10 = nI P) (hP7 : P ≤ 7) (hB : M.1 13 = nI B) (hB7 : B ≤ 7) : Mm G 3 y_M_worst [.ref o] w o n (frM M (pkF (fun _ => true) (gtF (fun t => hmO M t B)) P)) := c_M_worstF (f := fun t => hmO M t B) h hP hP7 (fun t ht => c_M_harmOf h ht hB hB7)
theorem c_M_hatedF {P : Nat} {f : Nat → Int32} (h : MW w o M n) (hP : M.1 10 = nI P) (hP7 : P ≤ 7) (hs : ∀ t, t < 7 → Fn G 2 y_M_hates [.ref o, .int (nI t)] w n (some (.int (f t))) w) : Mm G 3 y_M_hated [.ref o] w o n (frM M (pkF (fun _ => true) (gtF f) P)) := by
  obtain ⟨m0, mA', mL', m4, m20, m28, mn'⟩ := id h
  refine Mm.of k_M_hated l_M_hated rfl rfl ?_
  have hloop : ∀ m t, t + m = P → Go G 3 y_M_hated 4 [some (.ref o), some (.int (pkF (fun _ => true) (gtF f) t)), some (.int (nI t))] [] w n 0 0 (fun r w' n' => r = some (.int (frM M (pkF (fun _ => true) (gtF f) P)).1) ∧ (MW w' o (frM M (pkF (fun _ => true) (gtF f) P)).2 n ∧ mFr w w' o) ∧ n' = n) := by
    intro m
    induction m with
    | zero =>
      intro t ht
      have ht : t = P := by omega
      subst ht
      unfold frM
      generalize pkF (fun _ => true) (gtF f) t = v at *
      refine r_iload_n (i := 2) i_M_hated_4 rfl rfl ?_
      refine r_aload_n (i := 0) i_M_hated_5 rfl rfl ?_
      refine r_getf (ci := 6) (T := Fk6) (k := 10) o_M_hated i_M_hated_6 x_M_73 rfl (by decide) rfl (by repeat (first | assumption | exact upw_s | refine (upw_n (by omega)).trans ?_)) (by first | assumption | omega) (by rfl) ?_
      refine r_icmp_ge 42 i_M_hated_9 (by decide) (fun h9 => ?_) (fun h9 => (absurd (by rw [hP]; exact nI_le (Nat.le_refl _) (by omega)) h9))
      refine r_iload_n (i := 1) i_M_hated_42 rfl rfl ?_
      refine r_iconst (v := (-1 : Int32)) i_M_hated_43 rfl ?_
      refine r_icmp_ne 56 i_M_hated_44 (by decide) (fun h44 => ?_) (fun h44 => ?_)
      · skip
        rw [if_neg h44]
        refine r_iload_n (i := 1) i_M_hated_56 rfl rfl ?_
        refine r_ireturn i_M_hated_57 t_M_hated rfl ?_
        first | exact ⟨rfl, hp9, rfl⟩ | exact ⟨rfl, ⟨h, fun _ _ => rfl⟩, rfl⟩
      · skip
        rw [if_pos h44]
        refine r_aload_n (i := 0) i_M_hated_47 rfl rfl ?_
        refine r_bipush (v := (-5 : Int32)) i_M_hated_48 (by decide) ?_
        refine m_virtual o_M_hated k_M_refuse v_M_refuse x_M_89 i_M_hated_50 o_M_refuse (c_M_refuse (i := 5) h (by decide)) rfl (rcv_ob (by repeat (first | assumption | exact upw_s | refine (upw_n (by omega)).trans ?_)) rfl (by first | assumption | omega)) rfl (by decide) (Nat.le_of_ble_eq_true rfl) (Nat.zero_le _) (Nat.zero_le _) (fun rr50 wr50 nr50 hp9 => ?_)
        obtain ⟨rfl, hp9, rfl⟩ := hp9
        refine r_goto 57 i_M_hated_53 (by decide) ?_
        refine r_ireturn i_M_hated_57 t_M_hated rfl ?_
        first | exact ⟨rfl, hp9, rfl⟩ | exact ⟨rfl, ⟨h, fun _ _ => rfl⟩, rfl⟩
    | succ m ih =>
      intro t ht
      have ih' := ih (t + 1) (by omega)
      have hc := pkF_cases (fun _ => true) (gtF f) t
      have e7 : pkF (fun _ => true) (gtF f) (t + 1) = if (true && (decide (pkF (fun _ => true) (gtF f) t = -1) || decide (f (pkF (fun _ => true) (gtF f) t).toNatClampNeg < f t))) = true then nI t else pkF (fun _ => true) (gtF f) t := rfl
      rw [e7, Bool.true_and] at ih'
      generalize hpv : pkF (fun _ => true) (gtF f) t = v at *
      refine r_iload_n (i := 2) i_M_hated_4 rfl rfl ?_
      refine r_aload_n (i := 0) i_M_hated_5 rfl rfl ?_
      refine r_getf (ci := 6) (T := Fk6) (k := 10) o_M_hated i_M_hated_6 x_M_73 rfl (by decide) rfl (by repeat (first | assumption | exact upw_s | refine (upw_n (by omega)).trans ?_)) (by first | assumption | omega) (by rfl) ?_
      refine r_icmp_ge 42 i_M_hated_9 (by decide) (fun h9 => (absurd h9 (by rw [hP]; exact nI_ge (by omega) (by omega)))) (fun h9 => ?_)
      refine r_iload_n (i := 1) i_M_hated_12 rfl rfl ?_
      refine r_iconst (v := (-1 : Int32)) i_M_hated_13 rfl ?_
      refine r_icmp_eq 30 i_M_hated_14 (by decide) (fun h14 => ?_) (fun h14 => ?_)
      · skip
        rw [decide_eq_true h14, Bool.true_or, if_pos rfl] at ih'
        refine r_iload_n (i := 2) i_M_hated_30 rfl rfl ?_
        refine r_goto 35 i_M_hated_31 (by decide) ?_
        refine r_istore_1 i_M_hated_35 (by rw [l_M_hated]; decide) rfl ?_
        refine r_iinc_2 (v := (1 : Int32)) i_M_hated_36 rfl (by rw [l_M_hated]; decide) rfl ?_
        refine r_goto 4 i_M_hated_39 (by decide) ?_
        rw [nI_1]
        first | exact ih' | (rw [ei]; exact ih')
      · skip
        rw [decide_eq_false h14, Bool.false_or] at ih'
        obtain ⟨i, hi, -, ei⟩ := hc.resolve_left h14
        rw [ei, nI_clamp (by omega)] at ih'
        refine r_aload_n (i := 0) i_M_hated_17 rfl rfl ?_
        refine r_iload_n (i := 2) i_M_hated_18 rfl rfl ?_
        refine f_virtual o_M_hated k_M_hates v_M_hates x_M_322 i_M_hated_19 o_M_hates (hs t (by omega)) rfl (rcv_ob (by repeat (first | assumption | exact upw_s | refine (upw_n (by omega)).trans ?_)) rfl (by first | assumption | omega)) rfl (by decide) (Nat.le_of_ble_eq_true rfl) ?_
        refine r_aload_n (i := 0) i_M_hated_22 rfl rfl ?_
        refine r_iload_n (i := 1) i_M_hated_23 rfl rfl ?_
        rw [ei]
        refine f_virtual o_M_hated k_M_hates v_M_hates x_M_322 i_M_hated_24 o_M_hates (hs i (by omega)) rfl (rcv_ob (by repeat (first | assumption | exact upw_s | refine (upw_n (by omega)).trans ?_)) rfl (by first | assumption | omega)) rfl (by decide) (Nat.le_of_ble_eq_true rfl) ?_
        refine r_icmp_le 34 i_M_hated_27 (by decide) (fun h27 => ?_) (fun h27 => ?_)
        · skip
          rw [if_neg (fun q => absurd (of_decide_eq_true q) (Int32.not_lt.mpr h27))] at ih'
          refine r_iload_n (i := 1) i_M_hated_34 rfl rfl ?_
          refine r_istore_1 i_M_hated_35 (by rw [l_M_hated]; decide) rfl ?_
          refine r_iinc_2 (v := (1 : Int32)) i_M_hated_36 rfl (by rw [l_M_hated]; decide) rfl ?_
          refine r_goto 4 i_M_hated_39 (by decide) ?_
          rw [nI_1]
          first | exact ih' | (rw [ei]; exact ih')
        · skip
          rw [if_pos (decide_eq_true (Int32.not_le.mp h27))] at ih'
          refine r_iload_n (i := 2) i_M_hated_30 rfl rfl ?_
          refine r_goto 35 i_M_hated_31 (by decide) ?_
          refine r_istore_1 i_M_hated_35 (by rw [l_M_hated]; decide) rfl ?_
          refine r_iinc_2 (v := (1 : Int32)) i_M_hated_36 rfl (by rw [l_M_hated]; decide) rfl ?_
          refine r_goto 4 i_M_hated_39 (by decide) ?_
          rw [nI_1]
          first | exact ih' | (rw [ei]; exact ih')
  refine r_iconst (v := (-1 : Int32)) i_M_hated_0 rfl ?_
  refine r_istore_1 i_M_hated_1 (by rw [l_M_hated]; decide) rfl ?_
  refine r_iconst (v := (0 : Int32)) i_M_hated_2 rfl ?_
  refine r_istore_2 i_M_hated_3 (by rw [l_M_hated]; decide) rfl ?_
  exact hloop P 0 (by omega)
theorem c_M_hated {P B : Nat} (h : MW w o M n) (hP : M.1 10 = nI P) (hP7 : P ≤ 7) (hB : M.1 13 = nI B) (hB7 : B ≤ 7) : Mm G 3 y_M_hated [.ref o] w o n (frM M (pkF (fun _ => true) (gtF (fun t => hatM M t B)) P)) := c_M_hatedF (f := fun t => hatM M t B) h hP hP7 (fun t ht => c_M_hates h ht hB hB7)
end MHARM
