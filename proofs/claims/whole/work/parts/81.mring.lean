-- THE REFERENCE: parties that another bargain names, who dares
def pfM (M : aM) (b p q : Nat) : Int32 := if gd (tM M) b p = true then (if gd (tM M) b q = true ∧ valN (tM M) b p < valN (tM M) b q then nI q else nI p) else if gd (tM M) b q = true then nI q else -1
def dbT (M : aM) (f : Int32) (b t : Nat) (x : Int32) : Int32 := if (gd (tM M) b t = false ∧ partyN (tM M) b (nI t) = false) ∧ 0 < (10 - M.2.1 36 2) * valN (tM M) b t - M.2.1 36 2 * f then x + 1 else x
def dbB (M : aM) (f : Int32) (P b : Nat) (x : Int32) : Int32 := lpF (dbT M f b) P 0 x
section MRING
variable {G : gE} {w : aW} {o n : Nat} {M : aM}
theorem c_M_partyFor {b c p q : Nat} (h : MW w o M n) (hb : b < 7) (hc : c < 7) (hp : p < 7) (hq : q < 7) (ep : M.2.1 (21 + c) 0 = nI p) (eq : M.2.1 (21 + c) 1 = nI q) : Fn G 2 y_M_partyFor [.ref o, .int (nI b), .int (nI c)] w n (some (.int (pfM M b p q))) w := by
  obtain ⟨m0, mA', mL', m4, m20, m28, mn'⟩ := id h
  obtain ⟨i0, i1, i2, i3, i4⟩ := v5
  obtain ⟨r1, r2, r3, r4, r5⟩ := row_of h hc
  refine Fn.of k_M_partyFor l_M_partyFor rfl rfl ?_
  unfold pfM
  refine r_aload_n (i := 0) i_M_partyFor_0 rfl rfl ?_
  refine r_getf (ci := 6) (T := Fk6) (k := 14) o_M_partyFor i_M_partyFor_1 x_M_48 rfl (by decide) rfl (by repeat (first | assumption | exact upw_s | refine (upw_n (by omega)).trans ?_)) (by first | assumption | omega) (by rfl) ?_
  refine r_iload_n (i := 2) i_M_partyFor_4 rfl rfl ?_
  refine r_aald i_M_partyFor_5 (by repeat (first | assumption | exact upw_s | refine (upw_n (by omega)).trans ?_)) (by decide) (by first | assumption | omega) (by assumption) r3 ?_
  refine r_iconst (v := (0 : Int32)) i_M_partyFor_6 rfl ?_
  refine r_iald i_M_partyFor_7 (by repeat (first | assumption | exact upw_s | refine (upw_n (by omega)).trans ?_)) (by first | assumption | omega) (by assumption) ?_
  rw [show M.2.1 (21 + c) (Int32.toNatClampNeg 0) = nI p from ep]
  refine r_istore_3 i_M_partyFor_8 (by rw [l_M_partyFor]; decide) rfl ?_
  refine r_aload_n (i := 0) i_M_partyFor_9 rfl rfl ?_
  refine r_getf (ci := 6) (T := Fk6) (k := 14) o_M_partyFor i_M_partyFor_10 x_M_48 rfl (by decide) rfl (by repeat (first | assumption | exact upw_s | refine (upw_n (by omega)).trans ?_)) (by first | assumption | omega) (by rfl) ?_
  refine r_iload_n (i := 2) i_M_partyFor_13 rfl rfl ?_
  refine r_aald i_M_partyFor_14 (by repeat (first | assumption | exact upw_s | refine (upw_n (by omega)).trans ?_)) (by decide) (by first | assumption | omega) (by assumption) r3 ?_
  refine r_iconst (v := (1 : Int32)) i_M_partyFor_15 rfl ?_
  refine r_iald i_M_partyFor_16 (by repeat (first | assumption | exact upw_s | refine (upw_n (by omega)).trans ?_)) (by first | assumption | omega) (by assumption) ?_
  rw [show M.2.1 (21 + c) (Int32.toNatClampNeg 1) = nI q from eq]
  refine r_istore_4 i_M_partyFor_17 (by rw [l_M_partyFor]; decide) rfl ?_
  refine r_aload_n (i := 0) i_M_partyFor_19 rfl rfl ?_
  refine r_iload_n (i := 1) i_M_partyFor_20 rfl rfl ?_
  refine r_iload_n (i := 3) i_M_partyFor_21 rfl rfl ?_
  refine f_virtual o_M_partyFor k_M_isGood v_M_isGood x_M_243 i_M_partyFor_22 o_M_isGood (c_M_isGood h hb hp) rfl (rcv_ob (by repeat (first | assumption | exact upw_s | refine (upw_n (by omega)).trans ?_)) rfl (by first | assumption | omega)) rfl (by decide) (Nat.le_of_ble_eq_true rfl) ?_
  refine r_if_ne 45 i_M_partyFor_25 (by decide) (fun h25 => ?_) (fun h25 => ?_)
  · skip
    have h25 := bI_ne0.mp h25
    rw [if_pos h25]
    refine r_aload_n (i := 0) i_M_partyFor_45 rfl rfl ?_
    refine r_iload_n (i := 1) i_M_partyFor_46 rfl rfl ?_
    refine r_iload (i := 4) i_M_partyFor_47 rfl ?_
    refine f_virtual o_M_partyFor k_M_isGood v_M_isGood x_M_243 i_M_partyFor_49 o_M_isGood (c_M_isGood h hb hq) rfl (rcv_ob (by repeat (first | assumption | exact upw_s | refine (upw_n (by omega)).trans ?_)) rfl (by first | assumption | omega)) rfl (by decide) (Nat.le_of_ble_eq_true rfl) ?_
    refine r_if_eq 76 i_M_partyFor_52 (by decide) (fun h52 => ?_) (fun h52 => ?_)
    · skip
      have h52 := bI_eq0.mp h52
      rw [if_neg (fun z => by rw [h52] at z; exact absurd z.1 (by decide))]
      refine r_iload_n (i := 3) i_M_partyFor_76 rfl rfl ?_
      refine r_ireturn i_M_partyFor_77 t_M_partyFor rfl ?_
      exact ⟨rfl, rfl, rfl⟩
    · skip
      have h52 := bI_ne0.mp h52
      refine r_aload_n (i := 0) i_M_partyFor_55 rfl rfl ?_
      refine r_iload_n (i := 1) i_M_partyFor_56 rfl rfl ?_
      refine r_iload (i := 4) i_M_partyFor_57 rfl ?_
      refine f_virtual o_M_partyFor k_M_valueOf v_M_valueOf x_M_251 i_M_partyFor_59 o_M_valueOf (c_M_valueOf h hb hq) rfl (rcv_ob (by repeat (first | assumption | exact upw_s | refine (upw_n (by omega)).trans ?_)) rfl (by first | assumption | omega)) rfl (by decide) (Nat.le_of_ble_eq_true rfl) ?_
      refine r_aload_n (i := 0) i_M_partyFor_62 rfl rfl ?_
      refine r_iload_n (i := 1) i_M_partyFor_63 rfl rfl ?_
      refine r_iload_n (i := 3) i_M_partyFor_64 rfl rfl ?_
      refine f_virtual o_M_partyFor k_M_valueOf v_M_valueOf x_M_251 i_M_partyFor_65 o_M_valueOf (c_M_valueOf h hb hp) rfl (rcv_ob (by repeat (first | assumption | exact upw_s | refine (upw_n (by omega)).trans ?_)) rfl (by first | assumption | omega)) rfl (by decide) (Nat.le_of_ble_eq_true rfl) ?_
      refine r_icmp_le 76 i_M_partyFor_68 (by decide) (fun h68 => ?_) (fun h68 => ?_)
      · skip
        rw [if_neg (fun z => absurd z.2 (Int32.not_lt.mpr h68))]
        refine r_iload_n (i := 3) i_M_partyFor_76 rfl rfl ?_
        refine r_ireturn i_M_partyFor_77 t_M_partyFor rfl ?_
        exact ⟨rfl, rfl, rfl⟩
      · skip
        rw [if_pos ⟨h52, Int32.not_le.mp h68⟩]
        refine r_iload (i := 4) i_M_partyFor_71 rfl ?_
        refine r_goto 77 i_M_partyFor_73 (by decide) ?_
        refine r_ireturn i_M_partyFor_77 t_M_partyFor rfl ?_
        exact ⟨rfl, rfl, rfl⟩
  · skip
    have h25 := bI_eq0.mp h25
    rw [if_neg (by rw [h25]; decide)]
    refine r_aload_n (i := 0) i_M_partyFor_28 rfl rfl ?_
    refine r_iload_n (i := 1) i_M_partyFor_29 rfl rfl ?_
    refine r_iload (i := 4) i_M_partyFor_30 rfl ?_
    refine f_virtual o_M_partyFor k_M_isGood v_M_isGood x_M_243 i_M_partyFor_32 o_M_isGood (c_M_isGood h hb hq) rfl (rcv_ob (by repeat (first | assumption | exact upw_s | refine (upw_n (by omega)).trans ?_)) rfl (by first | assumption | omega)) rfl (by decide) (Nat.le_of_ble_eq_true rfl) ?_
    refine r_if_eq 43 i_M_partyFor_35 (by decide) (fun h35 => ?_) (fun h35 => ?_)
    · skip
      have h35 := bI_eq0.mp h35
      rw [if_neg (by rw [h35]; decide)]
      refine r_iconst (v := (-1 : Int32)) i_M_partyFor_43 rfl ?_
      refine r_ireturn i_M_partyFor_44 t_M_partyFor rfl ?_
      exact ⟨rfl, rfl, rfl⟩
    · skip
      have h35 := bI_ne0.mp h35
      rw [if_pos h35]
      refine r_iload (i := 4) i_M_partyFor_38 rfl ?_
      refine r_goto 44 i_M_partyFor_40 (by decide) ?_
      refine r_ireturn i_M_partyFor_44 t_M_partyFor rfl ?_
      exact ⟨rfl, rfl, rfl⟩
theorem c_M_daresBy {P B : Nat} {f : Int32} (h : MW w o M n) (hP : M.1 10 = nI P) (hP7 : P ≤ 7) (hB : M.1 13 = nI B) (hB7 : B ≤ 7) : Fn G 3 y_M_daresBy [.ref o, .int f] w n (some (.int (lpF (dbB M f P) B 0 0))) w := by
  obtain ⟨m0, mA', mL', m4, m20, m28, mn'⟩ := id h
  refine Fn.of k_M_daresBy l_M_daresBy rfl rfl ?_
  have l2 : ∀ (post : Option Value → aW → Nat → Prop) (b : Nat), b < B → ∀ m i, i + m = P → ∀ (x : Int32), (∀ (z : Option Value), Go G 3 y_M_daresBy 69 [some (.ref o), some (.int f), some (.int (lpF (dbT M f b) m i x)), some (.int (nI b)), z] [] w n 0 0 post) → Go G 3 y_M_daresBy 15 [some (.ref o), some (.int f), some (.int x), some (.int (nI b)), some (.int (nI i))] [] w n 0 0 post := by
    intro post b hb m
    induction m with
    | zero =>
      intro i hi x hk
      have hi : i = P := by omega
      subst hi
      refine r_iload (i := 4) i_M_daresBy_15 rfl ?_
      refine r_aload_n (i := 0) i_M_daresBy_17 rfl rfl ?_
      refine r_getf (ci := 6) (T := Fk6) (k := 10) o_M_daresBy i_M_daresBy_18 x_M_73 rfl (by decide) rfl (by repeat (first | assumption | exact upw_s | refine (upw_n (by omega)).trans ?_)) (by first | assumption | omega) (by rfl) ?_
      refine r_icmp_ge 69 i_M_daresBy_21 (by decide) (fun h21 => ?_) (fun h21 => (absurd (by rw [hP]; exact nI_le (Nat.le_refl _) (by omega)) h21))
      exact hk _
    | succ m ih =>
      intro i hi x hk
      have hk : ∀ (z : Option Value), Go G 3 y_M_daresBy 69 [some (.ref o), some (.int f), some (.int (lpF (dbT M f b) m (i + 1) (if (gd (tM M) b i = false ∧ partyN (tM M) b (nI i) = false) ∧ 0 < (10 - M.2.1 36 2) * valN (tM M) b i - M.2.1 36 2 * f then x + 1 else x))), some (.int (nI b)), z] [] w n 0 0 post := hk
      refine r_iload (i := 4) i_M_daresBy_15 rfl ?_
      refine r_aload_n (i := 0) i_M_daresBy_17 rfl rfl ?_
      refine r_getf (ci := 6) (T := Fk6) (k := 10) o_M_daresBy i_M_daresBy_18 x_M_73 rfl (by decide) rfl (by repeat (first | assumption | exact upw_s | refine (upw_n (by omega)).trans ?_)) (by first | assumption | omega) (by rfl) ?_
      refine r_icmp_ge 69 i_M_daresBy_21 (by decide) (fun h21 => (absurd h21 (by rw [hP]; exact nI_ge (by omega) (by omega)))) (fun h21 => ?_)
      refine r_iload_n (i := 2) i_M_daresBy_24 rfl rfl ?_
      refine r_aload_n (i := 0) i_M_daresBy_25 rfl rfl ?_
      refine r_iload_n (i := 3) i_M_daresBy_26 rfl rfl ?_
      refine r_iload (i := 4) i_M_daresBy_27 rfl ?_
      refine f_virtual o_M_daresBy k_M_isGood v_M_isGood x_M_243 i_M_daresBy_29 o_M_isGood (c_M_isGood h (by omega) (by omega)) rfl (rcv_ob (by repeat (first | assumption | exact upw_s | refine (upw_n (by omega)).trans ?_)) rfl (by first | assumption | omega)) rfl (by decide) (Nat.le_of_ble_eq_true rfl) ?_
      refine r_if_ne 60 i_M_daresBy_32 (by decide) (fun h32 => ?_) (fun h32 => ?_)
      · skip
        have h32 := bI_ne0.mp h32
        rw [if_neg (fun z => by rw [h32] at z; exact absurd z.1.1 (by decide))] at hk
        refine r_iconst (v := (0 : Int32)) i_M_daresBy_60 rfl ?_
        refine r_iadd i_M_daresBy_61 ?_
        refine r_istore_2 i_M_daresBy_62 (by rw [l_M_daresBy]; decide) rfl ?_
        refine r_iinc_4 (v := (1 : Int32)) i_M_daresBy_63 rfl (by rw [l_M_daresBy]; decide) rfl ?_
        refine r_goto 15 i_M_daresBy_66 (by decide) ?_
        rw [nI_1]
        first | exact ih (i + 1) (by omega) _ hk | (rw [Int32.add_zero]; exact ih (i + 1) (by omega) _ hk)
      · skip
        have h32 := bI_eq0.mp h32
        refine r_aload_n (i := 0) i_M_daresBy_35 rfl rfl ?_
        refine r_iload_n (i := 3) i_M_daresBy_36 rfl rfl ?_
        refine r_iload (i := 4) i_M_daresBy_37 rfl ?_
        refine f_virtual o_M_daresBy k_M_isParty v_M_isParty x_M_240 i_M_daresBy_39 o_M_isParty (c_M_isParty h (by omega)) rfl (rcv_ob (by repeat (first | assumption | exact upw_s | refine (upw_n (by omega)).trans ?_)) rfl (by first | assumption | omega)) rfl (by decide) (Nat.le_of_ble_eq_true rfl) ?_
        refine r_if_ne 60 i_M_daresBy_42 (by decide) (fun h42 => ?_) (fun h42 => ?_)
        · skip
          have h42 := bI_ne0.mp h42
          rw [if_neg (fun z => by rw [h42] at z; exact absurd z.1.2 (by decide))] at hk
          refine r_iconst (v := (0 : Int32)) i_M_daresBy_60 rfl ?_
          refine r_iadd i_M_daresBy_61 ?_
          refine r_istore_2 i_M_daresBy_62 (by rw [l_M_daresBy]; decide) rfl ?_
          refine r_iinc_4 (v := (1 : Int32)) i_M_daresBy_63 rfl (by rw [l_M_daresBy]; decide) rfl ?_
          refine r_goto 15 i_M_daresBy_66 (by decide) ?_
          rw [nI_1]
          first | exact ih (i + 1) (by omega) _ hk | (rw [Int32.add_zero]; exact ih (i + 1) (by omega) _ hk)
        · skip
          have h42 := bI_eq0.mp h42
          refine r_aload_n (i := 0) i_M_daresBy_45 rfl rfl ?_
          refine r_iload_n (i := 3) i_M_daresBy_46 rfl rfl ?_
          refine r_iload (i := 4) i_M_daresBy_47 rfl ?_
          refine r_iload_n (i := 1) i_M_daresBy_49 rfl rfl ?_
          refine f_virtual o_M_daresBy k_M_saidBy v_M_saidBy x_M_325 i_M_daresBy_50 o_M_saidBy (c_M_saidBy h (by omega) (by omega)) rfl (rcv_ob (by repeat (first | assumption | exact upw_s | refine (upw_n (by omega)).trans ?_)) rfl (by first | assumption | omega)) rfl (by decide) (Nat.le_of_ble_eq_true rfl) ?_
          refine r_if_le 60 i_M_daresBy_53 (by decide) (fun h53 => ?_) (fun h53 => ?_)
          · skip
            rw [if_neg (fun z => absurd z.2 (Int32.not_lt.mpr h53))] at hk
            refine r_iconst (v := (0 : Int32)) i_M_daresBy_60 rfl ?_
            refine r_iadd i_M_daresBy_61 ?_
            refine r_istore_2 i_M_daresBy_62 (by rw [l_M_daresBy]; decide) rfl ?_
            refine r_iinc_4 (v := (1 : Int32)) i_M_daresBy_63 rfl (by rw [l_M_daresBy]; decide) rfl ?_
            refine r_goto 15 i_M_daresBy_66 (by decide) ?_
            rw [nI_1]
            first | exact ih (i + 1) (by omega) _ hk | (rw [Int32.add_zero]; exact ih (i + 1) (by omega) _ hk)
          · skip
            rw [if_pos ⟨⟨h32, h42⟩, Int32.not_le.mp h53⟩] at hk
            refine r_iconst (v := (1 : Int32)) i_M_daresBy_56 rfl ?_
            refine r_goto 61 i_M_daresBy_57 (by decide) ?_
            refine r_iadd i_M_daresBy_61 ?_
            refine r_istore_2 i_M_daresBy_62 (by rw [l_M_daresBy]; decide) rfl ?_
            refine r_iinc_4 (v := (1 : Int32)) i_M_daresBy_63 rfl (by rw [l_M_daresBy]; decide) rfl ?_
            refine r_goto 15 i_M_daresBy_66 (by decide) ?_
            rw [nI_1]
            first | exact ih (i + 1) (by omega) _ hk | (rw [Int32.add_zero]; exact ih (i + 1) (by omega) _ hk)
  have l1 : ∀ m b, b + m = B → ∀ (x : Int32) (z : Option Value), lpF (dbB M f P) m b x = lpF (dbB M f P) B 0 0 → Go G 3 y_M_daresBy 4 [some (.ref o), some (.int f), some (.int x), some (.int (nI b)), z] [] w n 0 0 (fun r1 w1 n1 => r1 = some (.int (lpF (dbB M f P) B 0 0)) ∧ w1 = w ∧ n1 = n) := by
    intro m
    induction m with
    | zero =>
      intro b hb x z hx
      have hb : b = B := by omega
      subst hb
      have hx : x = _ := hx
      refine r_iload_n (i := 3) i_M_daresBy_4 rfl rfl ?_
      refine r_aload_n (i := 0) i_M_daresBy_5 rfl rfl ?_
      refine r_getf (ci := 6) (T := Fk6) (k := 13) o_M_daresBy i_M_daresBy_6 x_M_80 rfl (by decide) rfl (by repeat (first | assumption | exact upw_s | refine (upw_n (by omega)).trans ?_)) (by first | assumption | omega) (by rfl) ?_
      refine r_icmp_ge 75 i_M_daresBy_9 (by decide) (fun h9 => ?_) (fun h9 => (absurd (by rw [hB]; exact nI_le (Nat.le_refl _) (by omega)) h9))
      refine r_iload_n (i := 2) i_M_daresBy_75 rfl rfl ?_
      refine r_ireturn i_M_daresBy_76 t_M_daresBy rfl ?_
      exact ⟨by rw [← hx], rfl, rfl⟩
    | succ m ih =>
      intro b hb x z hx
      have hx : lpF (dbB M f P) m (b + 1) (dbB M f P b x) = _ := hx
      refine r_iload_n (i := 3) i_M_daresBy_4 rfl rfl ?_
      refine r_aload_n (i := 0) i_M_daresBy_5 rfl rfl ?_
      refine r_getf (ci := 6) (T := Fk6) (k := 13) o_M_daresBy i_M_daresBy_6 x_M_80 rfl (by decide) rfl (by repeat (first | assumption | exact upw_s | refine (upw_n (by omega)).trans ?_)) (by first | assumption | omega) (by rfl) ?_
      refine r_icmp_ge 75 i_M_daresBy_9 (by decide) (fun h9 => (absurd h9 (by rw [hB]; exact nI_ge (by omega) (by omega)))) (fun h9 => ?_)
      refine r_iconst (v := (0 : Int32)) i_M_daresBy_12 rfl ?_
      refine r_istore_4 i_M_daresBy_13 (by rw [l_M_daresBy]; decide) rfl ?_
      refine l2 _ b (by omega) P 0 (by omega) x (fun z9 => ?_)
      have ih' := ih (b + 1) (by omega) (dbB M f P b x) z9 hx
      refine r_iinc_3 (v := (1 : Int32)) i_M_daresBy_69 rfl (by rw [l_M_daresBy]; decide) rfl ?_
      refine r_goto 4 i_M_daresBy_72 (by decide) ?_
      rw [nI_1]
      exact ih'
  refine r_iconst (v := (0 : Int32)) i_M_daresBy_0 rfl ?_
  refine r_istore_2 i_M_daresBy_1 (by rw [l_M_daresBy]; decide) rfl ?_
  refine r_iconst (v := (0 : Int32)) i_M_daresBy_2 rfl ?_
  refine r_istore_3 i_M_daresBy_3 (by rw [l_M_daresBy]; decide) rfl ?_
  exact l1 B 0 (by omega) 0 none rfl
end MRING
