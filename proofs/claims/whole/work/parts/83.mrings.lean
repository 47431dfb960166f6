-- THE REFERENCE: rings
def PMk (M : aM) (B : Nat) : Prop := ∀ c, c < B → ∃ p q, p < 7 ∧ q < 7 ∧ M.2.1 (21 + c) 0 = nI p ∧ M.2.1 (21 + c) 1 = nI q
def pfN (M : aM) (b c : Nat) : Int32 := pfM M b (M.2.1 (21 + c) 0).toNatClampNeg (M.2.1 (21 + c) 1).toNatClampNeg
def rgM (M : aM) (a b c : Nat) : Bool := !decide (pfN M a b = -1) && (!decide (pfN M b c = -1) && !decide (pfN M c a = -1))
section MRINGS
variable {G : gE} {w : aW} {o n : Nat} {M : aM}
theorem c_M_partyForN {b c B : Nat} (h : MW w o M n) (hk : PMk M B) (hB7 : B ≤ 7) (hb : b < 7) (hc : c < B) : Fn G 2 y_M_partyFor [.ref o, .int (nI b), .int (nI c)] w n (some (.int (pfN M b c))) w := by
  obtain ⟨p, q, hp, hq, ep, eq⟩ := hk c hc
  unfold pfN
  rw [ep, eq, nI_clamp (by omega), nI_clamp (by omega)]
  exact c_M_partyFor h hb (by omega) hp hq ep eq
theorem c_M_isRing {a b c B : Nat} (h : MW w o M n) (hk : PMk M B) (hB7 : B ≤ 7) (ha : a < B) (hb : b < B) (hc : c < B) : Fn G 3 y_M_isRing [.ref o, .int (nI a), .int (nI b), .int (nI c)] w n (some (.int (bI (rgM M a b c)))) w := by
  obtain ⟨m0, mA', mL', m4, m20, m28, mn'⟩ := id h
  refine Fn.of k_M_isRing l_M_isRing rfl rfl ?_
  unfold rgM
  refine r_aload_n (i := 0) i_M_isRing_0 rfl rfl ?_
  refine r_iload_n (i := 1) i_M_isRing_1 rfl rfl ?_
  refine r_iload_n (i := 2) i_M_isRing_2 rfl rfl ?_
  refine f_virtual o_M_isRing k_M_partyFor v_M_partyFor x_M_313 i_M_isRing_3 o_M_partyFor (c_M_partyForN h hk hB7 (by omega) hb) rfl (rcv_ob (by repeat (first | assumption | exact upw_s | refine (upw_n (by omega)).trans ?_)) rfl (by first | assumption | omega)) rfl (by decide) (Nat.le_of_ble_eq_true rfl) ?_
  refine r_iconst (v := (-1 : Int32)) i_M_isRing_6 rfl ?_
  refine r_icmp_eq 34 i_M_isRing_7 (by decide) (fun h7 => ?_) (fun h7 => ?_)
  · skip
    rw [decide_eq_true h7]
    refine r_iconst (v := (0 : Int32)) i_M_isRing_34 rfl ?_
    refine r_ireturn i_M_isRing_35 t_M_isRing (by first | rfl | exact nar_bI _) ?_
    exact ⟨rfl, rfl, rfl⟩
  · skip
    rw [decide_eq_false h7]
    refine r_aload_n (i := 0) i_M_isRing_10 rfl rfl ?_
    refine r_iload_n (i := 2) i_M_isRing_11 rfl rfl ?_
    refine r_iload_n (i := 3) i_M_isRing_12 rfl rfl ?_
    refine f_virtual o_M_isRing k_M_partyFor v_M_partyFor x_M_313 i_M_isRing_13 o_M_partyFor (c_M_partyForN h hk hB7 (by omega) hc) rfl (rcv_ob (by repeat (first | assumption | exact upw_s | refine (upw_n (by omega)).trans ?_)) rfl (by first | assumption | omega)) rfl (by decide) (Nat.le_of_ble_eq_true rfl) ?_
    refine r_iconst (v := (-1 : Int32)) i_M_isRing_16 rfl ?_
    refine r_icmp_eq 34 i_M_isRing_17 (by decide) (fun h17 => ?_) (fun h17 => ?_)
    · skip
      rw [decide_eq_true h17]
      refine r_iconst (v := (0 : Int32)) i_M_isRing_34 rfl ?_
      refine r_ireturn i_M_isRing_35 t_M_isRing (by first | rfl | exact nar_bI _) ?_
      exact ⟨rfl, rfl, rfl⟩
    · skip
      rw [decide_eq_false h17]
      refine r_aload_n (i := 0) i_M_isRing_20 rfl rfl ?_
      refine r_iload_n (i := 3) i_M_isRing_21 rfl rfl ?_
      refine r_iload_n (i := 1) i_M_isRing_22 rfl rfl ?_
      refine f_virtual o_M_isRing k_M_partyFor v_M_partyFor x_M_313 i_M_isRing_23 o_M_partyFor (c_M_partyForN h hk hB7 (by omega) ha) rfl (rcv_ob (by repeat (first | assumption | exact upw_s | refine (upw_n (by omega)).trans ?_)) rfl (by first | assumption | omega)) rfl (by decide) (Nat.le_of_ble_eq_true rfl) ?_
      refine r_iconst (v := (-1 : Int32)) i_M_isRing_26 rfl ?_
      refine r_icmp_eq 34 i_M_isRing_27 (by decide) (fun h27 => ?_) (fun h27 => ?_)
      · skip
        rw [decide_eq_true h27]
        refine r_iconst (v := (0 : Int32)) i_M_isRing_34 rfl ?_
        refine r_ireturn i_M_isRing_35 t_M_isRing (by first | rfl | exact nar_bI _) ?_
        exact ⟨rfl, rfl, rfl⟩
      · skip
        rw [decide_eq_false h27]
        refine r_iconst (v := (1 : Int32)) i_M_isRing_30 rfl ?_
        refine r_goto 35 i_M_isRing_31 (by decide) ?_
        refine r_ireturn i_M_isRing_35 t_M_isRing (by first | rfl | exact nar_bI _) ?_
        exact ⟨rfl, rfl, rfl⟩
def rn1M (M : aM) (a b c : Nat) (x : Int32) : Int32 := if rgM M a b c || rgM M a c b then x + 1 else x
def rn2M (M : aM) (B a b : Nat) (x : Int32) : Int32 := lpF (rn1M M a b) (B - (b + 1)) (b + 1) x
def rn3M (M : aM) (B a : Nat) (x : Int32) : Int32 := lpF (rn2M M B a) (B - (a + 1)) (a + 1) x
theorem c_M_rings {B : Nat} (h : MW w o M n) (hk : PMk M B) (hB : M.1 13 = nI B) (hB7 : B ≤ 7) : Fn G 4 y_M_rings [.ref o] w n (some (.int (lpF (rn3M M B) B 0 0))) w := by
  obtain ⟨m0, mA', mL', m4, m20, m28, mn'⟩ := id h
  refine Fn.of k_M_rings l_M_rings rfl rfl ?_
  have l3 : ∀ (post : Option Value → aW → Nat → Prop) (a b : Nat), a < B → b < B → ∀ m c, c + m = B → ∀ x : Int32, (∀ (z : Option Value), Go G 4 y_M_rings 74 [some (.ref o), some (.int (lpF (rn1M M a b) m c x)), some (.int (nI a)), some (.int (nI b)), z] [] w n 0 0 post) → Go G 4 y_M_rings 29 [some (.ref o), some (.int x), some (.int (nI a)), some (.int (nI b)), some (.int (nI c))] [] w n 0 0 post := by
    intro post a b ha hb m
    induction m with
    | zero =>
      intro c hc x hq
      have hc : c = B := by omega
      subst hc
      refine r_iload (i := 4) i_M_rings_29 rfl ?_
      refine r_aload_n (i := 0) i_M_rings_31 rfl rfl ?_
      refine r_getf (ci := 6) (T := Fk6) (k := 13) o_M_rings i_M_rings_32 x_M_80 rfl (by decide) rfl (by repeat (first | assumption | exact upw_s | refine (upw_n (by omega)).trans ?_)) (by first | assumption | omega) (by rfl) ?_
      refine r_icmp_ge 74 i_M_rings_35 (by decide) (fun h35 => ?_) (fun h35 => (absurd (by rw [hB]; exact nI_le (Nat.le_refl _) (by omega)) h35))
      exact hq _
    | succ m ih =>
      intro c hc x hq
      have hq : ∀ (z : Option Value), Go G 4 y_M_rings 74 [some (.ref o), some (.int (lpF (rn1M M a b) m (c + 1) (if (rgM M a b c || rgM M a c b) = true then x + 1 else x))), some (.int (nI a)), some (.int (nI b)), z] [] w n 0 0 post := hq
      refine r_iload (i := 4) i_M_rings_29 rfl ?_
      refine r_aload_n (i := 0) i_M_rings_31 rfl rfl ?_
      refine r_getf (ci := 6) (T := Fk6) (k := 13) o_M_rings i_M_rings_32 x_M_80 rfl (by decide) rfl (by repeat (first | assumption | exact upw_s | refine (upw_n (by omega)).trans ?_)) (by first | assumption | omega) (by rfl) ?_
      refine r_icmp_ge 74 i_M_rings_35 (by decide) (fun h35 => (absurd h35 (by rw [hB]; exact nI_ge (by omega) (by omega)))) (fun h35 => ?_)
      refine r_iload_n (i := 1) i_M_rings_38 rfl rfl ?_
      refine r_aload_n (i := 0) i_M_rings_39 rfl rfl ?_
      refine r_iload_n (i := 2) i_M_rings_40 rfl rfl ?_
      refine r_iload_n (i := 3) i_M_rings_41 rfl rfl ?_
      refine r_iload (i := 4) i_M_rings_42 rfl ?_
      refine f_virtual o_M_rings k_M_isRing v_M_isRing x_M_316 i_M_rings_44 o_M_isRing (c_M_isRing h hk hB7 ha hb (by omega)) rfl (rcv_ob (by repeat (first | assumption | exact upw_s | refine (upw_n (by omega)).trans ?_)) rfl (by first | assumption | omega)) rfl (by decide) (Nat.le_of_ble_eq_true rfl) ?_
      refine r_if_ne 61 i_M_rings_47 (by decide) (fun h47 => ?_) (fun h47 => ?_)
      · skip
        have h47 := bI_ne0.mp h47
        rw [if_pos (by rw [h47]; rfl)] at hq
        refine r_iconst (v := (1 : Int32)) i_M_rings_61 rfl ?_
        refine r_goto 66 i_M_rings_62 (by decide) ?_
        refine r_iadd i_M_rings_66 ?_
        refine r_istore_1 i_M_rings_67 (by rw [l_M_rings]; decide) rfl ?_
        refine r_iinc_4 (v := (1 : Int32)) i_M_rings_68 rfl (by rw [l_M_rings]; decide) rfl ?_
        refine r_goto 29 i_M_rings_71 (by decide) ?_
        rw [nI_1]
        first | exact ih (c + 1) (by omega) _ hq | (rw [Int32.add_zero]; exact ih (c + 1) (by omega) _ hq)
      · skip
        have h47 := bI_eq0.mp h47
        refine r_aload_n (i := 0) i_M_rings_50 rfl rfl ?_
        refine r_iload_n (i := 2) i_M_rings_51 rfl rfl ?_
        refine r_iload (i := 4) i_M_rings_52 rfl ?_
        refine r_iload_n (i := 3) i_M_rings_54 rfl rfl ?_
        refine f_virtual o_M_rings k_M_isRing v_M_isRing x_M_316 i_M_rings_55 o_M_isRing (c_M_isRing h hk hB7 ha (by omega) hb) rfl (rcv_ob (by repeat (first | assumption | exact upw_s | refine (upw_n (by omega)).trans ?_)) rfl (by first | assumption | omega)) rfl (by decide) (Nat.le_of_ble_eq_true rfl) ?_
        refine r_if_eq 65 i_M_rings_58 (by decide) (fun h58 => ?_) (fun h58 => ?_)
        · skip
          have h58 := bI_eq0.mp h58
          rw [if_neg (by rw [h47, h58]; decide)] at hq
          refine r_iconst (v := (0 : Int32)) i_M_rings_65 rfl ?_
          refine r_iadd i_M_rings_66 ?_
          refine r_istore_1 i_M_rings_67 (by rw [l_M_rings]; decide) rfl ?_
          refine r_iinc_4 (v := (1 : Int32)) i_M_rings_68 rfl (by rw [l_M_rings]; decide) rfl ?_
          refine r_goto 29 i_M_rings_71 (by decide) ?_
          rw [nI_1]
          first | exact ih (c + 1) (by omega) _ hq | (rw [Int32.add_zero]; exact ih (c + 1) (by omega) _ hq)
        · skip
          have h58 := bI_ne0.mp h58
          rw [if_pos (by rw [h47, h58]; rfl)] at hq
          refine r_iconst (v := (1 : Int32)) i_M_rings_61 rfl ?_
          refine r_goto 66 i_M_rings_62 (by decide) ?_
          refine r_iadd i_M_rings_66 ?_
          refine r_istore_1 i_M_rings_67 (by rw [l_M_rings]; decide) rfl ?_
          refine r_iinc_4 (v := (1 : Int32)) i_M_rings_68 rfl (by rw [l_M_rings]; decide) rfl ?_
          refine r_goto 29 i_M_rings_71 (by decide) ?_
          rw [nI_1]
          first | exact ih (c + 1) (by omega) _ hq | (rw [Int32.add_zero]; exact ih (c + 1) (by omega) _ hq)
  have l2 : ∀ (post : Option Value → aW → Nat → Prop) (a : Nat), a < B → ∀ m b, b + m = B → ∀ (x : Int32) (z : Option Value), (∀ (z z2 : Option Value), Go G 4 y_M_rings 80 [some (.ref o), some (.int (lpF (rn2M M B a) m b x)), some (.int (nI a)), z2, z] [] w n 0 0 post) → Go G 4 y_M_rings 16 [some (.ref o), some (.int x), some (.int (nI a)), some (.int (nI b)), z] [] w n 0 0 post := by
    intro post a ha m
    induction m with
    | zero =>
      intro b hb x z hq
      have hb : b = B := by omega
      subst hb
      refine r_iload_n (i := 3) i_M_rings_16 rfl rfl ?_
      refine r_aload_n (i := 0) i_M_rings_17 rfl rfl ?_
      refine r_getf (ci := 6) (T := Fk6) (k := 13) o_M_rings i_M_rings_18 x_M_80 rfl (by decide) rfl (by repeat (first | assumption | exact upw_s | refine (upw_n (by omega)).trans ?_)) (by first | assumption | omega) (by rfl) ?_
      refine r_icmp_ge 80 i_M_rings_21 (by decide) (fun h21 => ?_) (fun h21 => (absurd (by rw [hB]; exact nI_le (Nat.le_refl _) (by omega)) h21))
      exact hq _ _
    | succ m ih =>
      intro b hb x z hq
      have hq : ∀ (z z2 : Option Value), Go G 4 y_M_rings 80 [some (.ref o), some (.int (lpF (rn2M M B a) m (b + 1) (rn2M M B a b x))), some (.int (nI a)), z2, z] [] w n 0 0 post := hq
      refine r_iload_n (i := 3) i_M_rings_16 rfl rfl ?_
      refine r_aload_n (i := 0) i_M_rings_17 rfl rfl ?_
      refine r_getf (ci := 6) (T := Fk6) (k := 13) o_M_rings i_M_rings_18 x_M_80 rfl (by decide) rfl (by repeat (first | assumption | exact upw_s | refine (upw_n (by omega)).trans ?_)) (by first | assumption | omega) (by rfl) ?_
      refine r_icmp_ge 80 i_M_rings_21 (by decide) (fun h21 => (absurd h21 (by rw [hB]; exact nI_ge (by omega) (by omega)))) (fun h21 => ?_)
      refine r_iload_n (i := 3) i_M_rings_24 rfl rfl ?_
      refine r_iconst (v := (1 : Int32)) i_M_rings_25 rfl ?_
      refine r_iadd i_M_rings_26 ?_
      refine r_istore_4 i_M_rings_27 (by rw [l_M_rings]; decide) rfl ?_
      rw [nI_1]
      refine l3 _ a b ha (by omega) (B - (b + 1)) (b + 1) (by omega) x (fun z9 => ?_)
      have ih' := ih (b + 1) (by omega) (rn2M M B a b x) z9 hq
      refine r_iinc_3 (v := (1 : Int32)) i_M_rings_74 rfl (by rw [l_M_rings]; decide) rfl ?_
      refine r_goto 16 i_M_rings_77 (by decide) ?_
      rw [nI_1]
      exact ih'
  have l1 : ∀ m a, a + m = B → ∀ (x : Int32) (z z2 : Option Value), lpF (rn3M M B) m a x = lpF (rn3M M B) B 0 0 → Go G 4 y_M_rings 4 [some (.ref o), some (.int x), some (.int (nI a)), z2, z] [] w n 0 0 (fun r1 w1 n1 => r1 = some (.int (lpF (rn3M M B) B 0 0)) ∧ w1 = w ∧ n1 = n) := by
    intro m
    induction m with
    | zero =>
      intro a ha x z z2 hx
      have ha : a = B := by omega
      subst ha
      have hx : x = _ := hx
      refine r_iload_n (i := 2) i_M_rings_4 rfl rfl ?_
      refine r_aload_n (i := 0) i_M_rings_5 rfl rfl ?_
      refine r_getf (ci := 6) (T := Fk6) (k := 13) o_M_rings i_M_rings_6 x_M_80 rfl (by decide) rfl (by repeat (first | assumption | exact upw_s | refine (upw_n (by omega)).trans ?_)) (by first | assumption | omega) (by rfl) ?_
      refine r_icmp_ge 86 i_M_rings_9 (by decide) (fun h9 => ?_) (fun h9 => (absurd (by rw [hB]; exact nI_le (Nat.le_refl _) (by omega)) h9))
      refine r_iload_n (i := 1) i_M_rings_86 rfl rfl ?_
      refine r_ireturn i_M_rings_87 t_M_rings rfl ?_
      exact ⟨by rw [← hx], rfl, rfl⟩
    | succ m ih =>
      intro a ha x z z2 hx
      have hx : lpF (rn3M M B) m (a + 1) (rn3M M B a x) = _ := hx
      refine r_iload_n (i := 2) i_M_rings_4 rfl rfl ?_
      refine r_aload_n (i := 0) i_M_rings_5 rfl rfl ?_
      refine r_getf (ci := 6) (T := Fk6) (k := 13) o_M_rings i_M_rings_6 x_M_80 rfl (by decide) rfl (by repeat (first | assumption | exact upw_s | refine (upw_n (by omega)).trans ?_)) (by first | assumption | omega) (by rfl) ?_
      refine r_icmp_ge 86 i_M_rings_9 (by decide) (fun h9 => (absurd h9 (by rw [hB]; exact nI_ge (by omega) (by omega)))) (fun h9 => ?_)
      refine r_iload_n (i := 2) i_M_rings_12 rfl rfl ?_
      refine r_iconst (v := (1 : Int32)) i_M_rings_13 rfl ?_
      refine r_iadd i_M_rings_14 ?_
      refine r_istore_3 i_M_rings_15 (by rw [l_M_rings]; decide) rfl ?_
      rw [nI_1]
      refine l2 _ a (by omega) (B - (a + 1)) (a + 1) (by omega) x _ (fun z9 z8 => ?_)
      have ih' := ih (a + 1) (by omega) (rn3M M B a x) z9 z8 hx
      refine r_iinc_2 (v := (1 : Int32)) i_M_rings_80 rfl (by rw [l_M_rings]; decide) rfl ?_
      refine r_goto 4 i_M_rings_83 (by decide) ?_
      rw [nI_1]
      exact ih'
  refine r_iconst (v := (0 : Int32)) i_M_rings_0 rfl ?_
  refine r_istore_1 i_M_rings_1 (by rw [l_M_rings]; decide) rfl ?_
  refine r_iconst (v := (0 : Int32)) i_M_rings_2 rfl ?_
  refine r_istore_2 i_M_rings_3 (by rw [l_M_rings]; decide) rfl ?_
  exact l1 B 0 (by omega) 0 none none rfl
end MRINGS
