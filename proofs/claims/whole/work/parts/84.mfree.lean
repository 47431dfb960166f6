-- THE REFERENCE: free
def smT (M : aM) (s b : Nat) (x : Int32) : Int32 := if hsB (nI s) (nI b) = true then x + gainN (tM M) b else x
def smM (M : aM) (s B : Nat) : Int32 := lpF (smT M s) B 0 0
def frT (M : aM) (B s : Nat) (x : Int32) : Int32 := if x < smM M s B ∧ ibF M (nI s) B 0 = false then smM M s B else x
section MFREE
variable {G : gE} {w : aW} {o n : Nat} {M : aM}
theorem c_M_free {B : Nat} (h : MW w o M n) (hB : M.1 13 = nI B) (hB7 : B ≤ 7) : Fn G 2 y_M_free [.ref o] w n (some (.int (lpF (frT M B) (2 ^ B) 0 0))) w := by
  obtain ⟨m0, mA', mL', m4, m20, m28, mn'⟩ := id h
  refine Fn.of k_M_free l_M_free rfl rfl ?_
  have hp7 := pow7 hB7
  have l2 : ∀ (post : Option Value → aW → Nat → Prop) (s : Nat) (y : Int32), ∀ m b, b + m = B → ∀ x : Int32, (∀ z : Option Value, Go G 2 y_M_free 56 [some (.ref o), some (.int y), some (.int (nI s)), some (.int (lpF (smT M s) m b x)), z] [] w n 0 0 post) → Go G 2 y_M_free 19 [some (.ref o), some (.int y), some (.int (nI s)), some (.int x), some (.int (nI b))] [] w n 0 0 post := by
    intro post s y m
    induction m with
    | zero =>
      intro b hb x hq
      have hb : b = B := by omega
      subst hb
      refine r_iload (i := 4) i_M_free_19 rfl ?_
      refine r_aload_n (i := 0) i_M_free_21 rfl rfl ?_
      refine r_getf (ci := 6) (T := Fk6) (k := 13) o_M_free i_M_free_22 x_M_80 rfl (by decide) rfl (by repeat (first | assumption | exact upw_s | refine (upw_n (by omega)).trans ?_)) (by first | assumption | omega) (by rfl) ?_
      refine r_icmp_ge 56 i_M_free_25 (by decide) (fun h25 => ?_) (fun h25 => (absurd (by rw [hB]; exact nI_le (Nat.le_refl _) (by omega)) h25))
      exact hq _
    | succ m ih =>
      intro b hb x hq
      have hq : ∀ z : Option Value, Go G 2 y_M_free 56 [some (.ref o), some (.int y), some (.int (nI s)), some (.int (lpF (smT M s) m (b + 1) (if hsB (nI s) (nI b) = true then x + gainN (tM M) b else x))), z] [] w n 0 0 post := hq
      have e8 : (!decide ((nI s >>> (nI b &&& 31)) &&& 1 = 0)) = hsB (nI s) (nI b) := rfl
      refine r_iload (i := 4) i_M_free_19 rfl ?_
      refine r_aload_n (i := 0) i_M_free_21 rfl rfl ?_
      refine r_getf (ci := 6) (T := Fk6) (k := 13) o_M_free i_M_free_22 x_M_80 rfl (by decide) rfl (by repeat (first | assumption | exact upw_s | refine (upw_n (by omega)).trans ?_)) (by first | assumption | omega) (by rfl) ?_
      refine r_icmp_ge 56 i_M_free_25 (by decide) (fun h25 => (absurd h25 (by rw [hB]; exact nI_ge (by omega) (by omega)))) (fun h25 => ?_)
      refine r_iload_n (i := 3) i_M_free_28 rfl rfl ?_
      refine r_iload_n (i := 2) i_M_free_29 rfl rfl ?_
      refine r_iload (i := 4) i_M_free_30 rfl ?_
      refine f_static o_M_free k_M_has s_M_has x_M_122 i_M_free_32 (c_M_has) rfl rfl (by decide) (Nat.le_of_ble_eq_true rfl) ?_
      rw [e8]
      refine r_if_eq 47 i_M_free_35 (by decide) (fun h35 => ?_) (fun h35 => ?_)
      · skip
        have h35 := bI_eq0.mp h35
        rw [if_neg (by rw [h35]; decide)] at hq
        refine r_iconst (v := (0 : Int32)) i_M_free_47 rfl ?_
        refine r_iadd i_M_free_48 ?_
        refine r_istore_3 i_M_free_49 (by rw [l_M_free]; decide) rfl ?_
        refine r_iinc_4 (v := (1 : Int32)) i_M_free_50 rfl (by rw [l_M_free]; decide) rfl ?_
        refine r_goto 19 i_M_free_53 (by decide) ?_
        rw [nI_1]
        first | exact ih (b + 1) (by omega) _ hq | (rw [Int32.add_zero]; exact ih (b + 1) (by omega) _ hq)
      · skip
        have h35 := bI_ne0.mp h35
        rw [if_pos h35] at hq
        refine r_aload_n (i := 0) i_M_free_38 rfl rfl ?_
        refine r_iload (i := 4) i_M_free_39 rfl ?_
        refine f_virtual o_M_free k_M_gains v_M_gains x_M_246 i_M_free_41 o_M_gains (c_M_gains h (by omega)) rfl (rcv_ob (by repeat (first | assumption | exact upw_s | refine (upw_n (by omega)).trans ?_)) rfl (by first | assumption | omega)) rfl (by decide) (Nat.le_of_ble_eq_true rfl) ?_
        refine r_goto 48 i_M_free_44 (by decide) ?_
        refine r_iadd i_M_free_48 ?_
        refine r_istore_3 i_M_free_49 (by rw [l_M_free]; decide) rfl ?_
        refine r_iinc_4 (v := (1 : Int32)) i_M_free_50 rfl (by rw [l_M_free]; decide) rfl ?_
        refine r_goto 19 i_M_free_53 (by decide) ?_
        rw [nI_1]
        first | exact ih (b + 1) (by omega) _ hq | (rw [Int32.add_zero]; exact ih (b + 1) (by omega) _ hq)
  have tail : ∀ (post : Option Value → aW → Nat → Prop) (s : Nat) (x v : Int32) (c : Bool) (z9 : Option Value), Fn G 1 y_M_isBarred [.ref o, .int (nI s)] w n (some (.int (bI c))) w → (∀ z8 : Option Value, Go G 2 y_M_free 4 [some (.ref o), some (.int (if x < v ∧ c = false then v else x)), some (.int (nI (s + 1))), z8, z9] [] w n 0 0 post) → Go G 2 y_M_free 56 [some (.ref o), some (.int x), some (.int (nI s)), some (.int v), z9] [] w n 0 0 post := by
    intro post s x v c z9 hib hq
    refine r_iload_n (i := 3) i_M_free_56 rfl rfl ?_
    refine r_iload_n (i := 1) i_M_free_57 rfl rfl ?_
    refine r_icmp_le 73 i_M_free_58 (by decide) (fun h58 => ?_) (fun h58 => ?_)
    · skip
      rw [if_neg (fun z => absurd z.1 (Int32.not_lt.mpr h58))] at hq
      refine r_iload_n (i := 1) i_M_free_73 rfl rfl ?_
      refine r_istore_1 i_M_free_74 (by rw [l_M_free]; decide) rfl ?_
      refine r_iinc_2 (v := (1 : Int32)) i_M_free_75 rfl (by rw [l_M_free]; decide) rfl ?_
      refine r_goto 4 i_M_free_78 (by decide) ?_
      rw [nI_1]
      exact hq _
    · skip
      refine r_aload_n (i := 0) i_M_free_61 rfl rfl ?_
      refine r_iload_n (i := 2) i_M_free_62 rfl rfl ?_
      refine f_virtual o_M_free k_M_isBarred v_M_isBarred x_M_310 i_M_free_63 o_M_isBarred (hib) rfl (rcv_ob (by repeat (first | assumption | exact upw_s | refine (upw_n (by omega)).trans ?_)) rfl (by first | assumption | omega)) rfl (by decide) (Nat.le_of_ble_eq_true rfl) ?_
      refine r_if_ne 73 i_M_free_66 (by decide) (fun h66 => ?_) (fun h66 => ?_)
      · skip
        have h66 := bI_ne0.mp h66
        rw [if_neg (fun z => by rw [h66] at z; exact absurd z.2 (by decide))] at hq
        refine r_iload_n (i := 1) i_M_free_73 rfl rfl ?_
        refine r_istore_1 i_M_free_74 (by rw [l_M_free]; decide) rfl ?_
        refine r_iinc_2 (v := (1 : Int32)) i_M_free_75 rfl (by rw [l_M_free]; decide) rfl ?_
        refine r_goto 4 i_M_free_78 (by decide) ?_
        rw [nI_1]
        exact hq _
      · skip
        have h66 := bI_eq0.mp h66
        rw [if_pos ⟨Int32.not_le.mp h58, h66⟩] at hq
        refine r_iload_n (i := 3) i_M_free_69 rfl rfl ?_
        refine r_goto 74 i_M_free_70 (by decide) ?_
        refine r_istore_1 i_M_free_74 (by rw [l_M_free]; decide) rfl ?_
        refine r_iinc_2 (v := (1 : Int32)) i_M_free_75 rfl (by rw [l_M_free]; decide) rfl ?_
        refine r_goto 4 i_M_free_78 (by decide) ?_
        rw [nI_1]
        exact hq _
  have l1 : ∀ m s, s + m = 2 ^ B → ∀ (x : Int32) (z z2 : Option Value), lpF (frT M B) m s x = lpF (frT M B) (2 ^ B) 0 0 → Go G 2 y_M_free 4 [some (.ref o), some (.int x), some (.int (nI s)), z2, z] [] w n 0 0 (fun r1 w1 n1 => r1 = some (.int (lpF (frT M B) (2 ^ B) 0 0)) ∧ w1 = w ∧ n1 = n) := by
    intro m
    induction m with
    | zero =>
      intro s hs x z z2 hx
      have hs : s = 2 ^ B := by omega
      subst hs
      have hx : x = _ := hx
      refine r_iload_n (i := 2) i_M_free_4 rfl rfl ?_
      refine r_iconst (v := (1 : Int32)) i_M_free_5 rfl ?_
      refine r_aload_n (i := 0) i_M_free_6 rfl rfl ?_
      refine r_getf (ci := 6) (T := Fk6) (k := 13) o_M_free i_M_free_7 x_M_80 rfl (by decide) rfl (by repeat (first | assumption | exact upw_s | refine (upw_n (by omega)).trans ?_)) (by first | assumption | omega) (by rfl) ?_
      refine r_ishl i_M_free_10 ?_
      rw [hB, b1_pow B hB7]
      refine r_icmp_ge 81 i_M_free_11 (by decide) (fun h11 => ?_) (fun h11 => (absurd (nI_le (Nat.le_refl _) (by omega)) h11))
      refine r_iload_n (i := 1) i_M_free_81 rfl rfl ?_
      refine r_ireturn i_M_free_82 t_M_free rfl ?_
      exact ⟨by rw [← hx], rfl, rfl⟩
    | succ m ih =>
      intro s hs x z z2 hx
      have hx : lpF (frT M B) m (s + 1) (if x < smM M s B ∧ ibF M (nI s) B 0 = false then smM M s B else x) = _ := hx
      refine r_iload_n (i := 2) i_M_free_4 rfl rfl ?_
      refine r_iconst (v := (1 : Int32)) i_M_free_5 rfl ?_
      refine r_aload_n (i := 0) i_M_free_6 rfl rfl ?_
      refine r_getf (ci := 6) (T := Fk6) (k := 13) o_M_free i_M_free_7 x_M_80 rfl (by decide) rfl (by repeat (first | assumption | exact upw_s | refine (upw_n (by omega)).trans ?_)) (by first | assumption | omega) (by rfl) ?_
      refine r_ishl i_M_free_10 ?_
      rw [hB, b1_pow B hB7]
      refine r_icmp_ge 81 i_M_free_11 (by decide) (fun h11 => (absurd h11 (nI_ge (by omega) (by omega)))) (fun h11 => ?_)
      refine r_iconst (v := (0 : Int32)) i_M_free_14 rfl ?_
      refine r_istore_3 i_M_free_15 (by rw [l_M_free]; decide) rfl ?_
      refine r_iconst (v := (0 : Int32)) i_M_free_16 rfl ?_
      refine r_istore_4 i_M_free_17 (by rw [l_M_free]; decide) rfl ?_
      refine l2 _ s x B 0 (by omega) 0 (fun z9 => ?_)
      change Go G 2 y_M_free 56 [some (.ref o), some (.int x), some (.int (nI s)), some (.int (smM M s B)), z9] [] w n 0 0 _
      have hib := c_M_isBarred (G := G) (x := nI s) h hB hB7
      generalize smM M s B = v at *
      generalize ibF M (nI s) B 0 = c at *
      refine tail _ s x v c z9 hib ?_
      exact fun z8 => ih (s + 1) (by omega) _ z9 z8 hx
  refine r_iconst (v := (0 : Int32)) i_M_free_0 rfl ?_
  refine r_istore_1 i_M_free_1 (by rw [l_M_free]; decide) rfl ?_
  refine r_iconst (v := (0 : Int32)) i_M_free_2 rfl ?_
  refine r_istore_2 i_M_free_3 (by rw [l_M_free]; decide) rfl ?_
  exact l1 (2 ^ B) 0 (by omega) 0 none none rfl
end MFREE
