-- SEARCH: the greatest key, and what is told of it
def wy0 : Nat → Int64 := fun j => if j = 0 then 0 else NOW
def costT (fl : Int32) (c : Nat) : Int32 := if fl = 0 then 128 + b1 c else 0
def oftF (S : aS) : Int32 := if S.1 3 = 0 then 1 else 0
def gdN (S : aS) (B c : Nat) : Nat → Nat
  | 0 => 0
  | b + 1 => if gd S b c then gdN S B c b + 2 ^ b else gdN S B c b
def wyT (S : aS) (B : Nat) (who fl : Int32) : Nat → Nat → Int64
  | 0 => wy0
  | c + 1 => if hbI who (nI c) then (fun j => mx (wyT S B who fl c j) (nmT (apS S) (gdN S B c B) (costT fl c) (oftF S) (keyF S c fl) (wyT S B who fl c) (2 ^ B) j)) else wyT S B who fl c
def mxF (f : Nat → Int64) : Nat → Int64
  | 0 => 0
  | i + 1 => mx (mxF f i) (f i)
def gkey (S : aS) (B P : Nat) (who fl : Int32) : Int64 := mxF (wyT S B who fl P) (2 ^ B)
theorem gdN_lt {S : aS} {B c : Nat} : ∀ b, gdN S B c b < 2 ^ b
  | 0 => Nat.pow_pos (by decide)
  | b + 1 => by
    have ih := gdN_lt (S := S) (B := B) (c := c) b
    unfold gdN
    rw [Nat.pow_succ]
    split <;> omega
theorem b1_nI : ∀ b, b < 7 → b1 b = nI (2 ^ b) := by decide
theorem or_add {x b : Nat} (h : x < 2 ^ b) : nI x ||| nI (2 ^ b) = nI (x + 2 ^ b) := by
  have e : x + 2 ^ b = x ||| 2 ^ b := by
    have h9 := Nat.two_pow_add_eq_or_of_lt h 1
    rw [Nat.mul_one] at h9
    rw [Nat.add_comm, h9, Nat.or_comm]
  rw [e]
  apply Int32.toBitVec_inj.1
  show BitVec.ofNat 32 x ||| BitVec.ofNat 32 (2 ^ b) = BitVec.ofNat 32 (x ||| 2 ^ b)
  apply BitVec.eq_of_getLsbD_eq
  intro i hi
  simp [hi]
theorem bits_gdN {S : aS} {B c : Nat} : ∀ b, b ≤ 7 → bitsOf (fun b => gd S b c) b = nI (gdN S B c b)
  | 0, _ => rfl
  | b + 1, hb => by
    have ih := bits_gdN (S := S) (B := B) (c := c) b (by omega)
    unfold bitsOf gdN
    split
    · rw [ih, b1_nI b (by omega), or_add (gdN_lt b)]
    · exact ih
theorem nmT_cong {apb apb' : Nat → Bool} {g : Nat} {cost fl : Int32} {ky ky' wy wy' : Nat → Int64} {N : Nat} (hN : ∀ j, j < N → apb j = apb' j) (hw : ∀ j, j < N → wy j = wy' j) (hk : ∀ i b, i < N → i.testBit b = true → ky b = ky' b) : ∀ i, i ≤ N → ∀ j, nmT apb g cost fl ky wy i j = nmT apb' g cost fl ky' wy' i j
  | 0, _, _ => rfl
  | i + 1, hi, j => by
    have ih := nmT_cong (g := g) (cost := cost) (fl := fl) hN hw hk i (by omega)
    have e0 : nmT apb g cost fl ky wy i = nmT apb' g cost fl ky' wy' i := funext ih
    have e1 : opF apb g i = opF apb' g i := by unfold opF; rw [hN i (by omega)]
    have e2 : ∀ m, accF (opF apb' g i) (fun b => wayF wy cost fl (nmT apb' g cost fl ky' wy' i) (clrB i b)) ky m = accF (opF apb' g i) (fun b => wayF wy' cost fl (nmT apb' g cost fl ky' wy' i) (clrB i b)) ky' m := by
      intro m
      induction m with
      | zero => rfl
      | succ m ihm =>
        unfold accF
        rw [ihm]
        split
        · rename_i h9
          rw [hk i m (by omega) (opF_sub h9)]
          unfold wayF
          rw [hw _ (Nat.lt_of_le_of_lt (clrB_le i m) (by omega))]
        · rfl
    unfold nmT
    rw [e0, e1, e2 7]
section KEY
variable {G : gE} {w : aW} {n k t : Nat} {Z : aZ} {S : aS}
theorem c_E_greatestKey {B P : Nat} {who fl : Int32} (hZ : EW w k Z n) (hT : TW w t S n) (hd : k + 5 < t ∨ t + 8 < k) (hP : S.1 0 = nI P) (hP7 : P ≤ 7) (hB : S.1 1 = nI B) (hB7 : B ≤ 7) : Mt G 4 y_E_greatestKey [.ref k, .ref t, .int who, .int fl] w n 0 0 (fun r w' n' => r = some (.long (gkey S B P who fl)) ∧ ((∃ Z' : aZ, EW w' k Z' n) ∧ eFr w w' k) ∧ n' = n) := by
  have hp := pow7 hB7
  have hp0 : 0 < 2 ^ B := Nat.pow_pos (by decide)
  have hl3 : ∀ m i : Nat, i + m = 2 ^ B → ∀ (Y : aZ) (w1 : aW), EW w1 k Y n → (∀ j, j < 2 ^ B → Y.2.1 j = wyT S B who fl P j) → eFr w w1 k → Go G 4 y_E_greatestKey 125 [some (.ref k), some (.ref t), some (.int who), some (.int fl), some (.int (nI (2 ^ B))), some (.long (mxF (wyT S B who fl P) i)), none, some (.int (nI i))] [] w1 n 0 0 (fun r w' n' => r = some (.long (gkey S B P who fl)) ∧ ((∃ Z' : aZ, EW w' k Z' n) ∧ eFr w w' k) ∧ n' = n) := by
    intro m
    induction m with
    | zero =>
      intro i hi Y w1 hZ1 hy hF1
      have hi : i = 2 ^ B := by omega
      subst hi
      refine r_iload (i := 7) i_E_greatestKey_125 rfl ?_
      refine r_iload (i := 4) i_E_greatestKey_127 rfl ?_
      refine r_icmp_ge 152 i_E_greatestKey_129 (by decide) (fun h129 => ?_) (fun h129 => (absurd (Int32.le_refl _) h129))
      refine r_lload (i := 5) i_E_greatestKey_152 rfl ?_
      refine r_lreturn i_E_greatestKey_154 t_E_greatestKey ?_
      exact ⟨rfl, ⟨⟨_, hZ1⟩, hF1⟩, rfl⟩
    | succ m ih =>
      intro i hi Y w1 hZ1 hy hF1
      have hZ0 := hZ1
      obtain ⟨g0, g1, g2, g3, g4, g5, hn⟩ := hZ1
      have c2 : (nI i).toNatClampNeg = i := nI_clamp (by omega)
      refine r_iload (i := 7) i_E_greatestKey_125 rfl ?_
      refine r_iload (i := 4) i_E_greatestKey_127 rfl ?_
      refine r_icmp_ge 152 i_E_greatestKey_129 (by decide) (fun h129 => (absurd h129 (nI_ge (by omega) (by omega)))) (fun h129 => ?_)
      refine r_lload (i := 5) i_E_greatestKey_132 rfl ?_
      refine r_aload_n (i := 0) i_E_greatestKey_134 rfl rfl ?_
      refine r_getf (ci := 5) (T := Fk5) (k := 1) o_E_greatestKey i_E_greatestKey_135 x_E_17 rfl (by decide) rfl (by repeat (first | assumption | exact upw_s | refine (upw_n (by omega)).trans ?_)) (by first | assumption | omega) (by rfl) ?_
      refine r_iload (i := 7) i_E_greatestKey_138 rfl ?_
      refine r_lald i_E_greatestKey_140 (by repeat (first | assumption | exact upw_s | refine (upw_n (by omega)).trans ?_)) (by first | assumption | omega) (vp_in_nI (by omega) (by decide)) ?_
      rw [c2, hy i (by omega)]
      refine f_static o_E_greatestKey k_JM_max s_JM_max x_E_125 i_E_greatestKey_141 (c_JM_max) rfl rfl (by decide) (Nat.le_of_ble_eq_true rfl) ?_
      refine r_lstore_5 i_E_greatestKey_144 (by rw [l_E_greatestKey]; decide) rfl ?_
      refine r_iinc_7 (v := (1 : Int32)) i_E_greatestKey_146 rfl (by rw [l_E_greatestKey]; decide) rfl ?_
      refine r_goto 125 i_E_greatestKey_149 (by decide) ?_
      rw [nI_1]
      exact ih (i + 1) (by omega) Y w1 hZ0 hy hF1
  have hl2 : ∀ m c : Nat, c + m = P → ∀ (ap : Nat → Int32) (wy wn ky : Nat → Int64) (W : Nat → Int32) (w1 : aW), EW w1 k (ap, wy, wn, ky, W) n → (∀ j, j < 2 ^ B → ap j = bI (apS S j)) → (∀ j, j < 2 ^ B → wy j = wyT S B who fl c j) → eFr w w1 k → Go G 4 y_E_greatestKey 43 [some (.ref k), some (.ref t), some (.int who), some (.int fl), some (.int (nI (2 ^ B))), some (.int (nI c)), none, none] [] w1 n 0 0 (fun r w' n' => r = some (.long (gkey S B P who fl)) ∧ ((∃ Z' : aZ, EW w' k Z' n) ∧ eFr w w' k) ∧ n' = n) := by
    intro m
    induction m with
    | zero =>
      intro c hc ap wy wn ky W w1 hZ1 hap hy hF1
      have hc : c = P := by omega
      subst hc
      have hT1 : TW w1 t S n := hT.fr (fun j q1 q2 => hF1 j (by omega))
      obtain ⟨e0, e1, e2, e3, e4, e5, e6, e7, e8, hm⟩ := hT1
      refine r_iload (i := 5) i_E_greatestKey_43 rfl ?_
      refine r_aload_n (i := 1) i_E_greatestKey_45 rfl rfl ?_
      refine r_getfN (ci := 1) (T := Fk1) (k := 0) o_E_greatestKey i_E_greatestKey_46 x_E_108 rfl (by decide) rfl (by repeat (first | assumption | exact upw_s | refine (upw_n (by omega)).trans ?_)) (by first | assumption | omega) (by rfl) ?_
      refine r_icmp_ge 119 i_E_greatestKey_49 (by decide) (fun h49 => ?_) (fun h49 => (absurd (by rw [hP]; exact Int32.le_refl _) h49))
      refine r_lconst (v := (0 : Int64)) i_E_greatestKey_119 rfl ?_
      refine r_lstore_5 i_E_greatestKey_120 (by rw [l_E_greatestKey]; decide) rfl ?_
      refine r_iconst (v := (0 : Int32)) i_E_greatestKey_122 rfl ?_
      refine r_istore_7 i_E_greatestKey_123 (by rw [l_E_greatestKey]; decide) rfl ?_
      exact hl3 (2 ^ B) 0 (by omega) _ w1 hZ1 hy hF1
    | succ m ih =>
      intro c hc ap wy wn ky W w1 hZ1 hap hy hF1
      have hT1 : TW w1 t S n := hT.fr (fun j q1 q2 => hF1 j (by omega))
      have hT0 := hT1
      have hZ0 := hZ1
      obtain ⟨e0, e1, e2, e3, e4, e5, e6, e7, e8, hm⟩ := hT1
      obtain ⟨g0, g1, g2, g3, g4, g5, hn⟩ := hZ1
      have e9 : wyT S B who fl (c + 1) = if hbI who (nI c) then (fun j => mx (wyT S B who fl c j) (nmT (apS S) (gdN S B c B) (costT fl c) (oftF S) (keyF S c fl) (wyT S B who fl c) (2 ^ B) j)) else wyT S B who fl c := rfl
      have key : ∀ (ky : Nat → Int64) (w1 : aW), (∀ b, b < B → ky b = keyF S c fl b) → EW w1 k (ap, wy, wn, ky, W) n → eFr w w1 k → hbI who (nI c) = true → Go G 4 y_E_greatestKey 110 [some (.ref k), some (.ref t), some (.int who), some (.int fl), some (.int (nI (2 ^ B))), some (.int (nI c)), none, none] [.int (nI (2 ^ B)), .int (oftF S), .int (costT fl c), .int (bitsOf (fun b => gd S b c) B), .ref k] w1 n 0 0 (fun r w' n' => r = some (.long (gkey S B P who fl)) ∧ ((∃ Z' : aZ, EW w' k Z' n) ∧ eFr w w' k) ∧ n' = n) := by
        intro ky w1 hky hZ1 hF1 hbit
        obtain ⟨g0, g1, g2, g3, g4, g5, hn⟩ := id hZ1
        rw [bits_gdN (B := B) B hB7]
        refine m_virtual o_E_greatestKey k_E_addThird v_E_addThird x_E_121 i_E_greatestKey_110 o_E_addThird (c_E_addThird (apb := apS S) hZ1 hp hap) rfl (rcv_ob (by repeat (first | assumption | exact upw_s | refine (upw_n (by omega)).trans ?_)) rfl (by first | assumption | omega)) rfl (by decide) (Nat.le_of_ble_eq_true rfl) (Nat.zero_le _) (Nat.zero_le _) (fun r1 w2 n1 hp9 => ?_)
        obtain ⟨rfl, ⟨wy', wn', q1, hZ2, hF2⟩, rfl⟩ := hp9
        refine r_iinc_5 (v := (1 : Int32)) i_E_greatestKey_113 rfl (by rw [l_E_greatestKey]; decide) rfl ?_
        refine r_goto 43 i_E_greatestKey_116 (by decide) ?_
        rw [nI_1]
        refine ih (c + 1) (by omega) ap wy' wn' ky W w2 hZ2 hap (fun j hj => ?_) (fun j hj => (hF2 j hj).trans (hF1 j hj))
        rw [q1 j hj, e9, hbit, if_pos rfl, hy j hj]
        refine congrArg (mx _) (nmT_cong (fun _ _ => rfl) hy (fun i b hi hb => hky b ?_) _ (Nat.le_refl _) j)
        rcases Nat.lt_or_ge b B with h | h
        · exact h
        · exact absurd hb (by rw [Nat.testBit_lt_two_pow (Nat.lt_of_lt_of_le hi (Nat.pow_le_pow_right (by decide) h))]; decide)
      refine r_iload (i := 5) i_E_greatestKey_43 rfl ?_
      refine r_aload_n (i := 1) i_E_greatestKey_45 rfl rfl ?_
      refine r_getfN (ci := 1) (T := Fk1) (k := 0) o_E_greatestKey i_E_greatestKey_46 x_E_108 rfl (by decide) rfl (by repeat (first | assumption | exact upw_s | refine (upw_n (by omega)).trans ?_)) (by first | assumption | omega) (by rfl) ?_
      refine r_icmp_ge 119 i_E_greatestKey_49 (by decide) (fun h49 => (absurd (hP ▸ h49) (nI_ge (by omega) (by omega)))) (fun h49 => ?_)
      refine r_iload_n (i := 2) i_E_greatestKey_52 rfl rfl ?_
      refine r_iload (i := 5) i_E_greatestKey_53 rfl ?_
      refine f_staticN o_E_greatestKey k_N_hasBit s_N_hasBit x_E_111 i_E_greatestKey_55 (c_N_hasBit) rfl rfl (by decide) (Nat.le_of_ble_eq_true rfl) ?_
      refine r_if_eq 113 i_E_greatestKey_58 (by decide) (fun h58 => ?_) (fun h58 => ?_)
      · skip
        have h58 := bI_eq0.mp h58
        rw [h58] at e9
        have e9 : wyT S B who fl (c + 1) = wyT S B who fl c := e9
        refine r_iinc_5 (v := (1 : Int32)) i_E_greatestKey_113 rfl (by rw [l_E_greatestKey]; decide) rfl ?_
        refine r_goto 43 i_E_greatestKey_116 (by decide) ?_
        rw [nI_1]
        exact ih (c + 1) (by omega) ap wy wn ky W w1 hZ0 hap (fun j hj => by rw [e9]; exact hy j hj) hF1
      · skip
        have h58 := bI_ne0.mp h58
        refine r_aload_n (i := 0) i_E_greatestKey_61 rfl rfl ?_
        refine r_aload_n (i := 1) i_E_greatestKey_62 rfl rfl ?_
        refine r_iload (i := 5) i_E_greatestKey_63 rfl ?_
        refine r_iload_n (i := 3) i_E_greatestKey_65 rfl rfl ?_
        refine m_virtual o_E_greatestKey k_E_fillKeys v_E_fillKeys x_E_114 i_E_greatestKey_66 o_E_fillKeys (c_E_fillKeys hZ0 hT0 hd hB hB7 (by omega)) rfl (rcv_ob (by repeat (first | assumption | exact upw_s | refine (upw_n (by omega)).trans ?_)) rfl (by first | assumption | omega)) rfl (by decide) (Nat.le_of_ble_eq_true rfl) (Nat.zero_le _) (Nat.zero_le _) (fun r1 w2 n1 hp9 => ?_)
        obtain ⟨rfl, ⟨ky2, hky, hZ2, hF2⟩, rfl⟩ := hp9
        have hT2 : TW w2 t S n1 := hT0.fr (fun j q1 q2 => hF2 j (by omega))
        have hT3 := hT2
        obtain ⟨e0, e1, e2, e3, e4, e5, e6, e7, e8, hm⟩ := hT2
        refine r_iload_n (i := 3) i_E_greatestKey_69 rfl rfl ?_
        refine r_if_eq 77 i_E_greatestKey_70 (by decide) (fun h70 => ?_) (fun h70 => ?_)
        · skip
          refine r_sipush (v := (128 : Int32)) i_E_greatestKey_77 (by decide) ?_
          refine r_iconst (v := (1 : Int32)) i_E_greatestKey_80 rfl ?_
          refine r_iload (i := 5) i_E_greatestKey_81 rfl ?_
          refine r_ishl i_E_greatestKey_83 ?_
          refine r_iadd i_E_greatestKey_84 ?_
          first | rw [show (0 : Int32) = costT fl c from (if_neg h70).symm] | rw [show (128 : Int32) + (1 : Int32) <<< (nI c &&& 31) = costT fl c from (if_pos h70).symm]
          refine r_istore_6 i_E_greatestKey_85 (by rw [l_E_greatestKey]; decide) rfl ?_
          refine r_aload_n (i := 0) i_E_greatestKey_87 rfl rfl ?_
          refine r_aload_n (i := 1) i_E_greatestKey_88 rfl rfl ?_
          refine r_iload (i := 5) i_E_greatestKey_89 rfl ?_
          refine f_virtual o_E_greatestKey k_T_bargainsGoodBy v_T_bargainsGoodBy x_E_118 i_E_greatestKey_91 o_T_bargainsGoodBy (c_T_bargainsGoodBy hT3 (by omega) hB hB7) rfl (rcv_ob (by repeat (first | assumption | exact upw_s | refine (upw_n (by omega)).trans ?_)) rfl (by first | assumption | omega)) rfl (by decide) (Nat.le_of_ble_eq_true rfl) ?_
          refine r_iload (i := 6) i_E_greatestKey_94 rfl ?_
          refine r_aload_n (i := 1) i_E_greatestKey_96 rfl rfl ?_
          refine r_getfN (ci := 1) (T := Fk1) (k := 3) o_E_greatestKey i_E_greatestKey_97 x_E_85 rfl (by decide) rfl (by repeat (first | assumption | exact upw_s | refine (upw_n (by omega)).trans ?_)) (by first | assumption | omega) (by rfl) ?_
          refine r_if_ne 107 i_E_greatestKey_100 (by decide) (fun h100 => ?_) (fun h100 => ?_)
          · skip
            refine r_iconst (v := (0 : Int32)) i_E_greatestKey_107 rfl ?_
            first | rw [show (1 : Int32) = oftF S from (if_pos h100).symm] | rw [show (0 : Int32) = oftF S from (if_neg h100).symm]
            refine r_iload (i := 4) i_E_greatestKey_108 rfl ?_
            refine r_fg_6 ?_
            exact key ky2 w2 hky hZ2 (fun j hj => (hF2 j hj).trans (hF1 j hj)) h58
          · skip
            refine r_iconst (v := (1 : Int32)) i_E_greatestKey_103 rfl ?_
            refine r_goto 108 i_E_greatestKey_104 (by decide) ?_
            first | rw [show (1 : Int32) = oftF S from (if_pos h100).symm] | rw [show (0 : Int32) = oftF S from (if_neg h100).symm]
            refine r_iload (i := 4) i_E_greatestKey_108 rfl ?_
            refine r_fg_6 ?_
            exact key ky2 w2 hky hZ2 (fun j hj => (hF2 j hj).trans (hF1 j hj)) h58
        · skip
          refine r_iconst (v := (0 : Int32)) i_E_greatestKey_73 rfl ?_
          refine r_goto 85 i_E_greatestKey_74 (by decide) ?_
          first | rw [show (0 : Int32) = costT fl c from (if_neg h70).symm] | rw [show (128 : Int32) + (1 : Int32) <<< (nI c &&& 31) = costT fl c from (if_pos h70).symm]
          refine r_istore_6 i_E_greatestKey_85 (by rw [l_E_greatestKey]; decide) rfl ?_
          refine r_aload_n (i := 0) i_E_greatestKey_87 rfl rfl ?_
          refine r_aload_n (i := 1) i_E_greatestKey_88 rfl rfl ?_
          refine r_iload (i := 5) i_E_greatestKey_89 rfl ?_
          refine f_virtual o_E_greatestKey k_T_bargainsGoodBy v_T_bargainsGoodBy x_E_118 i_E_greatestKey_91 o_T_bargainsGoodBy (c_T_bargainsGoodBy hT3 (by omega) hB hB7) rfl (rcv_ob (by repeat (first | assumption | exact upw_s | refine (upw_n (by omega)).trans ?_)) rfl (by first | assumption | omega)) rfl (by decide) (Nat.le_of_ble_eq_true rfl) ?_
          refine r_iload (i := 6) i_E_greatestKey_94 rfl ?_
          refine r_aload_n (i := 1) i_E_greatestKey_96 rfl rfl ?_
          refine r_getfN (ci := 1) (T := Fk1) (k := 3) o_E_greatestKey i_E_greatestKey_97 x_E_85 rfl (by decide) rfl (by repeat (first | assumption | exact upw_s | refine (upw_n (by omega)).trans ?_)) (by first | assumption | omega) (by rfl) ?_
          refine r_if_ne 107 i_E_greatestKey_100 (by decide) (fun h100 => ?_) (fun h100 => ?_)
          · skip
            refine r_iconst (v := (0 : Int32)) i_E_greatestKey_107 rfl ?_
            first | rw [show (1 : Int32) = oftF S from (if_pos h100).symm] | rw [show (0 : Int32) = oftF S from (if_neg h100).symm]
            refine r_iload (i := 4) i_E_greatestKey_108 rfl ?_
            refine r_fg_6 ?_
            exact key ky2 w2 hky hZ2 (fun j hj => (hF2 j hj).trans (hF1 j hj)) h58
          · skip
            refine r_iconst (v := (1 : Int32)) i_E_greatestKey_103 rfl ?_
            refine r_goto 108 i_E_greatestKey_104 (by decide) ?_
            first | rw [show (1 : Int32) = oftF S from (if_pos h100).symm] | rw [show (0 : Int32) = oftF S from (if_neg h100).symm]
            refine r_iload (i := 4) i_E_greatestKey_108 rfl ?_
            refine r_fg_6 ?_
            exact key ky2 w2 hky hZ2 (fun j hj => (hF2 j hj).trans (hF1 j hj)) h58
  have hl1 : ∀ m i : Nat, i + m = 2 ^ B → ∀ (ap : Nat → Int32) (wy wn ky : Nat → Int64) (W : Nat → Int32) (w1 : aW), EW w1 k (ap, wy, wn, ky, W) n → (∀ j, j < 2 ^ B → ap j = bI (apS S j)) → (∀ j, j < i → wy j = NOW) → eFr w w1 k → Go G 4 y_E_greatestKey 10 [some (.ref k), some (.ref t), some (.int who), some (.int fl), some (.int (nI (2 ^ B))), some (.int (nI i)), none, none] [] w1 n 0 0 (fun r w' n' => r = some (.long (gkey S B P who fl)) ∧ ((∃ Z' : aZ, EW w' k Z' n) ∧ eFr w w' k) ∧ n' = n) := by
    intro m
    induction m with
    | zero =>
      intro i hi ap wy wn ky W w1 hZ1 hap hy hF1
      have hi : i = 2 ^ B := by omega
      subst hi
      obtain ⟨g0, g1, g2, g3, g4, g5, hn⟩ : w1 k = _ ∧ w1 (k + 1) = az 128 ap ∧ w1 (k + 2) = al 128 wy ∧ w1 (k + 3) = al 128 wn ∧ w1 (k + 4) = al 7 ky ∧ w1 (k + 5) = ai 7 W ∧ _ := hZ1
      refine r_iload (i := 5) i_E_greatestKey_10 rfl ?_
      refine r_iload (i := 4) i_E_greatestKey_12 rfl ?_
      refine r_icmp_ge 33 i_E_greatestKey_14 (by decide) (fun h14 => ?_) (fun h14 => (absurd (Int32.le_refl _) h14))
      refine r_aload_n (i := 0) i_E_greatestKey_33 rfl rfl ?_
      refine r_getf (ci := 5) (T := Fk5) (k := 1) o_E_greatestKey i_E_greatestKey_34 x_E_17 rfl (by decide) rfl (by repeat (first | assumption | exact upw_s | refine (upw_n (by omega)).trans ?_)) (by first | assumption | omega) (by rfl) ?_
      refine r_iconst (v := (0 : Int32)) i_E_greatestKey_37 rfl ?_
      refine r_lconst (v := (0 : Int64)) i_E_greatestKey_38 rfl ?_
      refine r_last i_E_greatestKey_39 (by repeat (first | assumption | exact upw_s | refine (upw_n (by omega)).trans ?_)) (by first | assumption | omega) (vp_in_nI (n := 0) (by decide) (by decide)) ?_
      refine r_iconst (v := (0 : Int32)) i_E_greatestKey_40 rfl ?_
      refine r_istore_5 i_E_greatestKey_41 (by rw [l_E_greatestKey]; decide) rfl ?_
      exact hl2 P 0 (by omega) ap (vp_updL wy 0 0) wn ky W _ ⟨(by repeat (first | assumption | exact upw_s | refine (upw_n (by omega)).trans ?_)), (by repeat (first | assumption | exact upw_s | refine (upw_n (by omega)).trans ?_)), upw_s, (by repeat (first | assumption | exact upw_s | refine (upw_n (by omega)).trans ?_)), (by repeat (first | assumption | exact upw_s | refine (upw_n (by omega)).trans ?_)), (by repeat (first | assumption | exact upw_s | refine (upw_n (by omega)).trans ?_)), hn⟩ hap (fun j hj => by
        unfold vp_updL wyT wy0
        by_cases ej : j = 0
        · rw [if_pos ej, if_pos ej]
        · rw [if_neg ej, if_neg ej]; exact hy j hj) (fun j hj => (upw_n (by omega)).trans (hF1 j hj))
    | succ m ih =>
      intro i hi ap wy wn ky W w1 hZ1 hap hy hF1
      obtain ⟨g0, g1, g2, g3, g4, g5, hn⟩ : w1 k = _ ∧ w1 (k + 1) = az 128 ap ∧ w1 (k + 2) = al 128 wy ∧ w1 (k + 3) = al 128 wn ∧ w1 (k + 4) = al 7 ky ∧ w1 (k + 5) = ai 7 W ∧ _ := hZ1
      have c2 : (nI i).toNatClampNeg = i := nI_clamp (by omega)
      refine r_iload (i := 5) i_E_greatestKey_10 rfl ?_
      refine r_iload (i := 4) i_E_greatestKey_12 rfl ?_
      refine r_icmp_ge 33 i_E_greatestKey_14 (by decide) (fun h14 => (absurd h14 (nI_ge (by omega) (by omega)))) (fun h14 => ?_)
      refine r_aload_n (i := 0) i_E_greatestKey_17 rfl rfl ?_
      refine r_getf (ci := 5) (T := Fk5) (k := 1) o_E_greatestKey i_E_greatestKey_18 x_E_17 rfl (by decide) rfl (by repeat (first | assumption | exact upw_s | refine (upw_n (by omega)).trans ?_)) (by first | assumption | omega) (by rfl) ?_
      refine r_iload (i := 5) i_E_greatestKey_21 rfl ?_
      refine r_ldc2 o_E_greatestKey i_E_greatestKey_23 x_E_106 ?_
      refine r_last i_E_greatestKey_26 (by repeat (first | assumption | exact upw_s | refine (upw_n (by omega)).trans ?_)) (by first | assumption | omega) (vp_in_nI (by omega) (by decide)) ?_
      refine r_iinc_5 (v := (1 : Int32)) i_E_greatestKey_27 rfl (by rw [l_E_greatestKey]; decide) rfl ?_
      refine r_goto 10 i_E_greatestKey_30 (by decide) ?_
      rw [nI_1, c2]
      refine ih (i + 1) (by omega) ap (vp_updL wy i NOW) wn ky W _ ⟨(by repeat (first | assumption | exact upw_s | refine (upw_n (by omega)).trans ?_)), (by repeat (first | assumption | exact upw_s | refine (upw_n (by omega)).trans ?_)), upw_s, (by repeat (first | assumption | exact upw_s | refine (upw_n (by omega)).trans ?_)), (by repeat (first | assumption | exact upw_s | refine (upw_n (by omega)).trans ?_)), (by repeat (first | assumption | exact upw_s | refine (upw_n (by omega)).trans ?_)), hn⟩ hap (fun j hj => ?_) (fun j hj => (upw_n (by omega)).trans (hF1 j hj))
      by_cases ej : j = i
      · exact if_pos ej
      · exact (if_neg ej).trans (hy j (by omega))
  refine Mt.of k_E_greatestKey l_E_greatestKey (Nat.le_of_ble_eq_true rfl) rfl ?_
  have hZ0 := hZ
  obtain ⟨g0, g1, g2, g3, g4, g5, hn⟩ := hZ
  refine r_aload_n (i := 0) i_E_greatestKey_0 rfl rfl ?_
  refine r_aload_n (i := 1) i_E_greatestKey_1 rfl rfl ?_
  refine m_virtual o_E_greatestKey k_E_findApart v_E_findApart x_E_94 i_E_greatestKey_2 o_E_findApart (c_E_findApart hZ0 hT hd hB hB7) rfl (rcv_ob (by repeat (first | assumption | exact upw_s | refine (upw_n (by omega)).trans ?_)) rfl (by first | assumption | omega)) rfl (by decide) (Nat.le_of_ble_eq_true rfl) (Nat.zero_le _) (Nat.zero_le _) (fun r1 w2 n1 hp9 => ?_)
  obtain ⟨rfl, ⟨ap, hap, hZ2, hF2⟩, rfl⟩ := hp9
  refine r_istore_4 i_E_greatestKey_5 (by rw [l_E_greatestKey]; decide) rfl ?_
  refine r_iconst (v := (0 : Int32)) i_E_greatestKey_7 rfl ?_
  refine r_istore_5 i_E_greatestKey_8 (by rw [l_E_greatestKey]; decide) rfl ?_
  exact hl1 (2 ^ B) 0 (by omega) ap Z.2.1 Z.2.2.1 Z.2.2.2.1 Z.2.2.2.2 w2 hZ2 hap (fun j hj => absurd hj (Nat.not_lt_zero _)) hF2
def valK (key : Int64) : Int32 := (-fdiv (-key) 4294967296).toInt32
def codK (key : Int64) : Int64 := (valK key).toInt64 * 4294967296 - key
theorem c_E_valueOf {key : Int64} : Fn G 1 y_E_valueOf [.long key] w n (some (.int (valK key))) w := by
  refine Fn.of k_E_valueOf l_E_valueOf rfl rfl ?_
  refine r_lload_n (i := 0) i_E_valueOf_0 rfl rfl ?_
  refine r_lneg i_E_valueOf_1 ?_
  refine r_ldc2 o_E_valueOf i_E_valueOf_2 x_E_88 ?_
  refine f_static o_E_valueOf k_JM_floorDiv s_JM_floorDiv x_E_90 i_E_valueOf_5 (c_JM_floorDiv (by decide)) rfl rfl (by decide) (Nat.le_of_ble_eq_true rfl) ?_
  refine r_lneg i_E_valueOf_8 ?_
  refine r_l2i i_E_valueOf_9 ?_
  refine r_ireturn i_E_valueOf_10 t_E_valueOf rfl ?_
  exact ⟨rfl, rfl, rfl⟩
theorem c_E_codeOf {key : Int64} : Fn G 2 y_E_codeOf [.long key] w n (some (.long (codK key))) w := by
  refine Fn.of k_E_codeOf l_E_codeOf rfl rfl ?_
  refine r_lload_n (i := 0) i_E_codeOf_0 rfl rfl ?_
  refine f_static o_E_codeOf k_E_valueOf s_E_valueOf x_E_35 i_E_codeOf_1 (c_E_valueOf) rfl rfl (by decide) (Nat.le_of_ble_eq_true rfl) ?_
  refine r_i2l i_E_codeOf_4 ?_
  refine r_ldc2 o_E_codeOf i_E_codeOf_5 x_E_88 ?_
  refine r_lmul i_E_codeOf_8 ?_
  refine r_lload_n (i := 0) i_E_codeOf_9 rfl rfl ?_
  refine r_lsub i_E_codeOf_10 ?_
  refine r_lreturn i_E_codeOf_11 t_E_codeOf ?_
  exact ⟨rfl, rfl, rfl⟩
def allW (P : Nat) : Int32 := (1 : Int32) <<< (nI P &&& 31) - 1
def bestV (S : aS) (B P : Nat) (who : Int32) : Int32 := valK (gkey S B P who 1)
theorem c_E_bestValue {B P : Nat} {who : Int32} (hZ : EW w k Z n) (hT : TW w t S n) (hd : k + 5 < t ∨ t + 8 < k) (hP : S.1 0 = nI P) (hP7 : P ≤ 7) (hB : S.1 1 = nI B) (hB7 : B ≤ 7) : Mt G 5 y_E_bestValue [.ref k, .ref t, .int who] w n 0 0 (fun r w' n' => r = some (.int (bestV S B P who)) ∧ ((∃ Z' : aZ, EW w' k Z' n) ∧ eFr w w' k) ∧ n' = n) := by
  refine Mt.of k_E_bestValue l_E_bestValue (Nat.le_of_ble_eq_true rfl) rfl ?_
  have hZ0 := hZ
  obtain ⟨g0, g1, g2, g3, g4, g5, hn⟩ := hZ
  refine r_aload_n (i := 0) i_E_bestValue_0 rfl rfl ?_
  refine r_aload_n (i := 1) i_E_bestValue_1 rfl rfl ?_
  refine r_iload_n (i := 2) i_E_bestValue_2 rfl rfl ?_
  refine r_iconst (v := (1 : Int32)) i_E_bestValue_3 rfl ?_
  refine m_virtual o_E_bestValue k_E_greatestKey v_E_greatestKey x_E_31 i_E_bestValue_4 o_E_greatestKey (c_E_greatestKey hZ0 hT hd hP hP7 hB hB7) rfl (rcv_ob (by repeat (first | assumption | exact upw_s | refine (upw_n (by omega)).trans ?_)) rfl (by first | assumption | omega)) rfl (by decide) (Nat.le_of_ble_eq_true rfl) (Nat.zero_le _) (Nat.zero_le _) (fun r1 w2 n1 hp9 => ?_)
  obtain ⟨rfl, ⟨hZ2, hF2⟩, rfl⟩ := hp9
  refine f_static o_E_bestValue k_E_valueOf s_E_valueOf x_E_35 i_E_bestValue_7 (c_E_valueOf) rfl rfl (by decide) (Nat.le_of_ble_eq_true rfl) ?_
  refine r_ireturn i_E_bestValue_10 t_E_bestValue rfl ?_
  exact ⟨rfl, ⟨hZ2, hF2⟩, rfl⟩
def bestT (S : aS) (B P b : Nat) : Int32 := ((codK (gkey S B P (allW P) 1) >>> ((shiftN b).toInt64 &&& 63)) &&& 15).toInt32 - 1
theorem c_E_bestThird {B P b : Nat} (hZ : EW w k Z n) (hT : TW w t S n) (hd : k + 5 < t ∨ t + 8 < k) (hP : S.1 0 = nI P) (hP7 : P ≤ 7) (hB : S.1 1 = nI B) (hB7 : B ≤ 7) : Mt G 5 y_E_bestThird [.ref k, .ref t, .int (nI b)] w n 0 0 (fun r w' n' => r = some (.int (bestT S B P b)) ∧ ((∃ Z' : aZ, EW w' k Z' n) ∧ eFr w w' k) ∧ n' = n) := by
  refine Mt.of k_E_bestThird l_E_bestThird (Nat.le_of_ble_eq_true rfl) rfl ?_
  have hZ0 := hZ
  have hT0 := hT
  obtain ⟨e0, e1, e2, e3, e4, e5, e6, e7, e8, hm⟩ := hT
  obtain ⟨g0, g1, g2, g3, g4, g5, hn⟩ := hZ
  refine r_aload_n (i := 0) i_E_bestThird_0 rfl rfl ?_
  refine r_aload_n (i := 1) i_E_bestThird_1 rfl rfl ?_
  refine r_aload_n (i := 1) i_E_bestThird_2 rfl rfl ?_
  refine f_virtual o_E_bestThird k_T_everybody v_T_everybody x_E_39 i_E_bestThird_3 o_T_everybody (c_T_everybody hT0) rfl (rcv_ob (by repeat (first | assumption | exact upw_s | refine (upw_n (by omega)).trans ?_)) rfl (by first | assumption | omega)) rfl (by decide) (Nat.le_of_ble_eq_true rfl) ?_
  rw [show (1 : Int32) <<< (S.1 0 &&& 31) - 1 = allW P by rw [hP]; rfl]
  refine r_iconst (v := (1 : Int32)) i_E_bestThird_6 rfl ?_
  refine m_virtual o_E_bestThird k_E_greatestKey v_E_greatestKey x_E_31 i_E_bestThird_7 o_E_greatestKey (c_E_greatestKey hZ0 hT0 hd hP hP7 hB hB7) rfl (rcv_ob (by repeat (first | assumption | exact upw_s | refine (upw_n (by omega)).trans ?_)) rfl (by first | assumption | omega)) rfl (by decide) (Nat.le_of_ble_eq_true rfl) (Nat.zero_le _) (Nat.zero_le _) (fun r1 w2 n1 hp9 => ?_)
  obtain ⟨rfl, ⟨hZ2, hF2⟩, rfl⟩ := hp9
  refine f_static o_E_bestThird k_E_codeOf s_E_codeOf x_E_45 i_E_bestThird_10 (c_E_codeOf) rfl rfl (by decide) (Nat.le_of_ble_eq_true rfl) ?_
  refine r_lstore_3 i_E_bestThird_13 (by rw [l_E_bestThird]; decide) rfl ?_
  refine r_lload_n (i := 3) i_E_bestThird_14 rfl rfl ?_
  refine r_iload_n (i := 2) i_E_bestThird_15 rfl rfl ?_
  refine f_static o_E_bestThird k_E_shiftOf s_E_shiftOf x_E_49 i_E_bestThird_16 (c_E_shiftOf) rfl rfl (by decide) (Nat.le_of_ble_eq_true rfl) ?_
  refine r_lshr i_E_bestThird_19 ?_
  refine r_ldc2 o_E_bestThird i_E_bestThird_20 x_E_53 ?_
  refine r_land i_E_bestThird_23 ?_
  refine r_l2i i_E_bestThird_24 ?_
  refine r_iconst (v := (1 : Int32)) i_E_bestThird_25 rfl ?_
  refine r_isub i_E_bestThird_26 ?_
  refine r_ireturn i_E_bestThird_27 t_E_bestThird rfl ?_
  exact ⟨rfl, ⟨hZ2, hF2⟩, rfl⟩
def fewB (S : aS) (B P : Nat) : Int32 := (codK (gkey S B P (allW P) 0) &&& 127).toInt32
theorem c_E_fewestBits {B P : Nat} (hZ : EW w k Z n) (hT : TW w t S n) (hd : k + 5 < t ∨ t + 8 < k) (hP : S.1 0 = nI P) (hP7 : P ≤ 7) (hB : S.1 1 = nI B) (hB7 : B ≤ 7) : Mt G 5 y_E_fewestBits [.ref k, .ref t] w n 0 0 (fun r w' n' => r = some (.int (fewB S B P)) ∧ ((∃ Z' : aZ, EW w' k Z' n) ∧ eFr w w' k) ∧ n' = n) := by
  refine Mt.of k_E_fewestBits l_E_fewestBits (Nat.le_of_ble_eq_true rfl) rfl ?_
  have hZ0 := hZ
  have hT0 := hT
  obtain ⟨e0, e1, e2, e3, e4, e5, e6, e7, e8, hm⟩ := hT
  obtain ⟨g0, g1, g2, g3, g4, g5, hn⟩ := hZ
  refine r_aload_n (i := 0) i_E_fewestBits_0 rfl rfl ?_
  refine r_aload_n (i := 1) i_E_fewestBits_1 rfl rfl ?_
  refine r_aload_n (i := 1) i_E_fewestBits_2 rfl rfl ?_
  refine f_virtual o_E_fewestBits k_T_everybody v_T_everybody x_E_39 i_E_fewestBits_3 o_T_everybody (c_T_everybody hT0) rfl (rcv_ob (by repeat (first | assumption | exact upw_s | refine (upw_n (by omega)).trans ?_)) rfl (by first | assumption | omega)) rfl (by decide) (Nat.le_of_ble_eq_true rfl) ?_
  rw [show (1 : Int32) <<< (S.1 0 &&& 31) - 1 = allW P by rw [hP]; rfl]
  refine r_iconst (v := (0 : Int32)) i_E_fewestBits_6 rfl ?_
  refine m_virtual o_E_fewestBits k_E_greatestKey v_E_greatestKey x_E_31 i_E_fewestBits_7 o_E_greatestKey (c_E_greatestKey hZ0 hT0 hd hP hP7 hB hB7) rfl (rcv_ob (by repeat (first | assumption | exact upw_s | refine (upw_n (by omega)).trans ?_)) rfl (by first | assumption | omega)) rfl (by decide) (Nat.le_of_ble_eq_true rfl) (Nat.zero_le _) (Nat.zero_le _) (fun r1 w2 n1 hp9 => ?_)
  obtain ⟨rfl, ⟨hZ2, hF2⟩, rfl⟩ := hp9
  refine f_static o_E_fewestBits k_E_codeOf s_E_codeOf x_E_45 i_E_fewestBits_10 (c_E_codeOf) rfl rfl (by decide) (Nat.le_of_ble_eq_true rfl) ?_
  refine r_ldc2 o_E_fewestBits i_E_fewestBits_13 x_E_55 ?_
  refine r_land i_E_fewestBits_16 ?_
  refine r_l2i i_E_fewestBits_17 ?_
  refine r_ireturn i_E_fewestBits_18 t_E_fewestBits rfl ?_
  exact ⟨rfl, ⟨hZ2, hF2⟩, rfl⟩
end KEY
