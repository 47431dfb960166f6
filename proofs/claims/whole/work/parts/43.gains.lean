-- SEARCH: FREE, HARM, the keys
def lossH (S : aS) (c b : Nat) : Int32 := if gd S b c then lossN S b c else 0
def mostF (S : aS) (c : Nat) : Nat → Int32
  | 0 => 0
  | b + 1 => if mostF S c b < lossH S c b then lossH S c b else mostF S c b
def harmV (S : aS) (c B : Nat) : Int32 := if S.1 3 = 1 then mostF S c B else hvF S (lossH S c) (2 ^ B)
section GAINS
variable {G : gE} {w : aW} {n k t : Nat} {Z : aZ} {S : aS}
theorem c_E_greatestGains {B : Nat} (hZ : EW w k Z n) (hT : TW w t S n) (hd : k + 5 < t ∨ t + 8 < k) (hB : S.1 1 = nI B) (hB7 : B ≤ 7) : Mt G 4 y_E_greatestGains [.ref k, .ref t] w n 0 0 (fun r w' n' => r = some (.int (hvF S (gainN S) (2 ^ B))) ∧ ((∃ Z' : aZ, EW w' k Z' n) ∧ eFr w w' k) ∧ n' = n) := by
  have hloop : ∀ m i : Nat, i + m = B → ∀ (W : Nat → Int32) (w1 : aW), EW w1 k (Z.1, Z.2.1, Z.2.2.1, Z.2.2.2.1, W) n → (∀ j, j < i → W j = gainN S j) → eFr w w1 k → Go G 4 y_E_greatestGains 2 [some (.ref k), some (.ref t), some (.int (nI i))] [] w1 n 0 0 (fun r w' n' => r = some (.int (hvF S (gainN S) (2 ^ B))) ∧ ((∃ Z' : aZ, EW w' k Z' n) ∧ eFr w w' k) ∧ n' = n) := by
    intro m
    induction m with
    | zero =>
      intro i hi W w1 hZ1 hW hF1
      have hi : i = B := by omega
      subst hi
      have hT1 : TW w1 t S n := hT.fr (fun j q1 q2 => hF1 j (by omega))
      have hT0 := hT1
      have hZ0 := hZ1
      obtain ⟨e0, e1, e2, e3, e4, e5, e6, e7, e8, hm⟩ := hT1
      obtain ⟨g0, g1, g2, g3, g4, g5, hn⟩ := hZ1
      refine r_iload_n (i := 2) i_E_greatestGains_2 rfl rfl ?_
      refine r_aload_n (i := 1) i_E_greatestGains_3 rfl rfl ?_
      refine r_getfN (ci := 1) (T := Fk1) (k := 1) o_E_greatestGains i_E_greatestGains_4 x_E_57 rfl (by decide) rfl (by repeat (first | assumption | exact upw_s | refine (upw_n (by omega)).trans ?_)) (by first | assumption | omega) (by rfl) ?_
      refine r_icmp_ge 29 i_E_greatestGains_7 (by decide) (fun h7 => ?_) (fun h7 => (absurd (by rw [hB]; exact Int32.le_refl _) h7))
      refine r_aload_n (i := 0) i_E_greatestGains_29 rfl rfl ?_
      refine r_aload_n (i := 1) i_E_greatestGains_30 rfl rfl ?_
      refine m_virtual o_E_greatestGains k_E_heaviest v_E_heaviest x_E_68 i_E_greatestGains_31 o_E_heaviest (c_E_heaviest hZ0 hT0 hd hB hB7) rfl (rcv_ob (by repeat (first | assumption | exact upw_s | refine (upw_n (by omega)).trans ?_)) rfl (by first | assumption | omega)) rfl (by decide) (Nat.le_of_ble_eq_true rfl) (Nat.zero_le _) (Nat.zero_le _) (fun r1 w2 n1 hp9 => ?_)
      obtain ⟨rfl, ⟨hZ2, hF2⟩, rfl⟩ := hp9
      refine r_ireturn i_E_greatestGains_34 t_E_greatestGains rfl ?_
      exact ⟨by rw [← hvF_cong hW _ (Nat.le_refl _)], ⟨hZ2, fun j hj => (hF2 j hj).trans (hF1 j hj)⟩, rfl⟩
    | succ m ih =>
      intro i hi W w1 hZ1 hW hF1
      have hT1 : TW w1 t S n := hT.fr (fun j q1 q2 => hF1 j (by omega))
      have hT0 := hT1
      obtain ⟨e0, e1, e2, e3, e4, e5, e6, e7, e8, hm⟩ := hT1
      obtain ⟨g0, g1, g2, g3, g4, g5, hn⟩ := hZ1
      refine r_iload_n (i := 2) i_E_greatestGains_2 rfl rfl ?_
      refine r_aload_n (i := 1) i_E_greatestGains_3 rfl rfl ?_
      refine r_getfN (ci := 1) (T := Fk1) (k := 1) o_E_greatestGains i_E_greatestGains_4 x_E_57 rfl (by decide) rfl (by repeat (first | assumption | exact upw_s | refine (upw_n (by omega)).trans ?_)) (by first | assumption | omega) (by rfl) ?_
      refine r_icmp_ge 29 i_E_greatestGains_7 (by decide) (fun h7 => (absurd (hB ▸ h7) (nI_ge (by omega) (by omega)))) (fun h7 => ?_)
      refine r_aload_n (i := 0) i_E_greatestGains_10 rfl rfl ?_
      refine r_getf (ci := 5) (T := Fk5) (k := 4) o_E_greatestGains i_E_greatestGains_11 x_E_27 rfl (by decide) rfl (by repeat (first | assumption | exact upw_s | refine (upw_n (by omega)).trans ?_)) (by first | assumption | omega) (by rfl) ?_
      refine r_iload_n (i := 2) i_E_greatestGains_14 rfl rfl ?_
      refine r_aload_n (i := 1) i_E_greatestGains_15 rfl rfl ?_
      refine r_iload_n (i := 2) i_E_greatestGains_16 rfl rfl ?_
      refine f_virtual o_E_greatestGains k_T_gainsOf v_T_gainsOf x_E_61 i_E_greatestGains_17 o_T_gainsOf (c_T_gainsOf hT0 (by omega)) rfl (rcv_ob (by repeat (first | assumption | exact upw_s | refine (upw_n (by omega)).trans ?_)) rfl (by first | assumption | omega)) rfl (by decide) (Nat.le_of_ble_eq_true rfl) ?_
      refine f_staticN o_E_greatestGains k_N_put s_N_put x_E_64 i_E_greatestGains_20 (c_N_put (by repeat (first | assumption | exact upw_s | refine (upw_n (by omega)).trans ?_)) (by omega) (by decide)) rfl rfl (by decide) (Nat.le_of_ble_eq_true rfl) ?_
      rw [puI_in (show i < 7 by omega) (by decide)]
      refine r_iinc_2 (v := (1 : Int32)) i_E_greatestGains_23 rfl (by rw [l_E_greatestGains]; decide) rfl ?_
      refine r_goto 2 i_E_greatestGains_26 (by decide) ?_
      rw [nI_1]
      refine ih (i + 1) (by omega) (upd W i (gainN S i)) _ ⟨(by repeat (first | assumption | exact upw_s | refine (upw_n (by omega)).trans ?_)), (by repeat (first | assumption | exact upw_s | refine (upw_n (by omega)).trans ?_)), (by repeat (first | assumption | exact upw_s | refine (upw_n (by omega)).trans ?_)), (by repeat (first | assumption | exact upw_s | refine (upw_n (by omega)).trans ?_)), (by repeat (first | assumption | exact upw_s | refine (upw_n (by omega)).trans ?_)), upw_s, hn⟩ (fun j hj => ?_) (fun j hj => (upw_n (by omega)).trans (hF1 j hj))
      unfold upd
      by_cases ej : j = i
      · rw [if_pos ej, ej]
      · rw [if_neg ej]; exact hW j (by omega)
  refine Mt.of k_E_greatestGains l_E_greatestGains (Nat.le_of_ble_eq_true rfl) rfl ?_
  refine r_iconst (v := (0 : Int32)) i_E_greatestGains_0 rfl ?_
  refine r_istore_2 i_E_greatestGains_1 (by rw [l_E_greatestGains]; decide) rfl ?_
  exact hloop B 0 (by omega) _ w hZ (fun j hj => absurd hj (Nat.not_lt_zero _)) (fun _ _ => rfl)
theorem c_E_greatestHarm {B c : Nat} (hZ : EW w k Z n) (hT : TW w t S n) (hd : k + 5 < t ∨ t + 8 < k) (hB : S.1 1 = nI B) (hB7 : B ≤ 7) (hc : c < 7) : Mt G 4 y_E_greatestHarm [.ref k, .ref t, .int (nI c)] w n 0 0 (fun r w' n' => r = some (.int (harmV S c B)) ∧ ((∃ Z' : aZ, EW w' k Z' n) ∧ eFr w w' k) ∧ n' = n) := by
  have hloop : ∀ m i : Nat, i + m = B → ∀ (W : Nat → Int32) (w1 : aW), EW w1 k (Z.1, Z.2.1, Z.2.2.1, Z.2.2.2.1, W) n → (∀ j, j < i → W j = lossH S c j) → eFr w w1 k → Go G 4 y_E_greatestHarm 5 [some (.ref k), some (.ref t), some (.int (nI c)), some (.int (mostF S c i)), some (.int (nI i)), none] [] w1 n 0 0 (fun r w' n' => r = some (.int (harmV S c B)) ∧ ((∃ Z' : aZ, EW w' k Z' n) ∧ eFr w w' k) ∧ n' = n) := by
    intro m
    induction m with
    | zero =>
      intro i hi W w1 hZ1 hW hF1
      have hi : i = B := by omega
      subst hi
      have hT1 : TW w1 t S n := hT.fr (fun j q1 q2 => hF1 j (by omega))
      have hT0 := hT1
      have hZ0 := hZ1
      obtain ⟨e0, e1, e2, e3, e4, e5, e6, e7, e8, hm⟩ := hT1
      obtain ⟨g0, g1, g2, g3, g4, g5, hn⟩ := hZ1
      refine r_iload (i := 4) i_E_greatestHarm_5 rfl ?_
      refine r_aload_n (i := 1) i_E_greatestHarm_7 rfl rfl ?_
      refine r_getfN (ci := 1) (T := Fk1) (k := 1) o_E_greatestHarm i_E_greatestHarm_8 x_E_57 rfl (by decide) rfl (by repeat (first | assumption | exact upw_s | refine (upw_n (by omega)).trans ?_)) (by first | assumption | omega) (by rfl) ?_
      refine r_icmp_ge 61 i_E_greatestHarm_11 (by decide) (fun h11 => ?_) (fun h11 => (absurd (by rw [hB]; exact Int32.le_refl _) h11))
      refine r_aload_n (i := 1) i_E_greatestHarm_61 rfl rfl ?_
      refine r_getfN (ci := 1) (T := Fk1) (k := 3) o_E_greatestHarm i_E_greatestHarm_62 x_E_85 rfl (by decide) rfl (by repeat (first | assumption | exact upw_s | refine (upw_n (by omega)).trans ?_)) (by first | assumption | omega) (by rfl) ?_
      refine r_iconst (v := (1 : Int32)) i_E_greatestHarm_65 rfl ?_
      refine r_icmp_ne 73 i_E_greatestHarm_66 (by decide) (fun h66 => ?_) (fun h66 => ?_)
      · skip
        refine r_aload_n (i := 0) i_E_greatestHarm_73 rfl rfl ?_
        refine r_aload_n (i := 1) i_E_greatestHarm_74 rfl rfl ?_
        refine m_virtual o_E_greatestHarm k_E_heaviest v_E_heaviest x_E_68 i_E_greatestHarm_75 o_E_heaviest (c_E_heaviest hZ0 hT0 hd hB hB7) rfl (rcv_ob (by repeat (first | assumption | exact upw_s | refine (upw_n (by omega)).trans ?_)) rfl (by first | assumption | omega)) rfl (by decide) (Nat.le_of_ble_eq_true rfl) (Nat.zero_le _) (Nat.zero_le _) (fun r1 w2 n1 hp9 => ?_)
        obtain ⟨rfl, ⟨hZ2, hF2⟩, rfl⟩ := hp9
        refine r_ireturn i_E_greatestHarm_78 t_E_greatestHarm rfl ?_
        first | exact ⟨by unfold harmV; rw [if_neg h66, ← hvF_cong hW _ (Nat.le_refl _)], ⟨hZ2, fun j hj => (hF2 j hj).trans (hF1 j hj)⟩, rfl⟩ | exact ⟨by unfold harmV; rw [if_pos h66], ⟨⟨_, hZ0⟩, hF1⟩, rfl⟩
      · skip
        refine r_iload_n (i := 3) i_E_greatestHarm_69 rfl rfl ?_
        refine r_goto 78 i_E_greatestHarm_70 (by decide) ?_
        refine r_ireturn i_E_greatestHarm_78 t_E_greatestHarm rfl ?_
        first | exact ⟨by unfold harmV; rw [if_neg h66, ← hvF_cong hW _ (Nat.le_refl _)], ⟨hZ2, fun j hj => (hF2 j hj).trans (hF1 j hj)⟩, rfl⟩ | exact ⟨by unfold harmV; rw [if_pos h66], ⟨⟨_, hZ0⟩, hF1⟩, rfl⟩
    | succ m ih =>
      intro i hi W w1 hZ1 hW hF1
      have hT1 : TW w1 t S n := hT.fr (fun j q1 q2 => hF1 j (by omega))
      have hT0 := hT1
      obtain ⟨e0, e1, e2, e3, e4, e5, e6, e7, e8, hm⟩ := hT1
      obtain ⟨g0, g1, g2, g3, g4, g5, hn⟩ := hZ1
      have key : ∀ v : Int32, v = lossH S c i → Go G 4 y_E_greatestHarm 35 [some (.ref k), some (.ref t), some (.int (nI c)), some (.int (mostF S c i)), some (.int (nI i)), none] [.int v] w1 n 0 0 (fun r w' n' => r = some (.int (harmV S c B)) ∧ ((∃ Z' : aZ, EW w' k Z' n) ∧ eFr w w' k) ∧ n' = n) := by
        intro v hv
        subst hv
        refine r_istore_5 i_E_greatestHarm_35 (by rw [l_E_greatestHarm]; decide) rfl ?_
        refine r_aload_n (i := 0) i_E_greatestHarm_37 rfl rfl ?_
        refine r_getf (ci := 5) (T := Fk5) (k := 4) o_E_greatestHarm i_E_greatestHarm_38 x_E_27 rfl (by decide) rfl (by repeat (first | assumption | exact upw_s | refine (upw_n (by omega)).trans ?_)) (by first | assumption | omega) (by rfl) ?_
        refine r_iload (i := 4) i_E_greatestHarm_41 rfl ?_
        refine r_iload (i := 5) i_E_greatestHarm_43 rfl ?_
        refine f_staticN o_E_greatestHarm k_N_put s_N_put x_E_64 i_E_greatestHarm_45 (c_N_put (by repeat (first | assumption | exact upw_s | refine (upw_n (by omega)).trans ?_)) (by omega) (by decide)) rfl rfl (by decide) (Nat.le_of_ble_eq_true rfl) ?_
        rw [puI_in (show i < 7 by omega) (by decide)]
        refine r_iload_n (i := 3) i_E_greatestHarm_48 rfl rfl ?_
        refine r_iload (i := 5) i_E_greatestHarm_49 rfl ?_
        refine f_static o_E_greatestHarm k_JM_max2 s_JM_max2 x_E_80 i_E_greatestHarm_51 (c_JM_max2) rfl rfl (by decide) (Nat.le_of_ble_eq_true rfl) ?_
        refine r_istore_3 i_E_greatestHarm_54 (by rw [l_E_greatestHarm]; decide) rfl ?_
        refine r_iinc_4 (v := (1 : Int32)) i_E_greatestHarm_55 rfl (by rw [l_E_greatestHarm]; decide) rfl ?_
        refine r_goto 5 i_E_greatestHarm_58 (by decide) ?_
        rw [nI_1]
        refine r_fg_5 ?_
        refine ih (i + 1) (by omega) (upd W i (lossH S c i)) _ ⟨(by repeat (first | assumption | exact upw_s | refine (upw_n (by omega)).trans ?_)), (by repeat (first | assumption | exact upw_s | refine (upw_n (by omega)).trans ?_)), (by repeat (first | assumption | exact upw_s | refine (upw_n (by omega)).trans ?_)), (by repeat (first | assumption | exact upw_s | refine (upw_n (by omega)).trans ?_)), (by repeat (first | assumption | exact upw_s | refine (upw_n (by omega)).trans ?_)), upw_s, hn⟩ (fun j hj => ?_) (fun j hj => (upw_n (by omega)).trans (hF1 j hj))
        unfold upd
        by_cases ej : j = i
        · rw [if_pos ej, ej]
        · rw [if_neg ej]; exact hW j (by omega)
      refine r_iload (i := 4) i_E_greatestHarm_5 rfl ?_
      refine r_aload_n (i := 1) i_E_greatestHarm_7 rfl rfl ?_
      refine r_getfN (ci := 1) (T := Fk1) (k := 1) o_E_greatestHarm i_E_greatestHarm_8 x_E_57 rfl (by decide) rfl (by repeat (first | assumption | exact upw_s | refine (upw_n (by omega)).trans ?_)) (by first | assumption | omega) (by rfl) ?_
      refine r_icmp_ge 61 i_E_greatestHarm_11 (by decide) (fun h11 => (absurd (hB ▸ h11) (nI_ge (by omega) (by omega)))) (fun h11 => ?_)
      refine r_aload_n (i := 1) i_E_greatestHarm_14 rfl rfl ?_
      refine r_iload (i := 4) i_E_greatestHarm_15 rfl ?_
      refine r_iload_n (i := 2) i_E_greatestHarm_17 rfl rfl ?_
      refine f_virtual o_E_greatestHarm k_T_isGoodBy v_T_isGoodBy x_E_72 i_E_greatestHarm_18 o_T_isGoodBy (c_T_isGoodBy hT0 (by omega) hc) rfl (rcv_ob (by repeat (first | assumption | exact upw_s | refine (upw_n (by omega)).trans ?_)) rfl (by first | assumption | omega)) rfl (by decide) (Nat.le_of_ble_eq_true rfl) ?_
      refine r_if_eq 34 i_E_greatestHarm_21 (by decide) (fun h21 => ?_) (fun h21 => ?_)
      · skip
        have h21 := bI_eq0.mp h21
        refine r_iconst (v := (0 : Int32)) i_E_greatestHarm_34 rfl ?_
        exact key _ (by simp [lossH, h21])
      · skip
        have h21 := bI_ne0.mp h21
        refine r_aload_n (i := 1) i_E_greatestHarm_24 rfl rfl ?_
        refine r_iload (i := 4) i_E_greatestHarm_25 rfl ?_
        refine r_iload_n (i := 2) i_E_greatestHarm_27 rfl rfl ?_
        refine f_virtual o_E_greatestHarm k_T_lossBy v_T_lossBy x_E_76 i_E_greatestHarm_28 o_T_lossBy (c_T_lossBy hT0 (by omega) hc) rfl (rcv_ob (by repeat (first | assumption | exact upw_s | refine (upw_n (by omega)).trans ?_)) rfl (by first | assumption | omega)) rfl (by decide) (Nat.le_of_ble_eq_true rfl) ?_
        refine r_goto 35 i_E_greatestHarm_31 (by decide) ?_
        exact key _ (by simp [lossH, h21])
  refine Mt.of k_E_greatestHarm l_E_greatestHarm (Nat.le_of_ble_eq_true rfl) rfl ?_
  refine r_iconst (v := (0 : Int32)) i_E_greatestHarm_0 rfl ?_
  refine r_istore_3 i_E_greatestHarm_1 (by rw [l_E_greatestHarm]; decide) rfl ?_
  refine r_iconst (v := (0 : Int32)) i_E_greatestHarm_2 rfl ?_
  refine r_istore_4 i_E_greatestHarm_3 (by rw [l_E_greatestHarm]; decide) rfl ?_
  exact hloop B 0 (by omega) _ w hZ (fun j hj => absurd hj (Nat.not_lt_zero _)) (fun _ _ => rfl)
def shiftN (b : Nat) : Int32 := 4 * (6 - nI b)
theorem c_E_shiftOf {b : Nat} : Fn G 0 y_E_shiftOf [.int (nI b)] w n (some (.int (shiftN b))) w := by
  refine Fn.of k_E_shiftOf l_E_shiftOf rfl rfl ?_
  refine r_iconst (v := (4 : Int32)) i_E_shiftOf_0 rfl ?_
  refine r_bipush (v := (6 : Int32)) i_E_shiftOf_1 (by decide) ?_
  refine r_iload_n (i := 0) i_E_shiftOf_3 rfl rfl ?_
  refine r_isub i_E_shiftOf_4 ?_
  refine r_imul i_E_shiftOf_5 ?_
  refine r_ireturn i_E_shiftOf_6 t_E_shiftOf rfl ?_
  exact ⟨rfl, rfl, rfl⟩
def codeT (c : Nat) (fl : Int32) (b : Nat) : Int64 := if fl = 0 then 0 else ((nI c).toInt64 + 1) <<< ((shiftN b).toInt64 &&& 63)
def keyF (S : aS) (c : Nat) (fl : Int32) (b : Nat) : Int64 := (valN S b c).toInt64 * 4294967296 - codeT c fl b
theorem c_E_fillKeys {B c : Nat} {fl : Int32} (hZ : EW w k Z n) (hT : TW w t S n) (hd : k + 5 < t ∨ t + 8 < k) (hB : S.1 1 = nI B) (hB7 : B ≤ 7) (hc : c < 7) : Mt G 3 y_E_fillKeys [.ref k, .ref t, .int (nI c), .int fl] w n 0 0 (fun r w' n' => r = none ∧ (∃ ky : Nat → Int64, (∀ b, b < B → ky b = keyF S c fl b) ∧ EW w' k (Z.1, Z.2.1, Z.2.2.1, ky, Z.2.2.2.2) n ∧ eFr w w' k) ∧ n' = n) := by
  have hloop : ∀ m i : Nat, i + m = B → ∀ (ky : Nat → Int64) (w1 : aW), EW w1 k (Z.1, Z.2.1, Z.2.2.1, ky, Z.2.2.2.2) n → (∀ j, j < i → ky j = keyF S c fl j) → eFr w w1 k → Go G 3 y_E_fillKeys 3 [some (.ref k), some (.ref t), some (.int (nI c)), some (.int fl), some (.int (nI i)), none, none] [] w1 n 0 0 (fun r w' n' => r = none ∧ (∃ ky : Nat → Int64, (∀ b, b < B → ky b = keyF S c fl b) ∧ EW w' k (Z.1, Z.2.1, Z.2.2.1, ky, Z.2.2.2.2) n ∧ eFr w w' k) ∧ n' = n) := by
    intro m
    induction m with
    | zero =>
      intro i hi ky w1 hZ1 hW hF1
      have hi : i = B := by omega
      subst hi
      have hT1 : TW w1 t S n := hT.fr (fun j q1 q2 => hF1 j (by omega))
      obtain ⟨e0, e1, e2, e3, e4, e5, e6, e7, e8, hm⟩ := hT1
      refine r_iload (i := 4) i_E_fillKeys_3 rfl ?_
      refine r_aload_n (i := 1) i_E_fillKeys_5 rfl rfl ?_
      refine r_getfN (ci := 1) (T := Fk1) (k := 1) o_E_fillKeys i_E_fillKeys_6 x_E_57 rfl (by decide) rfl (by repeat (first | assumption | exact upw_s | refine (upw_n (by omega)).trans ?_)) (by first | assumption | omega) (by rfl) ?_
      refine r_icmp_ge 70 i_E_fillKeys_9 (by decide) (fun h9 => ?_) (fun h9 => (absurd (by rw [hB]; exact Int32.le_refl _) h9))
      refine r_return i_E_fillKeys_70 t_E_fillKeys ?_
      exact ⟨rfl, ⟨ky, hW, hZ1, hF1⟩, rfl⟩
    | succ m ih =>
      intro i hi ky w1 hZ1 hW hF1
      have hT1 : TW w1 t S n := hT.fr (fun j q1 q2 => hF1 j (by omega))
      have hT0 := hT1
      obtain ⟨e0, e1, e2, e3, e4, e5, e6, e7, e8, hm⟩ := hT1
      obtain ⟨g0, g1, g2, g3, g4, g5, hn⟩ := hZ1
      have c2 : (nI i).toNatClampNeg = i := nI_clamp (by omega)
      have key : ∀ v : Int64, v = codeT c fl i → Go G 3 y_E_fillKeys 40 [some (.ref k), some (.ref t), some (.int (nI c)), some (.int fl), some (.int (nI i)), none, none] [.long v] w1 n 0 0 (fun r w' n' => r = none ∧ (∃ ky : Nat → Int64, (∀ b, b < B → ky b = keyF S c fl b) ∧ EW w' k (Z.1, Z.2.1, Z.2.2.1, ky, Z.2.2.2.2) n ∧ eFr w w' k) ∧ n' = n) := by
        intro v hv
        subst hv
        refine r_lstore_5 i_E_fillKeys_40 (by rw [l_E_fillKeys]; decide) rfl ?_
        refine r_aload_n (i := 0) i_E_fillKeys_42 rfl rfl ?_
        refine r_getf (ci := 5) (T := Fk5) (k := 3) o_E_fillKeys i_E_fillKeys_43 x_E_24 rfl (by decide) rfl (by repeat (first | assumption | exact upw_s | refine (upw_n (by omega)).trans ?_)) (by first | assumption | omega) (by rfl) ?_
        refine r_iload (i := 4) i_E_fillKeys_46 rfl ?_
        refine r_aload_n (i := 1) i_E_fillKeys_48 rfl rfl ?_
        refine r_iload (i := 4) i_E_fillKeys_49 rfl ?_
        refine r_iload_n (i := 2) i_E_fillKeys_51 rfl rfl ?_
        refine f_virtual o_E_fillKeys k_T_valueBy v_T_valueBy x_E_133 i_E_fillKeys_52 o_T_valueBy (c_T_valueBy hT0 (by omega) hc) rfl (rcv_ob (by repeat (first | assumption | exact upw_s | refine (upw_n (by omega)).trans ?_)) rfl (by first | assumption | omega)) rfl (by decide) (Nat.le_of_ble_eq_true rfl) ?_
        refine r_i2l i_E_fillKeys_55 ?_
        refine r_ldc2 o_E_fillKeys i_E_fillKeys_56 x_E_88 ?_
        refine r_lmul i_E_fillKeys_59 ?_
        refine r_lload (i := 5) i_E_fillKeys_60 rfl ?_
        refine r_lsub i_E_fillKeys_62 ?_
        refine r_last i_E_fillKeys_63 (by repeat (first | assumption | exact upw_s | refine (upw_n (by omega)).trans ?_)) (by first | assumption | omega) (vp_in_nI (by omega) (by decide)) ?_
        refine r_iinc_4 (v := (1 : Int32)) i_E_fillKeys_64 rfl (by rw [l_E_fillKeys]; decide) rfl ?_
        refine r_goto 3 i_E_fillKeys_67 (by decide) ?_
        rw [nI_1, c2]
        refine r_fg_5 ?_
        refine ih (i + 1) (by omega) (vp_updL ky i (keyF S c fl i)) _ ⟨(by repeat (first | assumption | exact upw_s | refine (upw_n (by omega)).trans ?_)), (by repeat (first | assumption | exact upw_s | refine (upw_n (by omega)).trans ?_)), (by repeat (first | assumption | exact upw_s | refine (upw_n (by omega)).trans ?_)), (by repeat (first | assumption | exact upw_s | refine (upw_n (by omega)).trans ?_)), upw_s, (by repeat (first | assumption | exact upw_s | refine (upw_n (by omega)).trans ?_)), hn⟩ (fun j hj => ?_) (fun j hj => (upw_n (by omega)).trans (hF1 j hj))
        unfold vp_updL
        by_cases ej : j = i
        · rw [if_pos ej, ej]
        · rw [if_neg ej]; exact hW j (by omega)
      refine r_iload (i := 4) i_E_fillKeys_3 rfl ?_
      refine r_aload_n (i := 1) i_E_fillKeys_5 rfl rfl ?_
      refine r_getfN (ci := 1) (T := Fk1) (k := 1) o_E_fillKeys i_E_fillKeys_6 x_E_57 rfl (by decide) rfl (by repeat (first | assumption | exact upw_s | refine (upw_n (by omega)).trans ?_)) (by first | assumption | omega) (by rfl) ?_
      refine r_icmp_ge 70 i_E_fillKeys_9 (by decide) (fun h9 => (absurd (hB ▸ h9) (nI_ge (by omega) (by omega)))) (fun h9 => ?_)
      refine r_iload (i := 4) i_E_fillKeys_12 rfl ?_
      refine r_aload_n (i := 0) i_E_fillKeys_14 rfl rfl ?_
      refine r_getf (ci := 5) (T := Fk5) (k := 3) o_E_fillKeys i_E_fillKeys_15 x_E_24 rfl (by decide) rfl (by repeat (first | assumption | exact upw_s | refine (upw_n (by omega)).trans ?_)) (by first | assumption | omega) (by rfl) ?_
      refine r_alen i_E_fillKeys_18 (by repeat (first | assumption | exact upw_s | refine (upw_n (by omega)).trans ?_)) (by decide) (by first | assumption | omega) ?_
      refine r_icmp_ge 70 i_E_fillKeys_19 (by decide) (fun h19 => (absurd h19 (nI_ge (by omega) (by decide)))) (fun h19 => ?_)
      refine r_iload_n (i := 3) i_E_fillKeys_22 rfl rfl ?_
      refine r_if_eq 39 i_E_fillKeys_23 (by decide) (fun h23 => ?_) (fun h23 => ?_)
      · skip
        refine r_lconst (v := (0 : Int64)) i_E_fillKeys_39 rfl ?_
        exact key _ (by simp [codeT, h23])
      · skip
        refine r_iload_n (i := 2) i_E_fillKeys_26 rfl rfl ?_
        refine r_i2l i_E_fillKeys_27 ?_
        refine r_lconst (v := (1 : Int64)) i_E_fillKeys_28 rfl ?_
        refine r_ladd i_E_fillKeys_29 ?_
        refine r_iload (i := 4) i_E_fillKeys_30 rfl ?_
        refine f_static o_E_fillKeys k_E_shiftOf s_E_shiftOf x_E_49 i_E_fillKeys_32 (c_E_shiftOf) rfl rfl (by decide) (Nat.le_of_ble_eq_true rfl) ?_
        refine r_lshl i_E_fillKeys_35 ?_
        refine r_goto 40 i_E_fillKeys_36 (by decide) ?_
        exact key _ (by simp [codeT, h23])
  refine Mt.of k_E_fillKeys l_E_fillKeys (Nat.le_of_ble_eq_true rfl) rfl ?_
  refine r_iconst (v := (0 : Int32)) i_E_fillKeys_0 rfl ?_
  refine r_istore_4 i_E_fillKeys_1 (by rw [l_E_fillKeys]; decide) rfl ?_
  exact hloop B 0 (by omega) _ w hZ (fun j hj => absurd hj (Nat.not_lt_zero _)) (fun _ _ => rfl)
end GAINS
