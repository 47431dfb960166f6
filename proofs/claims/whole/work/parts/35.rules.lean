section FORGET
variable {G : gE} {d y pc : Nat} {st : List Value} {w : aW} {n bc bs : Nat} {post : Option Value → aW → Nat → Prop}
theorem set_none {ls : List (Option Value)} {i : Nat} : ∀ (j : Nat) (v : Value), (ls.set i none)[j]? = some (some v) → ls[j]? = some (some v) := by
  intro j v h
  by_cases e : j = i
  · subst e
    rw [List.getElem?_set, if_pos rfl] at h
    split at h <;> cases h
  · rwa [List.getElem?_set_ne (Ne.symm e)] at h
theorem r_fg_0 {b : Option Value} {l : List (Option Value)} (k : Go G d y pc (none :: l) st w n bc bs post) : Go G d y pc (b :: l) st w n bc bs post := r_forget (ls := b :: l) (ls' := (b :: l).set 0 none) set_none k
theorem r_fg_1 {a0 b : Option Value} {l : List (Option Value)} (k : Go G d y pc (a0 :: none :: l) st w n bc bs post) : Go G d y pc (a0 :: b :: l) st w n bc bs post := r_forget (ls := a0 :: b :: l) (ls' := (a0 :: b :: l).set 1 none) set_none k
theorem r_fg_2 {a0 a1 b : Option Value} {l : List (Option Value)} (k : Go G d y pc (a0 :: a1 :: none :: l) st w n bc bs post) : Go G d y pc (a0 :: a1 :: b :: l) st w n bc bs post := r_forget (ls := a0 :: a1 :: b :: l) (ls' := (a0 :: a1 :: b :: l).set 2 none) set_none k
theorem r_fg_3 {a0 a1 a2 b : Option Value} {l : List (Option Value)} (k : Go G d y pc (a0 :: a1 :: a2 :: none :: l) st w n bc bs post) : Go G d y pc (a0 :: a1 :: a2 :: b :: l) st w n bc bs post := r_forget (ls := a0 :: a1 :: a2 :: b :: l) (ls' := (a0 :: a1 :: a2 :: b :: l).set 3 none) set_none k
theorem r_fg_4 {a0 a1 a2 a3 b : Option Value} {l : List (Option Value)} (k : Go G d y pc (a0 :: a1 :: a2 :: a3 :: none :: l) st w n bc bs post) : Go G d y pc (a0 :: a1 :: a2 :: a3 :: b :: l) st w n bc bs post := r_forget (ls := a0 :: a1 :: a2 :: a3 :: b :: l) (ls' := (a0 :: a1 :: a2 :: a3 :: b :: l).set 4 none) set_none k
theorem r_fg_5 {a0 a1 a2 a3 a4 b : Option Value} {l : List (Option Value)} (k : Go G d y pc (a0 :: a1 :: a2 :: a3 :: a4 :: none :: l) st w n bc bs post) : Go G d y pc (a0 :: a1 :: a2 :: a3 :: a4 :: b :: l) st w n bc bs post := r_forget (ls := a0 :: a1 :: a2 :: a3 :: a4 :: b :: l) (ls' := (a0 :: a1 :: a2 :: a3 :: a4 :: b :: l).set 5 none) set_none k
theorem r_fg_6 {a0 a1 a2 a3 a4 a5 b : Option Value} {l : List (Option Value)} (k : Go G d y pc (a0 :: a1 :: a2 :: a3 :: a4 :: a5 :: none :: l) st w n bc bs post) : Go G d y pc (a0 :: a1 :: a2 :: a3 :: a4 :: a5 :: b :: l) st w n bc bs post := r_forget (ls := a0 :: a1 :: a2 :: a3 :: a4 :: a5 :: b :: l) (ls' := (a0 :: a1 :: a2 :: a3 :: a4 :: a5 :: b :: l).set 6 none) set_none k
theorem r_fg_7 {a0 a1 a2 a3 a4 a5 a6 b : Option Value} {l : List (Option Value)} (k : Go G d y pc (a0 :: a1 :: a2 :: a3 :: a4 :: a5 :: a6 :: none :: l) st w n bc bs post) : Go G d y pc (a0 :: a1 :: a2 :: a3 :: a4 :: a5 :: a6 :: b :: l) st w n bc bs post := r_forget (ls := a0 :: a1 :: a2 :: a3 :: a4 :: a5 :: a6 :: b :: l) (ls' := (a0 :: a1 :: a2 :: a3 :: a4 :: a5 :: a6 :: b :: l).set 7 none) set_none k
theorem r_fg_8 {a0 a1 a2 a3 a4 a5 a6 a7 b : Option Value} {l : List (Option Value)} (k : Go G d y pc (a0 :: a1 :: a2 :: a3 :: a4 :: a5 :: a6 :: a7 :: none :: l) st w n bc bs post) : Go G d y pc (a0 :: a1 :: a2 :: a3 :: a4 :: a5 :: a6 :: a7 :: b :: l) st w n bc bs post := r_forget (ls := a0 :: a1 :: a2 :: a3 :: a4 :: a5 :: a6 :: a7 :: b :: l) (ls' := (a0 :: a1 :: a2 :: a3 :: a4 :: a5 :: a6 :: a7 :: b :: l).set 8 none) set_none k
theorem r_fg_9 {a0 a1 a2 a3 a4 a5 a6 a7 a8 b : Option Value} {l : List (Option Value)} (k : Go G d y pc (a0 :: a1 :: a2 :: a3 :: a4 :: a5 :: a6 :: a7 :: a8 :: none :: l) st w n bc bs post) : Go G d y pc (a0 :: a1 :: a2 :: a3 :: a4 :: a5 :: a6 :: a7 :: a8 :: b :: l) st w n bc bs post := r_forget (ls := a0 :: a1 :: a2 :: a3 :: a4 :: a5 :: a6 :: a7 :: a8 :: b :: l) (ls' := (a0 :: a1 :: a2 :: a3 :: a4 :: a5 :: a6 :: a7 :: a8 :: b :: l).set 9 none) set_none k
theorem r_fg_10 {a0 a1 a2 a3 a4 a5 a6 a7 a8 a9 b : Option Value} {l : List (Option Value)} (k : Go G d y pc (a0 :: a1 :: a2 :: a3 :: a4 :: a5 :: a6 :: a7 :: a8 :: a9 :: none :: l) st w n bc bs post) : Go G d y pc (a0 :: a1 :: a2 :: a3 :: a4 :: a5 :: a6 :: a7 :: a8 :: a9 :: b :: l) st w n bc bs post := r_forget (ls := a0 :: a1 :: a2 :: a3 :: a4 :: a5 :: a6 :: a7 :: a8 :: a9 :: b :: l) (ls' := (a0 :: a1 :: a2 :: a3 :: a4 :: a5 :: a6 :: a7 :: a8 :: a9 :: b :: l).set 10 none) set_none k
end FORGET
-- RULES
def fmst (ok : Nat → Bool) (sc : Nat → Int32) : Nat → Int32 × Int32
  | 0 => (-1, 0)
  | k + 1 => if ok k && (decide ((fmst ok sc k).1 = -1) || decide ((fmst ok sc k).2 < sc k)) then (nI k, sc k) else fmst ok sc k
theorem nI_nem1 {k : Nat} (h : k < 2 ^ 31) : ¬ nI k = -1 := fun e => by
  have := nI_pos h
  rw [e] at this
  exact this (by decide)
theorem fmst_cases (ok : Nat → Bool) (sc : Nat → Int32) : ∀ k, (fmst ok sc k).1 = -1 ∨ ∃ t, t < k ∧ ok t = true ∧ (fmst ok sc k).1 = nI t
  | 0 => Or.inl rfl
  | k + 1 => by
    unfold fmst
    split
    · rename_i h
      simp only [Bool.and_eq_true] at h
      exact Or.inr ⟨k, Nat.lt_succ_self k, h.1, rfl⟩
    · rcases fmst_cases ok sc k with h | ⟨t, h1, h2, h3⟩
      · exact Or.inl h
      · exact Or.inr ⟨t, by omega, h2, h3⟩
def stepsR (t : Nat) (a : Int32) (P : Nat) : Int32 := fmod (nI t - a) (nI P)
def scoreK (S : aS) (P : Nat) (kd : Nat) (a : Int32) (b t : Nat) : Int32 := if kd = 3 then S.2 0 t else if kd = 4 then lossN S b t else if kd = 6 then -stepsR t a P else -lossN S b t
section RULES
variable {G : gE} {w : aW} {n t : Nat} {S : aS}
theorem c_U_stepsRound {i P : Nat} {a : Int32} (hi : i < P) (hP : P ≤ 7) : Fn G 1 y_U_stepsRound [.int (nI i), .int a, .int (nI P)] w n (some (.int (stepsR i a P))) w := by
  refine Fn.of k_U_stepsRound l_U_stepsRound rfl rfl ?_
  refine r_iload_n (i := 2) i_U_stepsRound_0 rfl rfl ?_
  refine r_if_le 14 i_U_stepsRound_1 (by decide) (fun h1 => (absurd h1 (nI_nle (by omega) (by omega)))) (fun h1 => ?_)
  refine r_iload_n (i := 0) i_U_stepsRound_4 rfl rfl ?_
  refine r_iload_n (i := 1) i_U_stepsRound_5 rfl rfl ?_
  refine r_isub i_U_stepsRound_6 ?_
  refine r_iload_n (i := 2) i_U_stepsRound_7 rfl rfl ?_
  refine f_static o_U_stepsRound k_JM_floorMod s_JM_floorMod x_U_53 i_U_stepsRound_8 (c_JM_floorMod (nI_ne0 (by omega) (by omega))) rfl rfl (by decide) (Nat.le_of_ble_eq_true rfl) ?_
  refine r_goto 15 i_U_stepsRound_11 (by decide) ?_
  refine r_ireturn i_U_stepsRound_15 t_U_stepsRound rfl ?_
  exact ⟨rfl, rfl, rfl⟩
theorem c_U_score3 {b i P : Nat} {a : Int32} (hT : TW w t S n) (hi : i < 7) : Fn G 2 y_U_score [.ref t, .int 3, .int a, .int (nI b), .int (nI i)] w n (some (.int (scoreK S P 3 a b i))) w := by
  obtain ⟨g0, g1, g2, g3, g4, g5, g6, g7, g8, hn⟩ := hT
  refine Fn.of k_U_score l_U_score rfl rfl ?_
  refine r_iload_n (i := 1) i_U_score_0 rfl rfl ?_
  refine r_tableIn 32 i_U_score_1 (by decide) (by decide) (by rfl) (by decide) ?_
  refine r_aload_n (i := 0) i_U_score_32 rfl rfl ?_
  refine r_getfN (ci := 1) (T := Fk1) (k := 9) o_U_score i_U_score_33 x_U_39 rfl (by decide) rfl (by repeat (first | assumption | exact upw_s | refine (upw_n (by omega)).trans ?_)) (by first | assumption | omega) (by rfl) ?_
  refine r_iload (i := 4) i_U_score_36 rfl ?_
  refine f_staticN o_U_score k_N_at s_N_at x_U_42 i_U_score_38 (c_N_at (by repeat (first | assumption | exact upw_s | refine (upw_n (by omega)).trans ?_)) (by omega) (by decide)) rfl rfl (by decide) (Nat.le_of_ble_eq_true rfl) ?_
  refine r_ireturn i_U_score_41 t_U_score rfl ?_
  exact ⟨by rw [atI_in hi (by decide)]; rfl, rfl, rfl⟩
theorem c_U_score4 {b i P : Nat} {a : Int32} (hT : TW w t S n) (hb : b < 7) (hi : i < 7) : Fn G 2 y_U_score [.ref t, .int 4, .int a, .int (nI b), .int (nI i)] w n (some (.int (scoreK S P 4 a b i))) w := by
  have hT0 := hT
  obtain ⟨g0, g1, g2, g3, g4, g5, g6, g7, g8, hn⟩ := hT
  refine Fn.of k_U_score l_U_score rfl rfl ?_
  refine r_iload_n (i := 1) i_U_score_0 rfl rfl ?_
  refine r_tableIn 42 i_U_score_1 (by decide) (by decide) (by rfl) (by decide) ?_
  refine r_aload_n (i := 0) i_U_score_42 rfl rfl ?_
  refine r_iload_n (i := 3) i_U_score_43 rfl rfl ?_
  refine r_iload (i := 4) i_U_score_44 rfl ?_
  refine f_virtual o_U_score k_T_lossBy v_T_lossBy x_U_46 i_U_score_46 o_T_lossBy (c_T_lossBy hT0 hb hi) rfl (rcv_ob (by repeat (first | assumption | exact upw_s | refine (upw_n (by omega)).trans ?_)) rfl (by first | assumption | omega)) rfl (by decide) (Nat.le_of_ble_eq_true rfl) ?_
  refine r_ireturn i_U_score_49 t_U_score rfl ?_
  exact ⟨rfl, rfl, rfl⟩
theorem c_U_score6 {b i P : Nat} {a : Int32} (hT : TW w t S n) (hP : S.1 0 = nI P) (hi : i < P) (hP7 : P ≤ 7) : Fn G 2 y_U_score [.ref t, .int 6, .int a, .int (nI b), .int (nI i)] w n (some (.int (scoreK S P 6 a b i))) w := by
  obtain ⟨g0, g1, g2, g3, g4, g5, g6, g7, g8, hn⟩ := hT
  refine Fn.of k_U_score l_U_score rfl rfl ?_
  refine r_iload_n (i := 1) i_U_score_0 rfl rfl ?_
  refine r_tableIn 50 i_U_score_1 (by decide) (by decide) (by rfl) (by decide) ?_
  refine r_iload (i := 4) i_U_score_50 rfl ?_
  refine r_iload_n (i := 2) i_U_score_52 rfl rfl ?_
  refine r_aload_n (i := 0) i_U_score_53 rfl rfl ?_
  refine r_getfN (ci := 1) (T := Fk1) (k := 0) o_U_score i_U_score_54 x_U_32 rfl (by decide) rfl (by repeat (first | assumption | exact upw_s | refine (upw_n (by omega)).trans ?_)) (by first | assumption | omega) (by rfl) ?_
  rw [hP]
  refine f_static o_U_score k_U_stepsRound s_U_stepsRound x_U_49 i_U_score_57 (c_U_stepsRound hi hP7) rfl rfl (by decide) (Nat.le_of_ble_eq_true rfl) ?_
  refine r_ineg i_U_score_60 ?_
  refine r_ireturn i_U_score_61 t_U_score rfl ?_
  exact ⟨rfl, rfl, rfl⟩
theorem c_U_score5 {b i P : Nat} {a : Int32} (hT : TW w t S n) (hb : b < 7) (hi : i < 7) : Fn G 2 y_U_score [.ref t, .int 5, .int a, .int (nI b), .int (nI i)] w n (some (.int (scoreK S P 5 a b i))) w := by
  have hT0 := hT
  obtain ⟨g0, g1, g2, g3, g4, g5, g6, g7, g8, hn⟩ := hT
  refine Fn.of k_U_score l_U_score rfl rfl ?_
  refine r_iload_n (i := 1) i_U_score_0 rfl rfl ?_
  refine r_tableIn 62 i_U_score_1 (by decide) (by decide) (by rfl) (by decide) ?_
  refine r_aload_n (i := 0) i_U_score_62 rfl rfl ?_
  refine r_iload_n (i := 3) i_U_score_63 rfl rfl ?_
  refine r_iload (i := 4) i_U_score_64 rfl ?_
  refine f_virtual o_U_score k_T_lossBy v_T_lossBy x_U_46 i_U_score_66 o_T_lossBy (c_T_lossBy hT0 hb hi) rfl (rcv_ob (by repeat (first | assumption | exact upw_s | refine (upw_n (by omega)).trans ?_)) rfl (by first | assumption | omega)) rfl (by decide) (Nat.le_of_ble_eq_true rfl) ?_
  refine r_ineg i_U_score_69 ?_
  refine r_ireturn i_U_score_70 t_U_score rfl ?_
  exact ⟨rfl, rfl, rfl⟩
theorem c_U_score1 {b i P : Nat} {a : Int32} (hT : TW w t S n) (hb : b < 7) (hi : i < 7) : Fn G 2 y_U_score [.ref t, .int 1, .int a, .int (nI b), .int (nI i)] w n (some (.int (scoreK S P 1 a b i))) w := by
  have hT0 := hT
  obtain ⟨g0, g1, g2, g3, g4, g5, g6, g7, g8, hn⟩ := hT
  refine Fn.of k_U_score l_U_score rfl rfl ?_
  refine r_iload_n (i := 1) i_U_score_0 rfl rfl ?_
  refine r_tableOut 62 i_U_score_1 (by decide) (by decide) ?_
  refine r_aload_n (i := 0) i_U_score_62 rfl rfl ?_
  refine r_iload_n (i := 3) i_U_score_63 rfl rfl ?_
  refine r_iload (i := 4) i_U_score_64 rfl ?_
  refine f_virtual o_U_score k_T_lossBy v_T_lossBy x_U_46 i_U_score_66 o_T_lossBy (c_T_lossBy hT0 hb hi) rfl (rcv_ob (by repeat (first | assumption | exact upw_s | refine (upw_n (by omega)).trans ?_)) rfl (by first | assumption | omega)) rfl (by decide) (Nat.le_of_ble_eq_true rfl) ?_
  refine r_ineg i_U_score_69 ?_
  refine r_ireturn i_U_score_70 t_U_score rfl ?_
  exact ⟨rfl, rfl, rfl⟩
theorem c_U_score2 {b i P : Nat} {a : Int32} (hT : TW w t S n) (hb : b < 7) (hi : i < 7) : Fn G 2 y_U_score [.ref t, .int 2, .int a, .int (nI b), .int (nI i)] w n (some (.int (scoreK S P 2 a b i))) w := by
  have hT0 := hT
  obtain ⟨g0, g1, g2, g3, g4, g5, g6, g7, g8, hn⟩ := hT
  refine Fn.of k_U_score l_U_score rfl rfl ?_
  refine r_iload_n (i := 1) i_U_score_0 rfl rfl ?_
  refine r_tableOut 62 i_U_score_1 (by decide) (by decide) ?_
  refine r_aload_n (i := 0) i_U_score_62 rfl rfl ?_
  refine r_iload_n (i := 3) i_U_score_63 rfl rfl ?_
  refine r_iload (i := 4) i_U_score_64 rfl ?_
  refine f_virtual o_U_score k_T_lossBy v_T_lossBy x_U_46 i_U_score_66 o_T_lossBy (c_T_lossBy hT0 hb hi) rfl (rcv_ob (by repeat (first | assumption | exact upw_s | refine (upw_n (by omega)).trans ?_)) rfl (by first | assumption | omega)) rfl (by decide) (Nat.le_of_ble_eq_true rfl) ?_
  refine r_ineg i_U_score_69 ?_
  refine r_ireturn i_U_score_70 t_U_score rfl ?_
  exact ⟨rfl, rfl, rfl⟩
theorem c_U_score {b i P kd : Nat} {a : Int32} (hT : TW w t S n) (hb : b < 7) (hP : S.1 0 = nI P) (hi : i < P) (hP7 : P ≤ 7) (h1 : 1 ≤ kd) (h6 : kd ≤ 6) : Fn G 2 y_U_score [.ref t, .int (nI kd), .int a, .int (nI b), .int (nI i)] w n (some (.int (scoreK S P kd a b i))) w := by
  match kd, h1, h6 with
  | 1, _, _ => exact c_U_score1 hT hb (by omega)
  | 2, _, _ => exact c_U_score2 hT hb (by omega)
  | 3, _, _ => exact c_U_score3 hT (by omega)
  | 4, _, _ => exact c_U_score4 hT hb (by omega)
  | 5, _, _ => exact c_U_score5 hT hb (by omega)
  | 6, _, _ => exact c_U_score6 hT hP hi hP7
theorem c_U_foremost {b P kd : Nat} {a may : Int32} (hT : TW w t S n) (hb : b < 7) (hP : S.1 0 = nI P) (hP7 : P ≤ 7) (h1 : 1 ≤ kd) (h6 : kd ≤ 6) : Fn G 3 y_U_foremost [.ref t, .int (nI kd), .int a, .int (nI b), .int may] w n (some (.int (fmst (fun i => hbI may (nI i)) (scoreK S P kd a b) P).1)) w := by
  have hT0 := hT
  obtain ⟨g0, g1, g2, g3, g4, g5, g6, g7, g8, hn⟩ := hT
  refine Fn.of k_U_foremost l_U_foremost rfl rfl ?_
  have hloop : ∀ m k : Nat, k + m = P → Go G 3 y_U_foremost 9 [some (.ref t), some (.int (nI kd)), some (.int a), some (.int (nI b)), some (.int may), some (.int (fmst (fun i => hbI may (nI i)) (scoreK S P kd a b) k).1), some (.int (fmst (fun i => hbI may (nI i)) (scoreK S P kd a b) k).2), some (.int (nI k)), none] [] w n 0 0 (fun r1 w1 n1 => r1 = some (.int (fmst (fun i => hbI may (nI i)) (scoreK S P kd a b) P).1) ∧ w1 = w ∧ n1 = n) := by
    intro m
    induction m with
    | zero =>
      intro k hk
      have hk : k = P := by omega
      subst hk
      refine r_iload (i := 7) i_U_foremost_9 rfl ?_
      refine r_aload_n (i := 0) i_U_foremost_11 rfl rfl ?_
      refine r_getfN (ci := 1) (T := Fk1) (k := 0) o_U_foremost i_U_foremost_12 x_U_32 rfl (by decide) rfl (by repeat (first | assumption | exact upw_s | refine (upw_n (by omega)).trans ?_)) (by first | assumption | omega) (by rfl) ?_
      refine r_icmp_ge 66 i_U_foremost_15 (by decide) (fun h15 => ?_) (fun h15 => (absurd (by rw [hP]; exact nI_le (Nat.le_refl _) (by omega)) h15))
      refine r_iload (i := 5) i_U_foremost_66 rfl ?_
      refine r_ireturn i_U_foremost_68 t_U_foremost rfl ?_
      exact ⟨rfl, rfl, rfl⟩
    | succ m ih =>
      intro k hk
      refine r_iload (i := 7) i_U_foremost_9 rfl ?_
      refine r_aload_n (i := 0) i_U_foremost_11 rfl rfl ?_
      refine r_getfN (ci := 1) (T := Fk1) (k := 0) o_U_foremost i_U_foremost_12 x_U_32 rfl (by decide) rfl (by repeat (first | assumption | exact upw_s | refine (upw_n (by omega)).trans ?_)) (by first | assumption | omega) (by rfl) ?_
      refine r_icmp_ge 66 i_U_foremost_15 (by decide) (fun h15 => (absurd (hP ▸ h15) (nI_ge (by omega) (by omega)))) (fun h15 => ?_)
      refine r_iload (i := 4) i_U_foremost_18 rfl ?_
      refine r_iload (i := 7) i_U_foremost_20 rfl ?_
      refine f_staticN o_U_foremost k_N_hasBit s_N_hasBit x_U_19 i_U_foremost_22 (c_N_hasBit) rfl rfl (by decide) (Nat.le_of_ble_eq_true rfl) ?_
      refine r_if_eq 60 i_U_foremost_25 (by decide) (fun h25 => ?_) (fun h25 => ?_)
      · skip
        have h25 := bI_eq0.mp h25
        refine r_iinc_7 (v := (1 : Int32)) i_U_foremost_60 rfl (by rw [l_U_foremost]; decide) rfl ?_
        refine r_goto 9 i_U_foremost_63 (by decide) ?_
        rw [nI_1]
        try refine r_fg_8 ?_
        refine Eq.mp ?_ (ih (k + 1) (by omega))
        simp [fmst, *]
      · skip
        have h25 := bI_ne0.mp h25
        refine r_aload_n (i := 0) i_U_foremost_28 rfl rfl ?_
        refine r_iload_n (i := 1) i_U_foremost_29 rfl rfl ?_
        refine r_iload_n (i := 2) i_U_foremost_30 rfl rfl ?_
        refine r_iload_n (i := 3) i_U_foremost_31 rfl rfl ?_
        refine r_iload (i := 7) i_U_foremost_32 rfl ?_
        refine f_static o_U_foremost k_U_score s_U_score x_U_36 i_U_foremost_34 (c_U_score hT0 hb hP (by omega) hP7 h1 h6) rfl rfl (by decide) (Nat.le_of_ble_eq_true rfl) ?_
        refine r_istore_8 i_U_foremost_37 (by rw [l_U_foremost]; decide) rfl ?_
        refine r_iload (i := 5) i_U_foremost_39 rfl ?_
        refine r_iconst (v := (-1 : Int32)) i_U_foremost_41 rfl ?_
        refine r_icmp_eq 52 i_U_foremost_42 (by decide) (fun h42 => ?_) (fun h42 => ?_)
        · skip
          refine r_iload (i := 7) i_U_foremost_52 rfl ?_
          refine r_istore_5 i_U_foremost_54 (by rw [l_U_foremost]; decide) rfl ?_
          refine r_iload (i := 8) i_U_foremost_56 rfl ?_
          refine r_istore_6 i_U_foremost_58 (by rw [l_U_foremost]; decide) rfl ?_
          refine r_iinc_7 (v := (1 : Int32)) i_U_foremost_60 rfl (by rw [l_U_foremost]; decide) rfl ?_
          refine r_goto 9 i_U_foremost_63 (by decide) ?_
          rw [nI_1]
          try refine r_fg_8 ?_
          refine Eq.mp ?_ (ih (k + 1) (by omega))
          simp [fmst, *]
        · skip
          refine r_iload (i := 8) i_U_foremost_45 rfl ?_
          refine r_iload (i := 6) i_U_foremost_47 rfl ?_
          refine r_icmp_le 60 i_U_foremost_49 (by decide) (fun h49 => ?_) (fun h49 => ?_)
          · skip
            have h49 := Int32.not_lt.mpr h49
            refine r_iinc_7 (v := (1 : Int32)) i_U_foremost_60 rfl (by rw [l_U_foremost]; decide) rfl ?_
            refine r_goto 9 i_U_foremost_63 (by decide) ?_
            rw [nI_1]
            try refine r_fg_8 ?_
            refine Eq.mp ?_ (ih (k + 1) (by omega))
            simp [fmst, *]
          · skip
            have h49 := Int32.not_le.mp h49
            refine r_iload (i := 7) i_U_foremost_52 rfl ?_
            refine r_istore_5 i_U_foremost_54 (by rw [l_U_foremost]; decide) rfl ?_
            refine r_iload (i := 8) i_U_foremost_56 rfl ?_
            refine r_istore_6 i_U_foremost_58 (by rw [l_U_foremost]; decide) rfl ?_
            refine r_iinc_7 (v := (1 : Int32)) i_U_foremost_60 rfl (by rw [l_U_foremost]; decide) rfl ?_
            refine r_goto 9 i_U_foremost_63 (by decide) ?_
            rw [nI_1]
            try refine r_fg_8 ?_
            refine Eq.mp ?_ (ih (k + 1) (by omega))
            simp [fmst, *]
  refine r_iconst (v := (-1 : Int32)) i_U_foremost_0 rfl ?_
  refine r_istore_5 i_U_foremost_1 (by rw [l_U_foremost]; decide) rfl ?_
  refine r_iconst (v := (0 : Int32)) i_U_foremost_3 rfl ?_
  refine r_istore_6 i_U_foremost_4 (by rw [l_U_foremost]; decide) rfl ?_
  refine r_iconst (v := (0 : Int32)) i_U_foremost_6 rfl ?_
  refine r_istore_7 i_U_foremost_7 (by rw [l_U_foremost]; decide) rfl ?_
  exact hloop P 0 (by omega)
def thirdN (S : aS) (P kd : Nat) (a : Int32) (b : Nat) (may : Int32) : Int32 :=
  if kd = 2 ∧ hbI may a = true then a else
  if kd = 5 ∧ ¬ (fmst (fun i => hbI may (nI i)) (scoreK S P kd a b) P).1 = -1 ∧ valN S b (fmst (fun i => hbI may (nI i)) (scoreK S P kd a b) P).1.toNatClampNeg < a then -1 else (fmst (fun i => hbI may (nI i)) (scoreK S P kd a b) P).1
theorem c_U_thirdFor {b P kd : Nat} {a may : Int32} (hT : TW w t S n) (hb : b < 7) (hP : S.1 0 = nI P) (hP7 : P ≤ 7) (h1 : 1 ≤ kd) (h6 : kd ≤ 6) : Fn G 4 y_U_thirdFor [.ref t, .int (nI kd), .int a, .int (nI b), .int may] w n (some (.int (thirdN S P kd a b may))) w := by
  have hT0 := hT
  obtain ⟨g0, g1, g2, g3, g4, g5, g6, g7, g8, hn⟩ := hT
  have hcs := fmst_cases (fun i => hbI may (nI i)) (scoreK S P kd a b) P
  unfold thirdN
  have e2 : nI kd = 2 ↔ kd = 2 := nI_eq (b := 2) (by omega) (by decide)
  have e5 : nI kd = 5 ↔ kd = 5 := nI_eq (b := 5) (by omega) (by decide)
  refine Fn.of k_U_thirdFor l_U_thirdFor rfl rfl ?_
  generalize hfm : (fmst (fun i => hbI may (nI i)) (scoreK S P kd a b) P).1 = fm at hcs ⊢
  have hval : ¬ fm = -1 → Fn G 2 y_T_valueBy [.ref t, .int (nI b), .int fm] w n (some (.int (valN S b fm.toNatClampNeg))) w := by
    intro hne
    rcases hcs with h | ⟨i, h3, -, h4⟩
    · exact absurd h hne
    · have h9 := c_T_valueBy (G := G) (i := i) hT0 hb (by omega)
      rw [h4, nI_clamp (by omega)]
      exact h9
  clear hcs
  refine r_iload_n (i := 1) i_U_thirdFor_0 rfl rfl ?_
  refine r_iconst (v := (2 : Int32)) i_U_thirdFor_1 rfl ?_
  refine r_icmp_ne 16 i_U_thirdFor_2 (by decide) (fun h2 => ?_) (fun h2 => ?_)
  · skip
    have h2 := fun h => h2 (e2.mpr h)
    refine r_aload_n (i := 0) i_U_thirdFor_16 rfl rfl ?_
    refine r_iload_n (i := 1) i_U_thirdFor_17 rfl rfl ?_
    refine r_iload_n (i := 2) i_U_thirdFor_18 rfl rfl ?_
    refine r_iload_n (i := 3) i_U_thirdFor_19 rfl rfl ?_
    refine r_iload (i := 4) i_U_thirdFor_20 rfl ?_
    refine f_static o_U_thirdFor k_U_foremost s_U_foremost x_U_22 i_U_thirdFor_22 ((hfm ▸ c_U_foremost hT0 hb hP hP7 h1 h6)) rfl rfl (by decide) (Nat.le_of_ble_eq_true rfl) ?_
    refine r_istore_5 i_U_thirdFor_25 (by rw [l_U_thirdFor]; decide) rfl ?_
    refine r_iload_n (i := 1) i_U_thirdFor_27 rfl rfl ?_
    refine r_iconst (v := (5 : Int32)) i_U_thirdFor_28 rfl ?_
    refine r_icmp_ne 53 i_U_thirdFor_29 (by decide) (fun h29 => ?_) (fun h29 => ?_)
    · skip
      have h29 := fun h => h29 (e5.mpr h)
      refine r_iconst (v := (0 : Int32)) i_U_thirdFor_53 rfl ?_
      refine r_istore_6 i_U_thirdFor_54 (by rw [l_U_thirdFor]; decide) rfl ?_
      refine r_iload (i := 6) i_U_thirdFor_56 rfl ?_
      refine r_if_eq 65 i_U_thirdFor_58 (by decide) (fun h58 => ?_) (fun h58 => ?_)
      · skip
        refine r_iload (i := 5) i_U_thirdFor_65 rfl ?_
        refine r_ireturn i_U_thirdFor_67 t_U_thirdFor rfl ?_
        exact ⟨by clear hval hfm; simp_all [bI_eq0, bI_ne0], rfl, rfl⟩
      · skip
        refine r_iconst (v := (-1 : Int32)) i_U_thirdFor_61 rfl ?_
        refine r_goto 67 i_U_thirdFor_62 (by decide) ?_
        refine r_ireturn i_U_thirdFor_67 t_U_thirdFor rfl ?_
        exact ⟨by clear hval hfm; simp_all [bI_eq0, bI_ne0], rfl, rfl⟩
    · skip
      have h29 := e5.mp h29
      refine r_iload (i := 5) i_U_thirdFor_32 rfl ?_
      refine r_iconst (v := (-1 : Int32)) i_U_thirdFor_34 rfl ?_
      refine r_icmp_eq 53 i_U_thirdFor_35 (by decide) (fun h35 => ?_) (fun h35 => ?_)
      · skip
        refine r_iconst (v := (0 : Int32)) i_U_thirdFor_53 rfl ?_
        refine r_istore_6 i_U_thirdFor_54 (by rw [l_U_thirdFor]; decide) rfl ?_
        refine r_iload (i := 6) i_U_thirdFor_56 rfl ?_
        refine r_if_eq 65 i_U_thirdFor_58 (by decide) (fun h58 => ?_) (fun h58 => ?_)
        · skip
          refine r_iload (i := 5) i_U_thirdFor_65 rfl ?_
          refine r_ireturn i_U_thirdFor_67 t_U_thirdFor rfl ?_
          exact ⟨by clear hval hfm; simp_all [bI_eq0, bI_ne0], rfl, rfl⟩
        · skip
          refine r_iconst (v := (-1 : Int32)) i_U_thirdFor_61 rfl ?_
          refine r_goto 67 i_U_thirdFor_62 (by decide) ?_
          refine r_ireturn i_U_thirdFor_67 t_U_thirdFor rfl ?_
          exact ⟨by clear hval hfm; simp_all [bI_eq0, bI_ne0], rfl, rfl⟩
      · skip
        refine r_aload_n (i := 0) i_U_thirdFor_38 rfl rfl ?_
        refine r_iload_n (i := 3) i_U_thirdFor_39 rfl rfl ?_
        refine r_iload (i := 5) i_U_thirdFor_40 rfl ?_
        refine f_virtual o_U_thirdFor k_T_valueBy v_T_valueBy x_U_26 i_U_thirdFor_42 o_T_valueBy (hval h35) rfl (rcv_ob (by repeat (first | assumption | exact upw_s | refine (upw_n (by omega)).trans ?_)) rfl (by first | assumption | omega)) rfl (by decide) (Nat.le_of_ble_eq_true rfl) ?_
        refine r_iload_n (i := 2) i_U_thirdFor_45 rfl rfl ?_
        refine r_icmp_ge 53 i_U_thirdFor_46 (by decide) (fun h46 => ?_) (fun h46 => ?_)
        · skip
          have h46 := Int32.not_lt.mpr h46
          refine r_iconst (v := (0 : Int32)) i_U_thirdFor_53 rfl ?_
          refine r_istore_6 i_U_thirdFor_54 (by rw [l_U_thirdFor]; decide) rfl ?_
          refine r_iload (i := 6) i_U_thirdFor_56 rfl ?_
          refine r_if_eq 65 i_U_thirdFor_58 (by decide) (fun h58 => ?_) (fun h58 => ?_)
          · skip
            refine r_iload (i := 5) i_U_thirdFor_65 rfl ?_
            refine r_ireturn i_U_thirdFor_67 t_U_thirdFor rfl ?_
            exact ⟨by clear hval hfm; simp_all [bI_eq0, bI_ne0], rfl, rfl⟩
          · skip
            refine r_iconst (v := (-1 : Int32)) i_U_thirdFor_61 rfl ?_
            refine r_goto 67 i_U_thirdFor_62 (by decide) ?_
            refine r_ireturn i_U_thirdFor_67 t_U_thirdFor rfl ?_
            exact ⟨by clear hval hfm; simp_all [bI_eq0, bI_ne0], rfl, rfl⟩
        · skip
          have h46 := Int32.not_le.mp h46
          refine r_iconst (v := (1 : Int32)) i_U_thirdFor_49 rfl ?_
          refine r_goto 54 i_U_thirdFor_50 (by decide) ?_
          refine r_istore_6 i_U_thirdFor_54 (by rw [l_U_thirdFor]; decide) rfl ?_
          refine r_iload (i := 6) i_U_thirdFor_56 rfl ?_
          refine r_if_eq 65 i_U_thirdFor_58 (by decide) (fun h58 => ?_) (fun h58 => ?_)
          · skip
            refine r_iload (i := 5) i_U_thirdFor_65 rfl ?_
            refine r_ireturn i_U_thirdFor_67 t_U_thirdFor rfl ?_
            exact ⟨by clear hval hfm; simp_all [bI_eq0, bI_ne0], rfl, rfl⟩
          · skip
            refine r_iconst (v := (-1 : Int32)) i_U_thirdFor_61 rfl ?_
            refine r_goto 67 i_U_thirdFor_62 (by decide) ?_
            refine r_ireturn i_U_thirdFor_67 t_U_thirdFor rfl ?_
            exact ⟨by clear hval hfm; simp_all [bI_eq0, bI_ne0], rfl, rfl⟩
  · skip
    have h2 := e2.mp h2
    refine r_iload (i := 4) i_U_thirdFor_5 rfl ?_
    refine r_iload_n (i := 2) i_U_thirdFor_7 rfl rfl ?_
    refine f_staticN o_U_thirdFor k_N_hasBit s_N_hasBit x_U_19 i_U_thirdFor_8 (c_N_hasBit) rfl rfl (by decide) (Nat.le_of_ble_eq_true rfl) ?_
    refine r_if_eq 16 i_U_thirdFor_11 (by decide) (fun h11 => ?_) (fun h11 => ?_)
    · skip
      refine r_aload_n (i := 0) i_U_thirdFor_16 rfl rfl ?_
      refine r_iload_n (i := 1) i_U_thirdFor_17 rfl rfl ?_
      refine r_iload_n (i := 2) i_U_thirdFor_18 rfl rfl ?_
      refine r_iload_n (i := 3) i_U_thirdFor_19 rfl rfl ?_
      refine r_iload (i := 4) i_U_thirdFor_20 rfl ?_
      refine f_static o_U_thirdFor k_U_foremost s_U_foremost x_U_22 i_U_thirdFor_22 ((hfm ▸ c_U_foremost hT0 hb hP hP7 h1 h6)) rfl rfl (by decide) (Nat.le_of_ble_eq_true rfl) ?_
      refine r_istore_5 i_U_thirdFor_25 (by rw [l_U_thirdFor]; decide) rfl ?_
      refine r_iload_n (i := 1) i_U_thirdFor_27 rfl rfl ?_
      refine r_iconst (v := (5 : Int32)) i_U_thirdFor_28 rfl ?_
      refine r_icmp_ne 53 i_U_thirdFor_29 (by decide) (fun h29 => ?_) (fun h29 => ?_)
      · skip
        have h29 := fun h => h29 (e5.mpr h)
        refine r_iconst (v := (0 : Int32)) i_U_thirdFor_53 rfl ?_
        refine r_istore_6 i_U_thirdFor_54 (by rw [l_U_thirdFor]; decide) rfl ?_
        refine r_iload (i := 6) i_U_thirdFor_56 rfl ?_
        refine r_if_eq 65 i_U_thirdFor_58 (by decide) (fun h58 => ?_) (fun h58 => ?_)
        · skip
          refine r_iload (i := 5) i_U_thirdFor_65 rfl ?_
          refine r_ireturn i_U_thirdFor_67 t_U_thirdFor rfl ?_
          exact ⟨by clear hval hfm; simp_all [bI_eq0, bI_ne0], rfl, rfl⟩
        · skip
          refine r_iconst (v := (-1 : Int32)) i_U_thirdFor_61 rfl ?_
          refine r_goto 67 i_U_thirdFor_62 (by decide) ?_
          refine r_ireturn i_U_thirdFor_67 t_U_thirdFor rfl ?_
          exact ⟨by clear hval hfm; simp_all [bI_eq0, bI_ne0], rfl, rfl⟩
      · skip
        have h29 := e5.mp h29
        refine r_iload (i := 5) i_U_thirdFor_32 rfl ?_
        refine r_iconst (v := (-1 : Int32)) i_U_thirdFor_34 rfl ?_
        refine r_icmp_eq 53 i_U_thirdFor_35 (by decide) (fun h35 => ?_) (fun h35 => ?_)
        · skip
          refine r_iconst (v := (0 : Int32)) i_U_thirdFor_53 rfl ?_
          refine r_istore_6 i_U_thirdFor_54 (by rw [l_U_thirdFor]; decide) rfl ?_
          refine r_iload (i := 6) i_U_thirdFor_56 rfl ?_
          refine r_if_eq 65 i_U_thirdFor_58 (by decide) (fun h58 => ?_) (fun h58 => ?_)
          · skip
            refine r_iload (i := 5) i_U_thirdFor_65 rfl ?_
            refine r_ireturn i_U_thirdFor_67 t_U_thirdFor rfl ?_
            exact ⟨by clear hval hfm; simp_all [bI_eq0, bI_ne0], rfl, rfl⟩
          · skip
            refine r_iconst (v := (-1 : Int32)) i_U_thirdFor_61 rfl ?_
            refine r_goto 67 i_U_thirdFor_62 (by decide) ?_
            refine r_ireturn i_U_thirdFor_67 t_U_thirdFor rfl ?_
            exact ⟨by clear hval hfm; simp_all [bI_eq0, bI_ne0], rfl, rfl⟩
        · skip
          refine r_aload_n (i := 0) i_U_thirdFor_38 rfl rfl ?_
          refine r_iload_n (i := 3) i_U_thirdFor_39 rfl rfl ?_
          refine r_iload (i := 5) i_U_thirdFor_40 rfl ?_
          refine f_virtual o_U_thirdFor k_T_valueBy v_T_valueBy x_U_26 i_U_thirdFor_42 o_T_valueBy (hval h35) rfl (rcv_ob (by repeat (first | assumption | exact upw_s | refine (upw_n (by omega)).trans ?_)) rfl (by first | assumption | omega)) rfl (by decide) (Nat.le_of_ble_eq_true rfl) ?_
          refine r_iload_n (i := 2) i_U_thirdFor_45 rfl rfl ?_
          refine r_icmp_ge 53 i_U_thirdFor_46 (by decide) (fun h46 => ?_) (fun h46 => ?_)
          · skip
            have h46 := Int32.not_lt.mpr h46
            refine r_iconst (v := (0 : Int32)) i_U_thirdFor_53 rfl ?_
            refine r_istore_6 i_U_thirdFor_54 (by rw [l_U_thirdFor]; decide) rfl ?_
            refine r_iload (i := 6) i_U_thirdFor_56 rfl ?_
            refine r_if_eq 65 i_U_thirdFor_58 (by decide) (fun h58 => ?_) (fun h58 => ?_)
            · skip
              refine r_iload (i := 5) i_U_thirdFor_65 rfl ?_
              refine r_ireturn i_U_thirdFor_67 t_U_thirdFor rfl ?_
              exact ⟨by clear hval hfm; simp_all [bI_eq0, bI_ne0], rfl, rfl⟩
            · skip
              refine r_iconst (v := (-1 : Int32)) i_U_thirdFor_61 rfl ?_
              refine r_goto 67 i_U_thirdFor_62 (by decide) ?_
              refine r_ireturn i_U_thirdFor_67 t_U_thirdFor rfl ?_
              exact ⟨by clear hval hfm; simp_all [bI_eq0, bI_ne0], rfl, rfl⟩
          · skip
            have h46 := Int32.not_le.mp h46
            refine r_iconst (v := (1 : Int32)) i_U_thirdFor_49 rfl ?_
            refine r_goto 54 i_U_thirdFor_50 (by decide) ?_
            refine r_istore_6 i_U_thirdFor_54 (by rw [l_U_thirdFor]; decide) rfl ?_
            refine r_iload (i := 6) i_U_thirdFor_56 rfl ?_
            refine r_if_eq 65 i_U_thirdFor_58 (by decide) (fun h58 => ?_) (fun h58 => ?_)
            · skip
              refine r_iload (i := 5) i_U_thirdFor_65 rfl ?_
              refine r_ireturn i_U_thirdFor_67 t_U_thirdFor rfl ?_
              exact ⟨by clear hval hfm; simp_all [bI_eq0, bI_ne0], rfl, rfl⟩
            · skip
              refine r_iconst (v := (-1 : Int32)) i_U_thirdFor_61 rfl ?_
              refine r_goto 67 i_U_thirdFor_62 (by decide) ?_
              refine r_ireturn i_U_thirdFor_67 t_U_thirdFor rfl ?_
              exact ⟨by clear hval hfm; simp_all [bI_eq0, bI_ne0], rfl, rfl⟩
    · skip
      refine r_iload_n (i := 2) i_U_thirdFor_14 rfl rfl ?_
      refine r_ireturn i_U_thirdFor_15 t_U_thirdFor rfl ?_
      exact ⟨by clear hval hfm; simp_all [bI_eq0, bI_ne0], rfl, rfl⟩
end RULES
