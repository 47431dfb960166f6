-- THE REFERENCE: copy, status
def mvL (f g : Nat → Int64) (i k : Nat) : Nat → Int64 := fun x => if x < k then g (i + x) else f x
def cpL (f g : Nat → Int64) (j k : Nat) : Nat → Int64 := fun x => if j ≤ x ∧ x < j + k then g (x - j) else f x
theorem mvL_s {f g : Nat → Int64} {i k : Nat} : vp_updL (mvL f g i k) k (g (i + k)) = mvL f g i (k + 1) := by
  funext x
  unfold vp_updL mvL
  by_cases e : x = k
  · rw [if_pos e, if_pos (by omega), e]
  · rw [if_neg e]
    by_cases e2 : x < k
    · rw [if_pos e2, if_pos (by omega)]
    · rw [if_neg e2, if_neg (by omega)]
theorem cpL_s {f g : Nat → Int64} {j k : Nat} : vp_updL (cpL f g j k) (j + k) (g k) = cpL f g j (k + 1) := by
  funext x
  unfold vp_updL cpL
  by_cases e : x = j + k
  · rw [if_pos e, if_pos (by omega), e, Nat.add_sub_cancel_left]
  · rw [if_neg e]
    by_cases e2 : j ≤ x ∧ x < j + k
    · rw [if_pos e2, if_pos (by omega)]
    · rw [if_neg e2, if_neg (by omega)]
theorem mL_ne {M : aM} {i j : Nat} {f : Nat → Int64} (h : ¬ i = j) : (mL M j f).2.2.1 i = M.2.2.1 i := if_neg h
theorem mL_eq {M : aM} {j : Nat} {f : Nat → Int64} : (mL M j f).2.2.1 j = f := if_pos rfl
section MCOPY
variable {G : gE} {w : aW} {o n : Nat} {M : aM}
def cp1M (M : aM) (p i m : Nat) : aM := mL M 13 (mvL (M.2.2.1 13) (M.2.2.1 (5 + p)) i m)
def cpM (M : aM) (p q i j m : Nat) : aM := mL (cp1M M p i m) (5 + q) (cpL (M.2.2.1 (5 + q)) (mvL (M.2.2.1 13) (M.2.2.1 (5 + p)) i m) j m)
def cpR (M : aM) (p q i j m : Int32) : Nat := if M.2.1 1 p.toNatClampNeg = 2 ∨ M.2.1 1 q.toNatClampNeg = 2 ∨ M.2.1 1 p.toNatClampNeg = 1 ∧ M.2.1 1 q.toNatClampNeg = 1 ∧ ¬ M.2.1 2 p.toNatClampNeg = M.2.1 2 q.toNatClampNeg then 3 else if M.2.1 1 p.toNatClampNeg = 0 ∨ M.2.1 1 q.toNatClampNeg = 0 then 4 else if m < 0 ∨ i < 0 ∨ j < 0 ∨ M.2.1 3 p.toNatClampNeg < m ∨ M.2.1 3 q.toNatClampNeg < m ∨ M.2.1 3 p.toNatClampNeg - m < i ∨ M.2.1 3 q.toNatClampNeg - m < j then 2 else 0
def m2_copy (M : aM) (p q i j m : Int32) : Int32 × aM := if (lt0 p 8 && lt0 q 8) = true then (if cpR M p q i j m = 0 then (m, cpM M p.toNatClampNeg q.toNatClampNeg i.toNatClampNeg j.toNatClampNeg m.toNatClampNeg) else (-nI (cpR M p q i j m), mR M (cpR M p q i j m))) else (-2, mR M 2)
theorem copy_188 {p q i j m a b : Nat} (h : MW w o M n) (hp : p < 8) (hq : q < 8) (hia : i + m ≤ a) (ha : a ≤ 40) (hjb : j + m ≤ b) (hb : b ≤ 40) : Go G 1 y_M_copy 188 [some (.ref o), some (.int (nI p)), some (.int (nI q)), some (.int (nI i)), some (.int (nI j)), some (.int (nI m)), none] [] w n 0 0 (fun r w' n' => r = some (.int (nI m)) ∧ (MW w' o (cpM M p q i j m) n ∧ mFr w w' o) ∧ n' = n) := by
  have l2 : ∀ N : aM, ∀ g : Nat → Int64, N.2.2.1 13 = g → ∀ r k, k + r = m → ∀ w1, MW w1 o (mL N (5 + q) (cpL (N.2.2.1 (5 + q)) g j k)) n → mFr w w1 o → Go G 1 y_M_copy 225 [some (.ref o), some (.int (nI p)), some (.int (nI q)), some (.int (nI i)), some (.int (nI j)), some (.int (nI m)), some (.int (nI k))] [] w1 n 0 0 (fun r w' n' => r = some (.int (nI m)) ∧ (MW w' o (mL N (5 + q) (cpL (N.2.2.1 (5 + q)) g j m)) n ∧ mFr w w' o) ∧ n' = n) := by
    intro N g hg r
    induction r with
    | zero =>
      intro k hk w1 h1 hF
      have hk : k = m := by omega
      subst hk
      refine r_iload (i := 6) i_M_copy_225 rfl ?_
      refine r_iload (i := 5) i_M_copy_227 rfl ?_
      refine r_icmp_ge 257 i_M_copy_229 (by decide) (fun h229 => ?_) (fun h229 => (absurd (nI_le (Nat.le_refl _) (by omega)) h229))
      refine r_iload (i := 5) i_M_copy_257 rfl ?_
      refine r_ireturn i_M_copy_259 t_M_copy rfl ?_
      exact ⟨rfl, ⟨h1, hF⟩, rfl⟩
    | succ r ih =>
      intro k hk w1 h1 hF
      have ih' := ih (k + 1) (by omega)
      have h2 : MW (upw w1 (o + 5 + q) (al 40 (cpL (N.2.2.1 (5 + q)) g j (k + 1)))) o (mL N (5 + q) (cpL (N.2.2.1 (5 + q)) g j (k + 1))) n := by
        have h9 := h1.rro (f := cpL (N.2.2.1 (5 + q)) g j (k + 1)) hq
        rw [mL_L] at h9
        exact h9
      have r1 : w1 (o + 5 + q) = al 40 (cpL (N.2.2.1 (5 + q)) g j k) := (long_of h1 hq).1.trans (congrArg (al 40) mL_eq)
      have r2 := (long_of h1 hq).2.1
      have is := (long_of h1 hq).2.2
      have r13 : w1 (o + 13) = al 40 g := (h1.2.2.1 13 (by omega) (by omega)).trans (congrArg (al 40) ((mL_ne (by omega)).trans hg))
      generalize mL N (5 + q) (cpL (N.2.2.1 (5 + q)) g j k) = N1 at *
      have m0 := h1.1
      have m4 := h1.2.2.2.1
      have mn' := h1.2.2.2.2.2.2
      have ik : vp_in (nI k) 40 := vp_in_nI (by omega) (by decide)
      have ijk : vp_in (nI (j + k)) 40 := vp_in_nI (by omega) (by decide)
      have ec : (nI k).toNatClampNeg = k := nI_clamp (by omega)
      have ecj : (nI (j + k)).toNatClampNeg = j + k := nI_clamp (by omega)
      refine r_iload (i := 6) i_M_copy_225 rfl ?_
      refine r_iload (i := 5) i_M_copy_227 rfl ?_
      refine r_icmp_ge 257 i_M_copy_229 (by decide) (fun h229 => (absurd h229 (nI_ge (by omega) (by omega)))) (fun h229 => ?_)
      refine r_aload_n (i := 0) i_M_copy_232 rfl rfl ?_
      refine r_getf (ci := 6) (T := Fk6) (k := 3) o_M_copy i_M_copy_233 x_M_21 rfl (by decide) rfl (by repeat (first | assumption | exact upw_s | refine (upw_n (by omega)).trans ?_)) (by first | assumption | omega) (by rfl) ?_
      refine r_iload_n (i := 2) i_M_copy_236 rfl rfl ?_
      refine r_aald i_M_copy_237 (by repeat (first | assumption | exact upw_s | refine (upw_n (by omega)).trans ?_)) (by decide) (by first | assumption | omega) (by assumption) r2 ?_
      refine r_iload (i := 4) i_M_copy_238 rfl ?_
      refine r_iload (i := 6) i_M_copy_240 rfl ?_
      refine r_iadd i_M_copy_242 ?_
      refine r_aload_n (i := 0) i_M_copy_243 rfl rfl ?_
      refine r_getf (ci := 6) (T := Fk6) (k := 4) o_M_copy i_M_copy_244 x_M_24 rfl (by decide) rfl (by repeat (first | assumption | exact upw_s | refine (upw_n (by omega)).trans ?_)) (by first | assumption | omega) (by rfl) ?_
      refine r_iload (i := 6) i_M_copy_247 rfl ?_
      refine r_lald i_M_copy_249 (by repeat (first | assumption | exact upw_s | refine (upw_n (by omega)).trans ?_)) (by first | assumption | omega) (by assumption) ?_
      rw [nI_add, ec]
      refine r_last i_M_copy_250 (by repeat (first | assumption | exact upw_s | refine (upw_n (by omega)).trans ?_)) (by first | assumption | omega) (by assumption) ?_
      rw [ecj, cpL_s]
      refine r_iinc_6 (v := (1 : Int32)) i_M_copy_251 rfl (by rw [l_M_copy]; decide) rfl ?_
      refine r_goto 225 i_M_copy_254 (by decide) ?_
      rw [nI_1]
      exact ih' _ h2 (hF.up (by omega) (by omega))
  have l1 : ∀ r k, k + r = m → ∀ w1, MW w1 o (cp1M M p i k) n → mFr w w1 o → Go G 1 y_M_copy 191 [some (.ref o), some (.int (nI p)), some (.int (nI q)), some (.int (nI i)), some (.int (nI j)), some (.int (nI m)), some (.int (nI k))] [] w1 n 0 0 (fun r w' n' => r = some (.int (nI m)) ∧ (MW w' o (cpM M p q i j m) n ∧ mFr w w' o) ∧ n' = n) := by
    intro r
    induction r with
    | zero =>
      intro k hk w1 h1 hF
      have hk : k = m := by omega
      subst hk
      have e5 : (cp1M M p i k).2.2.1 (5 + q) = M.2.2.1 (5 + q) := mL_ne (by omega)
      have hl := l2 (cp1M M p i k) (mvL (M.2.2.1 13) (M.2.2.1 (5 + p)) i k) mL_eq k 0 (by omega) w1
      rw [mL_self (by unfold cpL; funext x; exact if_neg (by omega))] at hl
      have hl := hl h1 hF
      rw [e5] at hl
      refine r_iload (i := 6) i_M_copy_191 rfl ?_
      refine r_iload (i := 5) i_M_copy_193 rfl ?_
      refine r_icmp_ge 222 i_M_copy_195 (by decide) (fun h195 => ?_) (fun h195 => (absurd (nI_le (Nat.le_refl _) (by omega)) h195))
      refine r_iconst (v := (0 : Int32)) i_M_copy_222 rfl ?_
      refine r_istore_6 i_M_copy_223 (by rw [l_M_copy]; decide) rfl ?_
      exact hl
    | succ r ih =>
      intro k hk w1 h1 hF
      have ih' := ih (k + 1) (by omega)
      have h2 : MW (upw w1 (o + 13) (al 40 (mvL (M.2.2.1 13) (M.2.2.1 (5 + p)) i (k + 1)))) o (cp1M M p i (k + 1)) n := by
        have h9 := h1.lon (j := 13) (f := mvL (M.2.2.1 13) (M.2.2.1 (5 + p)) i (k + 1)) (by omega) (by omega)
        unfold cp1M at h9
        rw [mL_L] at h9
        exact h9
      have r1 : w1 (o + 5 + p) = al 40 (M.2.2.1 (5 + p)) := (long_of h1 hp).1.trans (congrArg (al 40) (mL_ne (by omega)))
      have r2 := (long_of h1 hp).2.1
      have is := (long_of h1 hp).2.2
      have r13 : w1 (o + 13) = al 40 (mvL (M.2.2.1 13) (M.2.2.1 (5 + p)) i k) := (h1.2.2.1 13 (by omega) (by omega)).trans (congrArg (al 40) mL_eq)
      generalize cp1M M p i k = N1 at *
      have m0 := h1.1
      have m4 := h1.2.2.2.1
      have mn' := h1.2.2.2.2.2.2
      have ik : vp_in (nI k) 40 := vp_in_nI (by omega) (by decide)
      have iik : vp_in (nI (i + k)) 40 := vp_in_nI (by omega) (by decide)
      have ec : (nI k).toNatClampNeg = k := nI_clamp (by omega)
      have eci : (nI (i + k)).toNatClampNeg = i + k := nI_clamp (by omega)
      refine r_iload (i := 6) i_M_copy_191 rfl ?_
      refine r_iload (i := 5) i_M_copy_193 rfl ?_
      refine r_icmp_ge 222 i_M_copy_195 (by decide) (fun h195 => (absurd h195 (nI_ge (by omega) (by omega)))) (fun h195 => ?_)
      refine r_aload_n (i := 0) i_M_copy_198 rfl rfl ?_
      refine r_getf (ci := 6) (T := Fk6) (k := 4) o_M_copy i_M_copy_199 x_M_24 rfl (by decide) rfl (by repeat (first | assumption | exact upw_s | refine (upw_n (by omega)).trans ?_)) (by first | assumption | omega) (by rfl) ?_
      refine r_iload (i := 6) i_M_copy_202 rfl ?_
      refine r_aload_n (i := 0) i_M_copy_204 rfl rfl ?_
      refine r_getf (ci := 6) (T := Fk6) (k := 3) o_M_copy i_M_copy_205 x_M_21 rfl (by decide) rfl (by repeat (first | assumption | exact upw_s | refine (upw_n (by omega)).trans ?_)) (by first | assumption | omega) (by rfl) ?_
      refine r_iload_n (i := 1) i_M_copy_208 rfl rfl ?_
      refine r_aald i_M_copy_209 (by repeat (first | assumption | exact upw_s | refine (upw_n (by omega)).trans ?_)) (by decide) (by first | assumption | omega) (by assumption) r2 ?_
      refine r_iload_n (i := 3) i_M_copy_210 rfl rfl ?_
      refine r_iload (i := 6) i_M_copy_211 rfl ?_
      refine r_iadd i_M_copy_213 ?_
      rw [nI_add]
      refine r_lald i_M_copy_214 (by repeat (first | assumption | exact upw_s | refine (upw_n (by omega)).trans ?_)) (by first | assumption | omega) (by assumption) ?_
      rw [eci]
      refine r_last i_M_copy_215 (by repeat (first | assumption | exact upw_s | refine (upw_n (by omega)).trans ?_)) (by first | assumption | omega) (by assumption) ?_
      rw [ec, mvL_s]
      refine r_iinc_6 (v := (1 : Int32)) i_M_copy_216 rfl (by rw [l_M_copy]; decide) rfl ?_
      refine r_goto 191 i_M_copy_219 (by decide) ?_
      rw [nI_1]
      exact ih' _ h2 (hF.up (by omega) (by omega))
  refine r_iconst (v := (0 : Int32)) i_M_copy_188 rfl ?_
  refine r_istore_6 i_M_copy_189 (by rw [l_M_copy]; decide) rfl ?_
  refine l1 m 0 (by omega) w ?_ mFr.rf
  unfold cp1M
  rw [mL_self (by unfold mvL; funext x; exact if_neg (by omega))]
  exact h
theorem c_M_copy {p q i j m : Int32} (h : MW w o M n) (hM : MHOk M) : Mm G 1 y_M_copy [.ref o, .int p, .int q, .int i, .int j, .int m] w o n (m2_copy M p q i j m) := by
  obtain ⟨m0, mA', mL', m4, m20, m28, mn'⟩ := id h
  have a1 : w (o + 1) = ai 8 (M.2.1 1) := mA' 1 rfl
  have a2 : w (o + 2) = ai 8 (M.2.1 2) := mA' 2 rfl
  have a3 : w (o + 3) = ai 8 (M.2.1 3) := mA' 3 rfl
  refine Mm.of k_M_copy l_M_copy rfl rfl ?_
  unfold m2_copy
  have eR : cpR M p q i j m = if M.2.1 1 p.toNatClampNeg = 2 ∨ M.2.1 1 q.toNatClampNeg = 2 ∨ M.2.1 1 p.toNatClampNeg = 1 ∧ M.2.1 1 q.toNatClampNeg = 1 ∧ ¬ M.2.1 2 p.toNatClampNeg = M.2.1 2 q.toNatClampNeg then 3 else if M.2.1 1 p.toNatClampNeg = 0 ∨ M.2.1 1 q.toNatClampNeg = 0 then 4 else if m < 0 ∨ i < 0 ∨ j < 0 ∨ M.2.1 3 p.toNatClampNeg < m ∨ M.2.1 3 q.toNatClampNeg < m ∨ M.2.1 3 p.toNatClampNeg - m < i ∨ M.2.1 3 q.toNatClampNeg - m < j then 2 else 0 := rfl
  generalize cpR M p q i j m = r at *
  have t86 : lt0 p 8 = true → lt0 q 8 = true → r = 3 → Go G 1 y_M_copy 86 [some (.ref o), some (.int p), some (.int q), some (.int i), some (.int j), some (.int m), none] [] w n 0 0 (fun r9 w' n' => r9 = some (.int (if r = 0 then (m, cpM M p.toNatClampNeg q.toNatClampNeg i.toNatClampNeg j.toNatClampNeg m.toNatClampNeg) else (-nI r, mR M r)).1) ∧ (MW w' o (if r = 0 then (m, cpM M p.toNatClampNeg q.toNatClampNeg i.toNatClampNeg j.toNatClampNeg m.toNatClampNeg) else (-nI r, mR M r)).2 n ∧ mFr w w' o) ∧ n' = n) := by
    intro _ _ e
    subst e
    refine r_aload_n (i := 0) i_M_copy_86 rfl rfl ?_
    refine r_bipush (v := (-3 : Int32)) i_M_copy_87 (by decide) ?_
    refine m_virtual o_M_copy k_M_refuse v_M_refuse x_M_89 i_M_copy_89 o_M_refuse (c_M_refuse (i := 3) h (by decide)) rfl (rcv_ob (by repeat (first | assumption | exact upw_s | refine (upw_n (by omega)).trans ?_)) rfl (by first | assumption | omega)) rfl (by decide) (Nat.le_of_ble_eq_true rfl) (Nat.zero_le _) (Nat.zero_le _) (fun rr89 wr89 nr89 hp9 => ?_)
    obtain ⟨rfl, hp9, rfl⟩ := hp9
    refine r_ireturn i_M_copy_92 t_M_copy rfl ?_
    first | exact ⟨rfl, hp9, rfl⟩ | exact ⟨rfl, ⟨h, fun _ _ => rfl⟩, rfl⟩
  have t111 : r = 4 → Go G 1 y_M_copy 111 [some (.ref o), some (.int p), some (.int q), some (.int i), some (.int j), some (.int m), none] [] w n 0 0 (fun r9 w' n' => r9 = some (.int (if r = 0 then (m, cpM M p.toNatClampNeg q.toNatClampNeg i.toNatClampNeg j.toNatClampNeg m.toNatClampNeg) else (-nI r, mR M r)).1) ∧ (MW w' o (if r = 0 then (m, cpM M p.toNatClampNeg q.toNatClampNeg i.toNatClampNeg j.toNatClampNeg m.toNatClampNeg) else (-nI r, mR M r)).2 n ∧ mFr w w' o) ∧ n' = n) := by
    intro e
    subst e
    refine r_aload_n (i := 0) i_M_copy_111 rfl rfl ?_
    refine r_bipush (v := (-4 : Int32)) i_M_copy_112 (by decide) ?_
    refine m_virtual o_M_copy k_M_refuse v_M_refuse x_M_89 i_M_copy_114 o_M_refuse (c_M_refuse (i := 4) h (by decide)) rfl (rcv_ob (by repeat (first | assumption | exact upw_s | refine (upw_n (by omega)).trans ?_)) rfl (by first | assumption | omega)) rfl (by decide) (Nat.le_of_ble_eq_true rfl) (Nat.zero_le _) (Nat.zero_le _) (fun rr114 wr114 nr114 hp9 => ?_)
    obtain ⟨rfl, hp9, rfl⟩ := hp9
    refine r_ireturn i_M_copy_117 t_M_copy rfl ?_
    first | exact ⟨rfl, hp9, rfl⟩ | exact ⟨rfl, ⟨h, fun _ _ => rfl⟩, rfl⟩
  have t181 : r = 2 → Go G 1 y_M_copy 181 [some (.ref o), some (.int p), some (.int q), some (.int i), some (.int j), some (.int m), none] [] w n 0 0 (fun r9 w' n' => r9 = some (.int (if r = 0 then (m, cpM M p.toNatClampNeg q.toNatClampNeg i.toNatClampNeg j.toNatClampNeg m.toNatClampNeg) else (-nI r, mR M r)).1) ∧ (MW w' o (if r = 0 then (m, cpM M p.toNatClampNeg q.toNatClampNeg i.toNatClampNeg j.toNatClampNeg m.toNatClampNeg) else (-nI r, mR M r)).2 n ∧ mFr w w' o) ∧ n' = n) := by
    intro e
    subst e
    refine r_aload_n (i := 0) i_M_copy_181 rfl rfl ?_
    refine r_bipush (v := (-2 : Int32)) i_M_copy_182 (by decide) ?_
    refine m_virtual o_M_copy k_M_refuse v_M_refuse x_M_89 i_M_copy_184 o_M_refuse (c_M_refuse (i := 2) h (by decide)) rfl (rcv_ob (by repeat (first | assumption | exact upw_s | refine (upw_n (by omega)).trans ?_)) rfl (by first | assumption | omega)) rfl (by decide) (Nat.le_of_ble_eq_true rfl) (Nat.zero_le _) (Nat.zero_le _) (fun rr184 wr184 nr184 hp9 => ?_)
    obtain ⟨rfl, hp9, rfl⟩ := hp9
    refine r_ireturn i_M_copy_187 t_M_copy rfl ?_
    first | exact ⟨rfl, hp9, rfl⟩ | exact ⟨rfl, ⟨h, fun _ _ => rfl⟩, rfl⟩
  have t93 : lt0 p 8 = true → lt0 q 8 = true → ¬ (M.2.1 1 p.toNatClampNeg = 2 ∨ M.2.1 1 q.toNatClampNeg = 2 ∨ M.2.1 1 p.toNatClampNeg = 1 ∧ M.2.1 1 q.toNatClampNeg = 1 ∧ ¬ M.2.1 2 p.toNatClampNeg = M.2.1 2 q.toNatClampNeg) → Go G 1 y_M_copy 93 [some (.ref o), some (.int p), some (.int q), some (.int i), some (.int j), some (.int m), none] [] w n 0 0 (fun r9 w' n' => r9 = some (.int (if r = 0 then (m, cpM M p.toNatClampNeg q.toNatClampNeg i.toNatClampNeg j.toNatClampNeg m.toNatClampNeg) else (-nI r, mR M r)).1) ∧ (MW w' o (if r = 0 then (m, cpM M p.toNatClampNeg q.toNatClampNeg i.toNatClampNeg j.toNatClampNeg m.toNatClampNeg) else (-nI r, mR M r)).2 n ∧ mFr w w' o) ∧ n' = n) := by
    intro hp hq hn
    rw [if_neg hn] at eR
    obtain ⟨p, hp8, rfl⟩ := lt0_of (N := 8) (by decide) hp
    obtain ⟨q, hq8, rfl⟩ := lt0_of (N := 8) (by decide) hq
    have ip : vp_in (nI p) 8 := vp_in_nI hp8 (by decide)
    have iq : vp_in (nI q) 8 := vp_in_nI hq8 (by decide)
    have ecp : (nI p).toNatClampNeg = p := nI_clamp (by omega)
    have ecq : (nI q).toNatClampNeg = q := nI_clamp (by omega)
    rw [ecp, ecq] at t111 t181 eR hn ⊢
    obtain ⟨-, -, za, hza, eza⟩ := hM p hp8
    obtain ⟨-, -, zb, hzb, ezb⟩ := hM q hq8
    refine r_aload_n (i := 0) i_M_copy_93 rfl rfl ?_
    refine r_getf (ci := 6) (T := Fk6) (k := 0) o_M_copy i_M_copy_94 x_M_7 rfl (by decide) rfl (by repeat (first | assumption | exact upw_s | refine (upw_n (by omega)).trans ?_)) (by first | assumption | omega) (by rfl) ?_
    refine r_iload_n (i := 1) i_M_copy_97 rfl rfl ?_
    refine r_iald i_M_copy_98 (by repeat (first | assumption | exact upw_s | refine (upw_n (by omega)).trans ?_)) (by first | assumption | omega) (by assumption) ?_
    rw [ecp]
    refine r_if_eq 111 i_M_copy_99 (by decide) (fun h99 => ?_) (fun h99 => ?_)
    · skip
      rw [if_pos (Or.inl h99)] at eR
      exact t111 eR
    · skip
      refine r_aload_n (i := 0) i_M_copy_102 rfl rfl ?_
      refine r_getf (ci := 6) (T := Fk6) (k := 0) o_M_copy i_M_copy_103 x_M_7 rfl (by decide) rfl (by repeat (first | assumption | exact upw_s | refine (upw_n (by omega)).trans ?_)) (by first | assumption | omega) (by rfl) ?_
      refine r_iload_n (i := 2) i_M_copy_106 rfl rfl ?_
      refine r_iald i_M_copy_107 (by repeat (first | assumption | exact upw_s | refine (upw_n (by omega)).trans ?_)) (by first | assumption | omega) (by assumption) ?_
      rw [ecq]
      refine r_if_ne 118 i_M_copy_108 (by decide) (fun h108 => ?_) (fun h108 => ?_)
      · skip
        rw [if_neg (fun z => z.elim h99 h108)] at eR
        refine r_iload (i := 5) i_M_copy_118 rfl ?_
        refine r_if_lt 181 i_M_copy_120 (by decide) (fun h120 => ?_) (fun h120 => ?_)
        · skip
          rw [if_pos (Or.inl h120)] at eR
          exact t181 eR
        · skip
          refine r_iload_n (i := 3) i_M_copy_123 rfl rfl ?_
          refine r_if_lt 181 i_M_copy_124 (by decide) (fun h124 => ?_) (fun h124 => ?_)
          · skip
            rw [if_pos (Or.inr (Or.inl h124))] at eR
            exact t181 eR
          · skip
            refine r_iload (i := 4) i_M_copy_127 rfl ?_
            refine r_if_lt 181 i_M_copy_129 (by decide) (fun h129 => ?_) (fun h129 => ?_)
            · skip
              rw [if_pos (Or.inr (Or.inr (Or.inl h129)))] at eR
              exact t181 eR
            · skip
              refine r_iload (i := 5) i_M_copy_132 rfl ?_
              refine r_aload_n (i := 0) i_M_copy_134 rfl rfl ?_
              refine r_getf (ci := 6) (T := Fk6) (k := 2) o_M_copy i_M_copy_135 x_M_16 rfl (by decide) rfl (by repeat (first | assumption | exact upw_s | refine (upw_n (by omega)).trans ?_)) (by first | assumption | omega) (by rfl) ?_
              refine r_iload_n (i := 1) i_M_copy_138 rfl rfl ?_
              refine r_iald i_M_copy_139 (by repeat (first | assumption | exact upw_s | refine (upw_n (by omega)).trans ?_)) (by first | assumption | omega) (by assumption) ?_
              rw [ecp]
              refine r_icmp_gt 181 i_M_copy_140 (by decide) (fun h140 => ?_) (fun h140 => ?_)
              · skip
                rw [if_pos (Or.inr (Or.inr (Or.inr (Or.inl h140))))] at eR
                exact t181 eR
              · skip
                refine r_iload (i := 5) i_M_copy_143 rfl ?_
                refine r_aload_n (i := 0) i_M_copy_145 rfl rfl ?_
                refine r_getf (ci := 6) (T := Fk6) (k := 2) o_M_copy i_M_copy_146 x_M_16 rfl (by decide) rfl (by repeat (first | assumption | exact upw_s | refine (upw_n (by omega)).trans ?_)) (by first | assumption | omega) (by rfl) ?_
                refine r_iload_n (i := 2) i_M_copy_149 rfl rfl ?_
                refine r_iald i_M_copy_150 (by repeat (first | assumption | exact upw_s | refine (upw_n (by omega)).trans ?_)) (by first | assumption | omega) (by assumption) ?_
                rw [ecq]
                refine r_icmp_gt 181 i_M_copy_151 (by decide) (fun h151 => ?_) (fun h151 => ?_)
                · skip
                  rw [if_pos (Or.inr (Or.inr (Or.inr (Or.inr (Or.inl h151)))))] at eR
                  exact t181 eR
                · skip
                  refine r_iload_n (i := 3) i_M_copy_154 rfl rfl ?_
                  refine r_aload_n (i := 0) i_M_copy_155 rfl rfl ?_
                  refine r_getf (ci := 6) (T := Fk6) (k := 2) o_M_copy i_M_copy_156 x_M_16 rfl (by decide) rfl (by repeat (first | assumption | exact upw_s | refine (upw_n (by omega)).trans ?_)) (by first | assumption | omega) (by rfl) ?_
                  refine r_iload_n (i := 1) i_M_copy_159 rfl rfl ?_
                  refine r_iald i_M_copy_160 (by repeat (first | assumption | exact upw_s | refine (upw_n (by omega)).trans ?_)) (by first | assumption | omega) (by assumption) ?_
                  rw [ecp]
                  refine r_iload (i := 5) i_M_copy_161 rfl ?_
                  refine r_isub i_M_copy_163 ?_
                  refine r_icmp_gt 181 i_M_copy_164 (by decide) (fun h164 => ?_) (fun h164 => ?_)
                  · skip
                    rw [if_pos (Or.inr (Or.inr (Or.inr (Or.inr (Or.inr (Or.inl h164))))))] at eR
                    exact t181 eR
                  · skip
                    refine r_iload (i := 4) i_M_copy_167 rfl ?_
                    refine r_aload_n (i := 0) i_M_copy_169 rfl rfl ?_
                    refine r_getf (ci := 6) (T := Fk6) (k := 2) o_M_copy i_M_copy_170 x_M_16 rfl (by decide) rfl (by repeat (first | assumption | exact upw_s | refine (upw_n (by omega)).trans ?_)) (by first | assumption | omega) (by rfl) ?_
                    refine r_iload_n (i := 2) i_M_copy_173 rfl rfl ?_
                    refine r_iald i_M_copy_174 (by repeat (first | assumption | exact upw_s | refine (upw_n (by omega)).trans ?_)) (by first | assumption | omega) (by assumption) ?_
                    rw [ecq]
                    refine r_iload (i := 5) i_M_copy_175 rfl ?_
                    refine r_isub i_M_copy_177 ?_
                    refine r_icmp_le 188 i_M_copy_178 (by decide) (fun h178 => ?_) (fun h178 => ?_)
                    · skip
                      rw [if_neg (fun z => z.elim h120 (fun z => z.elim h124 (fun z => z.elim h129 (fun z => z.elim h140 (fun z => z.elim h151 (fun z => z.elim h164 (fun z => absurd h178 (Int32.not_le.mpr z))))))))] at eR
                      obtain ⟨m, hm, rfl⟩ := nI_of h120
                      obtain ⟨i, hi, rfl⟩ := nI_of h124
                      obtain ⟨j, hj, rfl⟩ := nI_of h129
                      rw [eza] at h164 h140
                      rw [ezb] at h178 h151
                      have h178 := Int32.not_lt.mpr h178
                      rw [Int32.lt_iff_toInt_lt, Int32.toInt_sub, toInt_nI (by omega), toInt_nI hm, toInt_nI hi] at h164
                      rw [Int32.lt_iff_toInt_lt, Int32.toInt_sub, toInt_nI (by omega), toInt_nI hm, toInt_nI hj] at h178
                      rw [show ((za : Int) - (m : Int)).bmod (2 ^ 32) = (za : Int) - (m : Int) from Int.bmod_eq_of_le (by omega) (by omega)] at h164
                      rw [show ((zb : Int) - (m : Int)).bmod (2 ^ 32) = (zb : Int) - (m : Int) from Int.bmod_eq_of_le (by omega) (by omega)] at h178
                      rw [if_pos eR, nI_clamp hm, nI_clamp hi, nI_clamp hj]
                      exact copy_188 (a := za) (b := zb) h hp8 hq8 (by omega) hza (by omega) hzb
                    · skip
                      rw [if_pos (Or.inr (Or.inr (Or.inr (Or.inr (Or.inr (Or.inr (Int32.not_le.mp h178)))))))] at eR
                      exact t181 eR
      · skip
        rw [if_pos (Or.inr h108)] at eR
        exact t111 eR
  refine r_iload_n (i := 1) i_M_copy_0 rfl rfl ?_
  refine r_i2l i_M_copy_1 ?_
  refine r_lconst (v := (0 : Int64)) i_M_copy_2 rfl ?_
  refine r_ldc2 o_M_copy i_M_copy_3 x_M_83 ?_
  refine f_static o_M_copy k_M_in s_M_in x_M_76 i_M_copy_6 (c_M_in) rfl rfl (by decide) (Nat.le_of_ble_eq_true rfl) ?_
  rw [in_07]
  refine r_if_eq 24 i_M_copy_9 (by decide) (fun h9 => ?_) (fun h9 => ?_)
  · skip
    have h9 := bI_eq0.mp h9
    try rw [h9]
    refine r_aload_n (i := 0) i_M_copy_24 rfl rfl ?_
    refine r_bipush (v := (-2 : Int32)) i_M_copy_25 (by decide) ?_
    refine m_virtual o_M_copy k_M_refuse v_M_refuse x_M_89 i_M_copy_27 o_M_refuse (c_M_refuse (i := 2) h (by decide)) rfl (rcv_ob (by repeat (first | assumption | exact upw_s | refine (upw_n (by omega)).trans ?_)) rfl (by first | assumption | omega)) rfl (by decide) (Nat.le_of_ble_eq_true rfl) (Nat.zero_le _) (Nat.zero_le _) (fun rr27 wr27 nr27 hp9 => ?_)
    obtain ⟨rfl, hp9, rfl⟩ := hp9
    refine r_ireturn i_M_copy_30 t_M_copy rfl ?_
    first | exact ⟨rfl, hp9, rfl⟩ | exact ⟨rfl, ⟨h, fun _ _ => rfl⟩, rfl⟩
  · skip
    have h9 := bI_ne0.mp h9
    try rw [h9]
    refine r_iload_n (i := 2) i_M_copy_12 rfl rfl ?_
    refine r_i2l i_M_copy_13 ?_
    refine r_lconst (v := (0 : Int64)) i_M_copy_14 rfl ?_
    refine r_ldc2 o_M_copy i_M_copy_15 x_M_83 ?_
    refine f_static o_M_copy k_M_in s_M_in x_M_76 i_M_copy_18 (c_M_in) rfl rfl (by decide) (Nat.le_of_ble_eq_true rfl) ?_
    rw [in_07]
    refine r_if_ne 31 i_M_copy_21 (by decide) (fun h21 => ?_) (fun h21 => ?_)
    · skip
      have h21 := bI_ne0.mp h21
      try rw [h21]
      rw [if_pos (show (true && true) = true from rfl)]
      have t86 := t86 h9 h21
      have t93 := t93 h9 h21
      obtain ⟨p, hp8, rfl⟩ := lt0_of (N := 8) (by decide) h9
      obtain ⟨q, hq8, rfl⟩ := lt0_of (N := 8) (by decide) h21
      have ip : vp_in (nI p) 8 := vp_in_nI hp8 (by decide)
      have iq : vp_in (nI q) 8 := vp_in_nI hq8 (by decide)
      refine r_aload_n (i := 0) i_M_copy_31 rfl rfl ?_
      refine r_getf (ci := 6) (T := Fk6) (k := 0) o_M_copy i_M_copy_32 x_M_7 rfl (by decide) rfl (by repeat (first | assumption | exact upw_s | refine (upw_n (by omega)).trans ?_)) (by first | assumption | omega) (by rfl) ?_
      refine r_iload_n (i := 1) i_M_copy_35 rfl rfl ?_
      refine r_iald i_M_copy_36 (by repeat (first | assumption | exact upw_s | refine (upw_n (by omega)).trans ?_)) (by first | assumption | omega) (by assumption) ?_
      refine r_iconst (v := (2 : Int32)) i_M_copy_37 rfl ?_
      refine r_icmp_eq 86 i_M_copy_38 (by decide) (fun h38 => ?_) (fun h38 => ?_)
      · skip
        rw [if_pos (Or.inl h38)] at eR
        exact t86 eR
      · skip
        refine r_aload_n (i := 0) i_M_copy_41 rfl rfl ?_
        refine r_getf (ci := 6) (T := Fk6) (k := 0) o_M_copy i_M_copy_42 x_M_7 rfl (by decide) rfl (by repeat (first | assumption | exact upw_s | refine (upw_n (by omega)).trans ?_)) (by first | assumption | omega) (by rfl) ?_
        refine r_iload_n (i := 2) i_M_copy_45 rfl rfl ?_
        refine r_iald i_M_copy_46 (by repeat (first | assumption | exact upw_s | refine (upw_n (by omega)).trans ?_)) (by first | assumption | omega) (by assumption) ?_
        refine r_iconst (v := (2 : Int32)) i_M_copy_47 rfl ?_
        refine r_icmp_eq 86 i_M_copy_48 (by decide) (fun h48 => ?_) (fun h48 => ?_)
        · skip
          rw [if_pos (Or.inr (Or.inl h48))] at eR
          exact t86 eR
        · skip
          refine r_aload_n (i := 0) i_M_copy_51 rfl rfl ?_
          refine r_getf (ci := 6) (T := Fk6) (k := 0) o_M_copy i_M_copy_52 x_M_7 rfl (by decide) rfl (by repeat (first | assumption | exact upw_s | refine (upw_n (by omega)).trans ?_)) (by first | assumption | omega) (by rfl) ?_
          refine r_iload_n (i := 1) i_M_copy_55 rfl rfl ?_
          refine r_iald i_M_copy_56 (by repeat (first | assumption | exact upw_s | refine (upw_n (by omega)).trans ?_)) (by first | assumption | omega) (by assumption) ?_
          refine r_iconst (v := (1 : Int32)) i_M_copy_57 rfl ?_
          refine r_icmp_ne 93 i_M_copy_58 (by decide) (fun h58 => ?_) (fun h58 => ?_)
          · skip
            have t93 := t93 (fun z => z.elim h38 (fun z => z.elim h48 (fun z => h58 z.1)))
            exact t93
          · skip
            refine r_aload_n (i := 0) i_M_copy_61 rfl rfl ?_
            refine r_getf (ci := 6) (T := Fk6) (k := 0) o_M_copy i_M_copy_62 x_M_7 rfl (by decide) rfl (by repeat (first | assumption | exact upw_s | refine (upw_n (by omega)).trans ?_)) (by first | assumption | omega) (by rfl) ?_
            refine r_iload_n (i := 2) i_M_copy_65 rfl rfl ?_
            refine r_iald i_M_copy_66 (by repeat (first | assumption | exact upw_s | refine (upw_n (by omega)).trans ?_)) (by first | assumption | omega) (by assumption) ?_
            refine r_iconst (v := (1 : Int32)) i_M_copy_67 rfl ?_
            refine r_icmp_ne 93 i_M_copy_68 (by decide) (fun h68 => ?_) (fun h68 => ?_)
            · skip
              have t93 := t93 (fun z => z.elim h38 (fun z => z.elim h48 (fun z => h68 z.2.1)))
              exact t93
            · skip
              refine r_aload_n (i := 0) i_M_copy_71 rfl rfl ?_
              refine r_getf (ci := 6) (T := Fk6) (k := 1) o_M_copy i_M_copy_72 x_M_13 rfl (by decide) rfl (by repeat (first | assumption | exact upw_s | refine (upw_n (by omega)).trans ?_)) (by first | assumption | omega) (by rfl) ?_
              refine r_iload_n (i := 1) i_M_copy_75 rfl rfl ?_
              refine r_iald i_M_copy_76 (by repeat (first | assumption | exact upw_s | refine (upw_n (by omega)).trans ?_)) (by first | assumption | omega) (by assumption) ?_
              refine r_aload_n (i := 0) i_M_copy_77 rfl rfl ?_
              refine r_getf (ci := 6) (T := Fk6) (k := 1) o_M_copy i_M_copy_78 x_M_13 rfl (by decide) rfl (by repeat (first | assumption | exact upw_s | refine (upw_n (by omega)).trans ?_)) (by first | assumption | omega) (by rfl) ?_
              refine r_iload_n (i := 2) i_M_copy_81 rfl rfl ?_
              refine r_iald i_M_copy_82 (by repeat (first | assumption | exact upw_s | refine (upw_n (by omega)).trans ?_)) (by first | assumption | omega) (by assumption) ?_
              refine r_icmp_eq 93 i_M_copy_83 (by decide) (fun h83 => ?_) (fun h83 => ?_)
              · skip
                have t93 := t93 (fun z => z.elim h38 (fun z => z.elim h48 (fun z => z.2.2 h83)))
                exact t93
              · skip
                rw [if_pos (Or.inr (Or.inr ⟨h58, h68, h83⟩))] at eR
                exact t86 eR
    · skip
      have h21 := bI_eq0.mp h21
      try rw [h21]
      refine r_aload_n (i := 0) i_M_copy_24 rfl rfl ?_
      refine r_bipush (v := (-2 : Int32)) i_M_copy_25 (by decide) ?_
      refine m_virtual o_M_copy k_M_refuse v_M_refuse x_M_89 i_M_copy_27 o_M_refuse (c_M_refuse (i := 2) h (by decide)) rfl (rcv_ob (by repeat (first | assumption | exact upw_s | refine (upw_n (by omega)).trans ?_)) rfl (by first | assumption | omega)) rfl (by decide) (Nat.le_of_ble_eq_true rfl) (Nat.zero_le _) (Nat.zero_le _) (fun rr27 wr27 nr27 hp9 => ?_)
      obtain ⟨rfl, hp9, rfl⟩ := hp9
      refine r_ireturn i_M_copy_30 t_M_copy rfl ?_
      first | exact ⟨rfl, hp9, rfl⟩ | exact ⟨rfl, ⟨h, fun _ _ => rfl⟩, rfl⟩
def cnS (M : aM) : Nat → Int32
  | 0 => 0
  | s + 1 => if M.2.1 1 s = 0 then cnS M s else cnS M s + 1
def stM2 (M : aM) (k : Nat) : Int32 := if k = 8 then M.1 8 else if k = 10 then cnS M 8 else if k = 0 then M.1 10 else if k = 1 then M.1 13 else if k = 2 then M.1 17 else if k = 3 then M.1 18 else if k = 9 then M.1 19 else M.2.1 36 (k - 4)
def m2_status (M : aM) (k : Int32) : Int32 × aM := (if lt0 k 11 = true then stM2 M k.toNatClampNeg else if wi0 k 12 16 = true then M.2.1 17 (k - 10).toNatClampNeg else -1, M)
theorem sttM_0 (h : MW w o M n) : Go G 1 y_M_status 0 [some (.ref o), some (.int 0), none, none] [] w n 0 0 (fun r w' n' => r = some (.int (stM2 M 0)) ∧ (MW w' o M n ∧ mFr w w' o) ∧ n' = n) := by
  obtain ⟨m0, mA', mL', m4, m20, m28, mn'⟩ := id h
  refine r_iconst (v := (0 : Int32)) i_M_status_0 rfl ?_
  refine r_istore_2 i_M_status_1 (by rw [l_M_status]; decide) rfl ?_
  refine r_iload_n (i := 1) i_M_status_2 rfl rfl ?_
  refine r_tableIn 60 i_M_status_3 (by decide) (by decide) (by rfl) (by decide) ?_
  refine r_aload_n (i := 0) i_M_status_60 rfl rfl ?_
  refine r_getf (ci := 6) (T := Fk6) (k := 10) o_M_status i_M_status_61 x_M_73 rfl (by decide) rfl (by repeat (first | assumption | exact upw_s | refine (upw_n (by omega)).trans ?_)) (by first | assumption | omega) (by rfl) ?_
  refine r_ireturn i_M_status_64 t_M_status rfl ?_
  first | exact ⟨rfl, hp9, rfl⟩ | exact ⟨rfl, ⟨h, fun _ _ => rfl⟩, rfl⟩
theorem sttM_1 (h : MW w o M n) : Go G 1 y_M_status 0 [some (.ref o), some (.int 1), none, none] [] w n 0 0 (fun r w' n' => r = some (.int (stM2 M 1)) ∧ (MW w' o M n ∧ mFr w w' o) ∧ n' = n) := by
  obtain ⟨m0, mA', mL', m4, m20, m28, mn'⟩ := id h
  refine r_iconst (v := (0 : Int32)) i_M_status_0 rfl ?_
  refine r_istore_2 i_M_status_1 (by rw [l_M_status]; decide) rfl ?_
  refine r_iload_n (i := 1) i_M_status_2 rfl rfl ?_
  refine r_tableIn 65 i_M_status_3 (by decide) (by decide) (by rfl) (by decide) ?_
  refine r_aload_n (i := 0) i_M_status_65 rfl rfl ?_
  refine r_getf (ci := 6) (T := Fk6) (k := 13) o_M_status i_M_status_66 x_M_80 rfl (by decide) rfl (by repeat (first | assumption | exact upw_s | refine (upw_n (by omega)).trans ?_)) (by first | assumption | omega) (by rfl) ?_
  refine r_ireturn i_M_status_69 t_M_status rfl ?_
  first | exact ⟨rfl, hp9, rfl⟩ | exact ⟨rfl, ⟨h, fun _ _ => rfl⟩, rfl⟩
theorem sttM_2 (h : MW w o M n) : Go G 1 y_M_status 0 [some (.ref o), some (.int 2), none, none] [] w n 0 0 (fun r w' n' => r = some (.int (stM2 M 2)) ∧ (MW w' o M n ∧ mFr w w' o) ∧ n' = n) := by
  obtain ⟨m0, mA', mL', m4, m20, m28, mn'⟩ := id h
  refine r_iconst (v := (0 : Int32)) i_M_status_0 rfl ?_
  refine r_istore_2 i_M_status_1 (by rw [l_M_status]; decide) rfl ?_
  refine r_iload_n (i := 1) i_M_status_2 rfl rfl ?_
  refine r_tableIn 70 i_M_status_3 (by decide) (by decide) (by rfl) (by decide) ?_
  refine r_aload_n (i := 0) i_M_status_70 rfl rfl ?_
  refine r_getf (ci := 6) (T := Fk6) (k := 17) o_M_status i_M_status_71 x_M_279 rfl (by decide) rfl (by repeat (first | assumption | exact upw_s | refine (upw_n (by omega)).trans ?_)) (by first | assumption | omega) (by rfl) ?_
  refine r_ireturn i_M_status_74 t_M_status rfl ?_
  first | exact ⟨rfl, hp9, rfl⟩ | exact ⟨rfl, ⟨h, fun _ _ => rfl⟩, rfl⟩
theorem sttM_3 (h : MW w o M n) : Go G 1 y_M_status 0 [some (.ref o), some (.int 3), none, none] [] w n 0 0 (fun r w' n' => r = some (.int (stM2 M 3)) ∧ (MW w' o M n ∧ mFr w w' o) ∧ n' = n) := by
  obtain ⟨m0, mA', mL', m4, m20, m28, mn'⟩ := id h
  refine r_iconst (v := (0 : Int32)) i_M_status_0 rfl ?_
  refine r_istore_2 i_M_status_1 (by rw [l_M_status]; decide) rfl ?_
  refine r_iload_n (i := 1) i_M_status_2 rfl rfl ?_
  refine r_tableIn 75 i_M_status_3 (by decide) (by decide) (by rfl) (by decide) ?_
  refine r_aload_n (i := 0) i_M_status_75 rfl rfl ?_
  refine r_getf (ci := 6) (T := Fk6) (k := 18) o_M_status i_M_status_76 x_M_282 rfl (by decide) rfl (by repeat (first | assumption | exact upw_s | refine (upw_n (by omega)).trans ?_)) (by first | assumption | omega) (by rfl) ?_
  refine r_ireturn i_M_status_79 t_M_status rfl ?_
  first | exact ⟨rfl, hp9, rfl⟩ | exact ⟨rfl, ⟨h, fun _ _ => rfl⟩, rfl⟩
theorem sttM_4 (h : MW w o M n) : Go G 1 y_M_status 0 [some (.ref o), some (.int 4), none, none] [] w n 0 0 (fun r w' n' => r = some (.int (stM2 M 4)) ∧ (MW w' o M n ∧ mFr w w' o) ∧ n' = n) := by
  obtain ⟨m0, mA', mL', m4, m20, m28, mn'⟩ := id h
  have a36 : w (o + 36) = ai 4 (M.2.1 36) := mA' 36 rfl
  obtain ⟨j0, j1, j2, j3⟩ := v4
  refine r_iconst (v := (0 : Int32)) i_M_status_0 rfl ?_
  refine r_istore_2 i_M_status_1 (by rw [l_M_status]; decide) rfl ?_
  refine r_iload_n (i := 1) i_M_status_2 rfl rfl ?_
  refine r_tableIn 123 i_M_status_3 (by decide) (by decide) (by rfl) (by decide) ?_
  refine r_iload_n (i := 1) i_M_status_123 rfl rfl ?_
  refine r_i2l i_M_status_124 ?_
  refine r_ldc2 o_M_status i_M_status_125 x_M_85 ?_
  refine r_ldc2 o_M_status i_M_status_128 x_M_83 ?_
  refine f_static o_M_status k_M_in s_M_in x_M_76 i_M_status_131 (c_M_in) rfl rfl (by decide) (Nat.le_of_ble_eq_true rfl) ?_
  rw [in_47]
  refine r_if_eq 148 i_M_status_134 (by decide) (fun h134 => ?_) (fun h134 => ?_)
  · first
    | exact absurd h134 (by decide)
    | skip
      refine r_iload_n (i := 1) i_M_status_148 rfl rfl ?_
      refine r_i2l i_M_status_149 ?_
      refine r_ldc2 o_M_status i_M_status_150 x_M_356 ?_
      refine r_ldc2 o_M_status i_M_status_153 x_M_358 ?_
      refine f_static o_M_status k_M_in s_M_in x_M_76 i_M_status_156 (c_M_in) rfl rfl (by decide) (Nat.le_of_ble_eq_true rfl) ?_
      refine r_if_eq 174 i_M_status_159 (by decide) (fun h159 => ?_) (fun h159 => ?_)
      · first
        | exact absurd h159 (by decide)
        | skip
          refine r_iconst (v := (-1 : Int32)) i_M_status_174 rfl ?_
          refine r_ireturn i_M_status_175 t_M_status rfl ?_
          first | exact ⟨rfl, hp9, rfl⟩ | exact ⟨rfl, ⟨h, fun _ _ => rfl⟩, rfl⟩
      · first
        | exact absurd h159 (by decide)
        | skip
          refine r_aload_n (i := 0) i_M_status_162 rfl rfl ?_
          refine r_getf (ci := 6) (T := Fk6) (k := 9) o_M_status i_M_status_163 x_M_37 rfl (by decide) rfl (by repeat (first | assumption | exact upw_s | refine (upw_n (by omega)).trans ?_)) (by first | assumption | omega) (by rfl) ?_
          refine r_iload_n (i := 1) i_M_status_166 rfl rfl ?_
          refine r_bipush (v := (10 : Int32)) i_M_status_167 (by decide) ?_
          refine r_isub i_M_status_169 ?_
          refine r_iald i_M_status_170 (by repeat (first | assumption | exact upw_s | refine (upw_n (by omega)).trans ?_)) (by first | assumption | omega) (by assumption) ?_
          refine r_goto 175 i_M_status_171 (by decide) ?_
          refine r_ireturn i_M_status_175 t_M_status rfl ?_
          first | exact ⟨rfl, hp9, rfl⟩ | exact ⟨rfl, ⟨h, fun _ _ => rfl⟩, rfl⟩
  · first
    | exact absurd h134 (by decide)
    | skip
      refine r_aload_n (i := 0) i_M_status_137 rfl rfl ?_
      refine r_getf (ci := 6) (T := Fk6) (k := 16) o_M_status i_M_status_138 x_M_54 rfl (by decide) rfl (by repeat (first | assumption | exact upw_s | refine (upw_n (by omega)).trans ?_)) (by first | assumption | omega) (by rfl) ?_
      refine r_iload_n (i := 1) i_M_status_141 rfl rfl ?_
      refine r_iconst (v := (4 : Int32)) i_M_status_142 rfl ?_
      refine r_isub i_M_status_143 ?_
      refine r_iald i_M_status_144 (by repeat (first | assumption | exact upw_s | refine (upw_n (by omega)).trans ?_)) (by first | assumption | omega) j0 ?_
      refine r_goto 175 i_M_status_145 (by decide) ?_
      refine r_ireturn i_M_status_175 t_M_status rfl ?_
      first | exact ⟨rfl, hp9, rfl⟩ | exact ⟨rfl, ⟨h, fun _ _ => rfl⟩, rfl⟩
theorem sttM_5 (h : MW w o M n) : Go G 1 y_M_status 0 [some (.ref o), some (.int 5), none, none] [] w n 0 0 (fun r w' n' => r = some (.int (stM2 M 5)) ∧ (MW w' o M n ∧ mFr w w' o) ∧ n' = n) := by
  obtain ⟨m0, mA', mL', m4, m20, m28, mn'⟩ := id h
  have a36 : w (o + 36) = ai 4 (M.2.1 36) := mA' 36 rfl
  obtain ⟨j0, j1, j2, j3⟩ := v4
  refine r_iconst (v := (0 : Int32)) i_M_status_0 rfl ?_
  refine r_istore_2 i_M_status_1 (by rw [l_M_status]; decide) rfl ?_
  refine r_iload_n (i := 1) i_M_status_2 rfl rfl ?_
  refine r_tableIn 123 i_M_status_3 (by decide) (by decide) (by rfl) (by decide) ?_
  refine r_iload_n (i := 1) i_M_status_123 rfl rfl ?_
  refine r_i2l i_M_status_124 ?_
  refine r_ldc2 o_M_status i_M_status_125 x_M_85 ?_
  refine r_ldc2 o_M_status i_M_status_128 x_M_83 ?_
  refine f_static o_M_status k_M_in s_M_in x_M_76 i_M_status_131 (c_M_in) rfl rfl (by decide) (Nat.le_of_ble_eq_true rfl) ?_
  rw [in_47]
  refine r_if_eq 148 i_M_status_134 (by decide) (fun h134 => ?_) (fun h134 => ?_)
  · first
    | exact absurd h134 (by decide)
    | skip
      refine r_iload_n (i := 1) i_M_status_148 rfl rfl ?_
      refine r_i2l i_M_status_149 ?_
      refine r_ldc2 o_M_status i_M_status_150 x_M_356 ?_
      refine r_ldc2 o_M_status i_M_status_153 x_M_358 ?_
      refine f_static o_M_status k_M_in s_M_in x_M_76 i_M_status_156 (c_M_in) rfl rfl (by decide) (Nat.le_of_ble_eq_true rfl) ?_
      refine r_if_eq 174 i_M_status_159 (by decide) (fun h159 => ?_) (fun h159 => ?_)
      · first
        | exact absurd h159 (by decide)
        | skip
          refine r_iconst (v := (-1 : Int32)) i_M_status_174 rfl ?_
          refine r_ireturn i_M_status_175 t_M_status rfl ?_
          first | exact ⟨rfl, hp9, rfl⟩ | exact ⟨rfl, ⟨h, fun _ _ => rfl⟩, rfl⟩
      · first
        | exact absurd h159 (by decide)
        | skip
          refine r_aload_n (i := 0) i_M_status_162 rfl rfl ?_
          refine r_getf (ci := 6) (T := Fk6) (k := 9) o_M_status i_M_status_163 x_M_37 rfl (by decide) rfl (by repeat (first | assumption | exact upw_s | refine (upw_n (by omega)).trans ?_)) (by first | assumption | omega) (by rfl) ?_
          refine r_iload_n (i := 1) i_M_status_166 rfl rfl ?_
          refine r_bipush (v := (10 : Int32)) i_M_status_167 (by decide) ?_
          refine r_isub i_M_status_169 ?_
          refine r_iald i_M_status_170 (by repeat (first | assumption | exact upw_s | refine (upw_n (by omega)).trans ?_)) (by first | assumption | omega) (by assumption) ?_
          refine r_goto 175 i_M_status_171 (by decide) ?_
          refine r_ireturn i_M_status_175 t_M_status rfl ?_
          first | exact ⟨rfl, hp9, rfl⟩ | exact ⟨rfl, ⟨h, fun _ _ => rfl⟩, rfl⟩
  · first
    | exact absurd h134 (by decide)
    | skip
      refine r_aload_n (i := 0) i_M_status_137 rfl rfl ?_
      refine r_getf (ci := 6) (T := Fk6) (k := 16) o_M_status i_M_status_138 x_M_54 rfl (by decide) rfl (by repeat (first | assumption | exact upw_s | refine (upw_n (by omega)).trans ?_)) (by first | assumption | omega) (by rfl) ?_
      refine r_iload_n (i := 1) i_M_status_141 rfl rfl ?_
      refine r_iconst (v := (4 : Int32)) i_M_status_142 rfl ?_
      refine r_isub i_M_status_143 ?_
      refine r_iald i_M_status_144 (by repeat (first | assumption | exact upw_s | refine (upw_n (by omega)).trans ?_)) (by first | assumption | omega) j1 ?_
      refine r_goto 175 i_M_status_145 (by decide) ?_
      refine r_ireturn i_M_status_175 t_M_status rfl ?_
      first | exact ⟨rfl, hp9, rfl⟩ | exact ⟨rfl, ⟨h, fun _ _ => rfl⟩, rfl⟩
theorem sttM_6 (h : MW w o M n) : Go G 1 y_M_status 0 [some (.ref o), some (.int 6), none, none] [] w n 0 0 (fun r w' n' => r = some (.int (stM2 M 6)) ∧ (MW w' o M n ∧ mFr w w' o) ∧ n' = n) := by
  obtain ⟨m0, mA', mL', m4, m20, m28, mn'⟩ := id h
  have a36 : w (o + 36) = ai 4 (M.2.1 36) := mA' 36 rfl
  obtain ⟨j0, j1, j2, j3⟩ := v4
  refine r_iconst (v := (0 : Int32)) i_M_status_0 rfl ?_
  refine r_istore_2 i_M_status_1 (by rw [l_M_status]; decide) rfl ?_
  refine r_iload_n (i := 1) i_M_status_2 rfl rfl ?_
  refine r_tableIn 123 i_M_status_3 (by decide) (by decide) (by rfl) (by decide) ?_
  refine r_iload_n (i := 1) i_M_status_123 rfl rfl ?_
  refine r_i2l i_M_status_124 ?_
  refine r_ldc2 o_M_status i_M_status_125 x_M_85 ?_
  refine r_ldc2 o_M_status i_M_status_128 x_M_83 ?_
  refine f_static o_M_status k_M_in s_M_in x_M_76 i_M_status_131 (c_M_in) rfl rfl (by decide) (Nat.le_of_ble_eq_true rfl) ?_
  rw [in_47]
  refine r_if_eq 148 i_M_status_134 (by decide) (fun h134 => ?_) (fun h134 => ?_)
  · first
    | exact absurd h134 (by decide)
    | skip
      refine r_iload_n (i := 1) i_M_status_148 rfl rfl ?_
      refine r_i2l i_M_status_149 ?_
      refine r_ldc2 o_M_status i_M_status_150 x_M_356 ?_
      refine r_ldc2 o_M_status i_M_status_153 x_M_358 ?_
      refine f_static o_M_status k_M_in s_M_in x_M_76 i_M_status_156 (c_M_in) rfl rfl (by decide) (Nat.le_of_ble_eq_true rfl) ?_
      refine r_if_eq 174 i_M_status_159 (by decide) (fun h159 => ?_) (fun h159 => ?_)
      · first
        | exact absurd h159 (by decide)
        | skip
          refine r_iconst (v := (-1 : Int32)) i_M_status_174 rfl ?_
          refine r_ireturn i_M_status_175 t_M_status rfl ?_
          first | exact ⟨rfl, hp9, rfl⟩ | exact ⟨rfl, ⟨h, fun _ _ => rfl⟩, rfl⟩
      · first
        | exact absurd h159 (by decide)
        | skip
          refine r_aload_n (i := 0) i_M_status_162 rfl rfl ?_
          refine r_getf (ci := 6) (T := Fk6) (k := 9) o_M_status i_M_status_163 x_M_37 rfl (by decide) rfl (by repeat (first | assumption | exact upw_s | refine (upw_n (by omega)).trans ?_)) (by first | assumption | omega) (by rfl) ?_
          refine r_iload_n (i := 1) i_M_status_166 rfl rfl ?_
          refine r_bipush (v := (10 : Int32)) i_M_status_167 (by decide) ?_
          refine r_isub i_M_status_169 ?_
          refine r_iald i_M_status_170 (by repeat (first | assumption | exact upw_s | refine (upw_n (by omega)).trans ?_)) (by first | assumption | omega) (by assumption) ?_
          refine r_goto 175 i_M_status_171 (by decide) ?_
          refine r_ireturn i_M_status_175 t_M_status rfl ?_
          first | exact ⟨rfl, hp9, rfl⟩ | exact ⟨rfl, ⟨h, fun _ _ => rfl⟩, rfl⟩
  · first
    | exact absurd h134 (by decide)
    | skip
      refine r_aload_n (i := 0) i_M_status_137 rfl rfl ?_
      refine r_getf (ci := 6) (T := Fk6) (k := 16) o_M_status i_M_status_138 x_M_54 rfl (by decide) rfl (by repeat (first | assumption | exact upw_s | refine (upw_n (by omega)).trans ?_)) (by first | assumption | omega) (by rfl) ?_
      refine r_iload_n (i := 1) i_M_status_141 rfl rfl ?_
      refine r_iconst (v := (4 : Int32)) i_M_status_142 rfl ?_
      refine r_isub i_M_status_143 ?_
      refine r_iald i_M_status_144 (by repeat (first | assumption | exact upw_s | refine (upw_n (by omega)).trans ?_)) (by first | assumption | omega) j2 ?_
      refine r_goto 175 i_M_status_145 (by decide) ?_
      refine r_ireturn i_M_status_175 t_M_status rfl ?_
      first | exact ⟨rfl, hp9, rfl⟩ | exact ⟨rfl, ⟨h, fun _ _ => rfl⟩, rfl⟩
theorem sttM_7 (h : MW w o M n) : Go G 1 y_M_status 0 [some (.ref o), some (.int 7), none, none] [] w n 0 0 (fun r w' n' => r = some (.int (stM2 M 7)) ∧ (MW w' o M n ∧ mFr w w' o) ∧ n' = n) := by
  obtain ⟨m0, mA', mL', m4, m20, m28, mn'⟩ := id h
  have a36 : w (o + 36) = ai 4 (M.2.1 36) := mA' 36 rfl
  obtain ⟨j0, j1, j2, j3⟩ := v4
  refine r_iconst (v := (0 : Int32)) i_M_status_0 rfl ?_
  refine r_istore_2 i_M_status_1 (by rw [l_M_status]; decide) rfl ?_
  refine r_iload_n (i := 1) i_M_status_2 rfl rfl ?_
  refine r_tableIn 123 i_M_status_3 (by decide) (by decide) (by rfl) (by decide) ?_
  refine r_iload_n (i := 1) i_M_status_123 rfl rfl ?_
  refine r_i2l i_M_status_124 ?_
  refine r_ldc2 o_M_status i_M_status_125 x_M_85 ?_
  refine r_ldc2 o_M_status i_M_status_128 x_M_83 ?_
  refine f_static o_M_status k_M_in s_M_in x_M_76 i_M_status_131 (c_M_in) rfl rfl (by decide) (Nat.le_of_ble_eq_true rfl) ?_
  rw [in_47]
  refine r_if_eq 148 i_M_status_134 (by decide) (fun h134 => ?_) (fun h134 => ?_)
  · first
    | exact absurd h134 (by decide)
    | skip
      refine r_iload_n (i := 1) i_M_status_148 rfl rfl ?_
      refine r_i2l i_M_status_149 ?_
      refine r_ldc2 o_M_status i_M_status_150 x_M_356 ?_
      refine r_ldc2 o_M_status i_M_status_153 x_M_358 ?_
      refine f_static o_M_status k_M_in s_M_in x_M_76 i_M_status_156 (c_M_in) rfl rfl (by decide) (Nat.le_of_ble_eq_true rfl) ?_
      refine r_if_eq 174 i_M_status_159 (by decide) (fun h159 => ?_) (fun h159 => ?_)
      · first
        | exact absurd h159 (by decide)
        | skip
          refine r_iconst (v := (-1 : Int32)) i_M_status_174 rfl ?_
          refine r_ireturn i_M_status_175 t_M_status rfl ?_
          first | exact ⟨rfl, hp9, rfl⟩ | exact ⟨rfl, ⟨h, fun _ _ => rfl⟩, rfl⟩
      · first
        | exact absurd h159 (by decide)
        | skip
          refine r_aload_n (i := 0) i_M_status_162 rfl rfl ?_
          refine r_getf (ci := 6) (T := Fk6) (k := 9) o_M_status i_M_status_163 x_M_37 rfl (by decide) rfl (by repeat (first | assumption | exact upw_s | refine (upw_n (by omega)).trans ?_)) (by first | assumption | omega) (by rfl) ?_
          refine r_iload_n (i := 1) i_M_status_166 rfl rfl ?_
          refine r_bipush (v := (10 : Int32)) i_M_status_167 (by decide) ?_
          refine r_isub i_M_status_169 ?_
          refine r_iald i_M_status_170 (by repeat (first | assumption | exact upw_s | refine (upw_n (by omega)).trans ?_)) (by first | assumption | omega) (by assumption) ?_
          refine r_goto 175 i_M_status_171 (by decide) ?_
          refine r_ireturn i_M_status_175 t_M_status rfl ?_
          first | exact ⟨rfl, hp9, rfl⟩ | exact ⟨rfl, ⟨h, fun _ _ => rfl⟩, rfl⟩
  · first
    | exact absurd h134 (by decide)
    | skip
      refine r_aload_n (i := 0) i_M_status_137 rfl rfl ?_
      refine r_getf (ci := 6) (T := Fk6) (k := 16) o_M_status i_M_status_138 x_M_54 rfl (by decide) rfl (by repeat (first | assumption | exact upw_s | refine (upw_n (by omega)).trans ?_)) (by first | assumption | omega) (by rfl) ?_
      refine r_iload_n (i := 1) i_M_status_141 rfl rfl ?_
      refine r_iconst (v := (4 : Int32)) i_M_status_142 rfl ?_
      refine r_isub i_M_status_143 ?_
      refine r_iald i_M_status_144 (by repeat (first | assumption | exact upw_s | refine (upw_n (by omega)).trans ?_)) (by first | assumption | omega) j3 ?_
      refine r_goto 175 i_M_status_145 (by decide) ?_
      refine r_ireturn i_M_status_175 t_M_status rfl ?_
      first | exact ⟨rfl, hp9, rfl⟩ | exact ⟨rfl, ⟨h, fun _ _ => rfl⟩, rfl⟩
theorem sttM_8 (h : MW w o M n) : Go G 1 y_M_status 0 [some (.ref o), some (.int 8), none, none] [] w n 0 0 (fun r w' n' => r = some (.int (stM2 M 8)) ∧ (MW w' o M n ∧ mFr w w' o) ∧ n' = n) := by
  obtain ⟨m0, mA', mL', m4, m20, m28, mn'⟩ := id h
  refine r_iconst (v := (0 : Int32)) i_M_status_0 rfl ?_
  refine r_istore_2 i_M_status_1 (by rw [l_M_status]; decide) rfl ?_
  refine r_iload_n (i := 1) i_M_status_2 rfl rfl ?_
  refine r_tableIn 80 i_M_status_3 (by decide) (by decide) (by rfl) (by decide) ?_
  refine r_aload_n (i := 0) i_M_status_80 rfl rfl ?_
  refine r_getf (ci := 6) (T := Fk6) (k := 8) o_M_status i_M_status_81 x_M_132 rfl (by decide) rfl (by repeat (first | assumption | exact upw_s | refine (upw_n (by omega)).trans ?_)) (by first | assumption | omega) (by rfl) ?_
  refine r_ireturn i_M_status_84 t_M_status rfl ?_
  first | exact ⟨rfl, hp9, rfl⟩ | exact ⟨rfl, ⟨h, fun _ _ => rfl⟩, rfl⟩
theorem sttM_9 (h : MW w o M n) : Go G 1 y_M_status 0 [some (.ref o), some (.int 9), none, none] [] w n 0 0 (fun r w' n' => r = some (.int (stM2 M 9)) ∧ (MW w' o M n ∧ mFr w w' o) ∧ n' = n) := by
  obtain ⟨m0, mA', mL', m4, m20, m28, mn'⟩ := id h
  refine r_iconst (v := (0 : Int32)) i_M_status_0 rfl ?_
  refine r_istore_2 i_M_status_1 (by rw [l_M_status]; decide) rfl ?_
  refine r_iload_n (i := 1) i_M_status_2 rfl rfl ?_
  refine r_tableIn 85 i_M_status_3 (by decide) (by decide) (by rfl) (by decide) ?_
  refine r_aload_n (i := 0) i_M_status_85 rfl rfl ?_
  refine r_getf (ci := 6) (T := Fk6) (k := 19) o_M_status i_M_status_86 x_M_57 rfl (by decide) rfl (by repeat (first | assumption | exact upw_s | refine (upw_n (by omega)).trans ?_)) (by first | assumption | omega) (by rfl) ?_
  refine r_ireturn i_M_status_89 t_M_status rfl ?_
  first | exact ⟨rfl, hp9, rfl⟩ | exact ⟨rfl, ⟨h, fun _ _ => rfl⟩, rfl⟩
theorem sttM_10 (h : MW w o M n) : Go G 1 y_M_status 0 [some (.ref o), some (.int 10), none, none] [] w n 0 0 (fun r w' n' => r = some (.int (stM2 M 10)) ∧ (MW w' o M n ∧ mFr w w' o) ∧ n' = n) := by
  obtain ⟨m0, mA', mL', m4, m20, m28, mn'⟩ := id h
  have a1 : w (o + 1) = ai 8 (M.2.1 1) := mA' 1 rfl
  have hloop : ∀ r s, s + r = 8 → Go G 1 y_M_status 92 [some (.ref o), some (.int 10), some (.int (cnS M s)), some (.int (nI s))] [] w n 0 0 (fun r w' n' => r = some (.int (cnS M 8)) ∧ (MW w' o M n ∧ mFr w w' o) ∧ n' = n) := by
    intro r
    induction r with
    | zero =>
      intro s hs
      have hs : s = 8 := by omega
      subst hs
      refine r_iload_n (i := 3) i_M_status_92 rfl rfl ?_
      refine r_bipush (v := (8 : Int32)) i_M_status_93 (by decide) ?_
      refine r_icmp_ge 121 i_M_status_95 (by decide) (fun h95 => ?_) (fun h95 => (absurd (by decide) h95))
      refine r_iload_n (i := 2) i_M_status_121 rfl rfl ?_
      refine r_ireturn i_M_status_122 t_M_status rfl ?_
      exact ⟨rfl, ⟨h, mFr.rf⟩, rfl⟩
    | succ r ih =>
      intro s hs
      have ih' := ih (s + 1) (by omega)
      have e7 : cnS M (s + 1) = if M.2.1 1 s = 0 then cnS M s else cnS M s + 1 := rfl
      rw [e7] at ih'
      have is : vp_in (nI s) 8 := vp_in_nI (by omega) (by decide)
      have ec : (nI s).toNatClampNeg = s := nI_clamp (by omega)
      refine r_iload_n (i := 3) i_M_status_92 rfl rfl ?_
      refine r_bipush (v := (8 : Int32)) i_M_status_93 (by decide) ?_
      refine r_icmp_ge 121 i_M_status_95 (by decide) (fun h95 => (absurd h95 (nI_ge (b := 8) (by omega) (by decide)))) (fun h95 => ?_)
      refine r_iload_n (i := 2) i_M_status_98 rfl rfl ?_
      refine r_aload_n (i := 0) i_M_status_99 rfl rfl ?_
      refine r_getf (ci := 6) (T := Fk6) (k := 0) o_M_status i_M_status_100 x_M_7 rfl (by decide) rfl (by repeat (first | assumption | exact upw_s | refine (upw_n (by omega)).trans ?_)) (by first | assumption | omega) (by rfl) ?_
      refine r_iload_n (i := 3) i_M_status_103 rfl rfl ?_
      refine r_iald i_M_status_104 (by repeat (first | assumption | exact upw_s | refine (upw_n (by omega)).trans ?_)) (by first | assumption | omega) (by assumption) ?_
      rw [ec]
      refine r_if_eq 112 i_M_status_105 (by decide) (fun h105 => ?_) (fun h105 => ?_)
      · skip
        rw [if_pos h105] at ih'
        refine r_iconst (v := (0 : Int32)) i_M_status_112 rfl ?_
        refine r_iadd i_M_status_113 ?_
        refine r_istore_2 i_M_status_114 (by rw [l_M_status]; decide) rfl ?_
        refine r_iinc_3 (v := (1 : Int32)) i_M_status_115 rfl (by rw [l_M_status]; decide) rfl ?_
        refine r_goto 92 i_M_status_118 (by decide) ?_
        rw [nI_1]
        first | exact ih' | (rw [Int32.add_zero]; exact ih')
      · skip
        rw [if_neg h105] at ih'
        refine r_iconst (v := (1 : Int32)) i_M_status_108 rfl ?_
        refine r_goto 113 i_M_status_109 (by decide) ?_
        refine r_iadd i_M_status_113 ?_
        refine r_istore_2 i_M_status_114 (by rw [l_M_status]; decide) rfl ?_
        refine r_iinc_3 (v := (1 : Int32)) i_M_status_115 rfl (by rw [l_M_status]; decide) rfl ?_
        refine r_goto 92 i_M_status_118 (by decide) ?_
        rw [nI_1]
        first | exact ih' | (rw [Int32.add_zero]; exact ih')
  refine r_iconst (v := (0 : Int32)) i_M_status_0 rfl ?_
  refine r_istore_2 i_M_status_1 (by rw [l_M_status]; decide) rfl ?_
  refine r_iload_n (i := 1) i_M_status_2 rfl rfl ?_
  refine r_tableIn 90 i_M_status_3 (by decide) (by decide) (by rfl) (by decide) ?_
  refine r_iconst (v := (0 : Int32)) i_M_status_90 rfl ?_
  refine r_istore_3 i_M_status_91 (by rw [l_M_status]; decide) rfl ?_
  exact hloop 8 0 (by omega)
theorem c_M_status {k : Int32} (h : MW w o M n) : Mm G 1 y_M_status [.ref o, .int k] w o n (m2_status M k) := by
  obtain ⟨m0, mA', mL', m4, m20, m28, mn'⟩ := id h
  have a17 : w (o + 17) = ai 8 (M.2.1 17) := mA' 17 rfl
  refine Mm.of k_M_status l_M_status rfl rfl ?_
  unfold m2_status
  by_cases hk : lt0 k 11 = true
  · rw [if_pos hk]
    obtain ⟨k, hk5, rfl⟩ := lt0_of (N := 11) (by decide) hk
    rw [nI_clamp (by omega)]
    rcases (show k = 0 ∨ k = 1 ∨ k = 2 ∨ k = 3 ∨ k = 4 ∨ k = 5 ∨ k = 6 ∨ k = 7 ∨ k = 8 ∨ k = 9 ∨ k = 10 by omega) with rfl | rfl | rfl | rfl | rfl | rfl | rfl | rfl | rfl | rfl | rfl
    · exact sttM_0 h
    · exact sttM_1 h
    · exact sttM_2 h
    · exact sttM_3 h
    · exact sttM_4 h
    · exact sttM_5 h
    · exact sttM_6 h
    · exact sttM_7 h
    · exact sttM_8 h
    · exact sttM_9 h
    · exact sttM_10 h
  · rw [if_neg hk]
    have hout := out_of (N := 11) (by decide) hk
    have h47 : wi0 k 4 7 = false := by
      unfold wi0
      refine decide_eq_false (fun q => ?_)
      rw [Int32.lt_iff_toInt_lt, Int32.lt_iff_toInt_lt, show (4 : Int32).toInt = 4 from rfl, show (7 : Int32).toInt = 7 from rfl] at q
      omega
    refine r_iconst (v := (0 : Int32)) i_M_status_0 rfl ?_
    refine r_istore_2 i_M_status_1 (by rw [l_M_status]; decide) rfl ?_
    refine r_iload_n (i := 1) i_M_status_2 rfl rfl ?_
    refine r_tableOut 123 i_M_status_3 (by omega) (by decide) ?_
    refine r_iload_n (i := 1) i_M_status_123 rfl rfl ?_
    refine r_i2l i_M_status_124 ?_
    refine r_ldc2 o_M_status i_M_status_125 x_M_85 ?_
    refine r_ldc2 o_M_status i_M_status_128 x_M_83 ?_
    refine f_static o_M_status k_M_in s_M_in x_M_76 i_M_status_131 (c_M_in) rfl rfl (by decide) (Nat.le_of_ble_eq_true rfl) ?_
    rw [in_47, h47]
    refine r_if_eq 148 i_M_status_134 (by decide) (fun h134 => ?_) (fun h134 => ?_)
    · first
      | exact absurd h134 (by decide)
      | skip
        refine r_iload_n (i := 1) i_M_status_148 rfl rfl ?_
        refine r_i2l i_M_status_149 ?_
        refine r_ldc2 o_M_status i_M_status_150 x_M_356 ?_
        refine r_ldc2 o_M_status i_M_status_153 x_M_358 ?_
        refine f_static o_M_status k_M_in s_M_in x_M_76 i_M_status_156 (c_M_in) rfl rfl (by decide) (Nat.le_of_ble_eq_true rfl) ?_
        rw [in_1216]
        refine r_if_eq 174 i_M_status_159 (by decide) (fun h159 => ?_) (fun h159 => ?_)
        · skip
          have h159 := bI_eq0.mp h159
          try rw [h159]
          refine r_iconst (v := (-1 : Int32)) i_M_status_174 rfl ?_
          refine r_ireturn i_M_status_175 t_M_status rfl ?_
          first | exact ⟨rfl, hp9, rfl⟩ | exact ⟨rfl, ⟨h, fun _ _ => rfl⟩, rfl⟩
        · skip
          have h159 := bI_ne0.mp h159
          try rw [h159]
          refine r_aload_n (i := 0) i_M_status_162 rfl rfl ?_
          refine r_getf (ci := 6) (T := Fk6) (k := 9) o_M_status i_M_status_163 x_M_37 rfl (by decide) rfl (by repeat (first | assumption | exact upw_s | refine (upw_n (by omega)).trans ?_)) (by first | assumption | omega) (by rfl) ?_
          refine r_iload_n (i := 1) i_M_status_166 rfl rfl ?_
          refine r_bipush (v := (10 : Int32)) i_M_status_167 (by decide) ?_
          refine r_isub i_M_status_169 ?_
          have ik : vp_in (k - 10) 8 := by
            unfold wi0 at h159
            have q := of_decide_eq_true h159
            rw [Int32.lt_iff_toInt_lt, Int32.lt_iff_toInt_lt, show (12 : Int32).toInt = 12 from rfl, show (16 : Int32).toInt = 16 from rfl] at q
            have e : k = nI k.toInt.toNat := Int32.toInt_inj.mp (by rw [toInt_nI (by omega)]; omega)
            rw [e, show (10 : Int32) = nI 10 from rfl, pk_sub (by omega)]
            exact vp_in_nI (by omega) (by decide)
          refine r_iald i_M_status_170 (by repeat (first | assumption | exact upw_s | refine (upw_n (by omega)).trans ?_)) (by first | assumption | omega) (by assumption) ?_
          refine r_goto 175 i_M_status_171 (by decide) ?_
          refine r_ireturn i_M_status_175 t_M_status rfl ?_
          first | exact ⟨rfl, hp9, rfl⟩ | exact ⟨rfl, ⟨h, fun _ _ => rfl⟩, rfl⟩
    · first
      | exact absurd h134 (by decide)
      | skip
        refine r_aload_n (i := 0) i_M_status_137 rfl rfl ?_
        refine r_getf (ci := 6) (T := Fk6) (k := 16) o_M_status i_M_status_138 x_M_54 rfl (by decide) rfl (by repeat (first | assumption | exact upw_s | refine (upw_n (by omega)).trans ?_)) (by first | assumption | omega) (by rfl) ?_
        refine r_iload_n (i := 1) i_M_status_141 rfl rfl ?_
        refine r_iconst (v := (4 : Int32)) i_M_status_142 rfl ?_
        refine r_isub i_M_status_143 ?_
        refine r_iald i_M_status_144 (by repeat (first | assumption | exact upw_s | refine (upw_n (by omega)).trans ?_)) (by first | assumption | omega) (by assumption) ?_
        refine r_goto 175 i_M_status_145 (by decide) ?_
        refine r_ireturn i_M_status_175 t_M_status rfl ?_
        first | exact ⟨rfl, hp9, rfl⟩ | exact ⟨rfl, ⟨h, fun _ _ => rfl⟩, rfl⟩
end MCOPY
