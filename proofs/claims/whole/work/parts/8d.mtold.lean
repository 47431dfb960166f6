-- THE REFERENCE: told weeks, weeks in truth, by, head
def kdM (M : aM) (s : Nat) : Nat := (M.2.1 14 s).toNatClampNeg
def noM (M : aM) (s : Nat) : Nat := (M.2.1 15 s).toNatClampNeg
def tkV (P : Nat) (v : Int64) : Int32 := if inL v 0 (nI P - 1).toInt64 = true then v.toInt32 else -1
theorem tkV_cases {P : Nat} {v : Int64} (hP : P ≤ 7) : tkV P v = -1 ∨ ∃ t, t < P ∧ tkV P v = nI t := by
  unfold tkV
  by_cases q : inL v 0 (nI P - 1).toInt64 = true
  · rw [if_pos q]
    unfold inL at q
    simp only [Bool.and_eq_true, decide_eq_true_eq, Int64.le_iff_toInt_le, Int32.toInt_toInt64] at q
    have e : (nI P - 1).toInt = (P : Int) - 1 := by
      rw [Int32.toInt_sub, toInt_nI (by omega)]
      exact Int.bmod_eq_of_le (by show -((2 ^ 32 : Nat) / 2 : Int) ≤ (P : Int) - 1; omega) (by show (P : Int) - 1 < _; omega)
    rw [e] at q
    have q1 : (0 : Int) ≤ v.toInt := q.1
    refine Or.inr ⟨v.toInt.toNat, by omega, Int32.toInt_inj.mp ?_⟩
    rw [toInt_nI (by omega), Int64.toInt_toInt32]
    rw [Int.bmod_eq_of_le (by show -((2 ^ 32 : Nat) / 2 : Int) ≤ _; omega) (by show _ < _; omega)]
    omega
  · rw [if_neg q]
    exact Or.inl rfl
def twF (M : aM) (P : Nat) (row : Nat → Int64) : Nat → Nat → aK → Int32 × (Nat → Int32)
  | 0, _, X => (-1, X.2.2)
  | m + 1, b, X => if tkV P (row b) = -1 then twF M P row m (b + 1) (tkW X b (-1)) else if mayM M b (tkV P (row b)).toNatClampNeg X.2.1 = true ∧ M.2.1 (21 + b) 4 &&& X.1 = 0 then twF M P row m (b + 1) (tkW X b (tkV P (row b))) else (nI b, upd X.2.2 b (tkV P (row b)))
def nowk (M : aM) (s : Int32) : Nat := if norow M s 2 = 0 then (if M.2.1 3 s.toNatClampNeg < M.1 13 then 2 else 0) else norow M s 2
theorem nowk_lt {M : aM} {s : Int32} : nowk M s < 5 := by
  unfold nowk
  split
  · split <;> omega
  · exact norow_lt
theorem nowk_0 {M : aM} {s : Int32} (h : nowk M s = 0) : norow M s 2 = 0 ∧ ¬ M.2.1 3 s.toNatClampNeg < M.1 13 := by
  unfold nowk at h
  split at h
  · rename_i q
    split at h
    · omega
    · rename_i q2
      exact ⟨q, q2⟩
  · rename_i q
    exact absurd h q
section MTOLD
variable {G : gE} {w : aW} {o n : Nat} {M : aM}
theorem c_M_noWeek {B : Nat} {s : Int32} (h : MW w o M n) : Mt G 2 y_M_noWeek [.ref o, .int s] w n 0 0 (fun r w' n' => r = some (.int (-nI (nowk M s))) ∧ (MW w' o (mRz M (nowk M s)) n ∧ mFr w w' o) ∧ n' = n) := by
  obtain ⟨m0, mA', mL', m4, m20, m28, mn'⟩ := id h
  refine Mt.of k_M_noWeek l_M_noWeek (Nat.le_of_ble_eq_true rfl) rfl ?_
  unfold nowk
  have hnr := c_M_noRow (G := G) (s := s) h
  have hlt := norow_lt (M := M) (s := s) (c := 2)
  have h00 := norow_0 (M := M) (s := s) (c := 2)
  generalize norow M s 2 = r at *
  refine r_aload_n (i := 0) i_M_noWeek_0 rfl rfl ?_
  refine r_iload_n (i := 1) i_M_noWeek_1 rfl rfl ?_
  refine m_virtual o_M_noWeek k_M_noRow v_M_noRow x_M_93 i_M_noWeek_2 o_M_noRow (hnr) rfl (rcv_ob (by repeat (first | assumption | exact upw_s | refine (upw_n (by omega)).trans ?_)) rfl (by first | assumption | omega)) rfl (by decide) (Nat.le_of_ble_eq_true rfl) (Nat.zero_le _) (Nat.zero_le _) (fun q1 w2 n1 hp9 => ?_)
  obtain ⟨rfl, ⟨hM2, hF2⟩, rfl⟩ := hp9
  refine r_istore_2 i_M_noWeek_5 (by rw [l_M_noWeek]; decide) rfl ?_
  refine r_iload_n (i := 2) i_M_noWeek_6 rfl rfl ?_
  refine r_if_eq 12 i_M_noWeek_7 (by decide) (fun h7 => ?_) (fun h7 => ?_)
  · skip
    have hr : r = 0 := Classical.byContradiction (fun q => nI_neg0 (by omega) q h7)
    subst hr
    rw [if_pos rfl]
    have hM2 : MW w2 o M n1 := hM2
    obtain ⟨b1, b2, b3⟩ := h00 rfl
    obtain ⟨s, hs, rfl⟩ := lt0_of (N := 8) (by decide) b1
    obtain ⟨d0, dA', dL', d4, d20, d28, dn'⟩ := id hM2
    have a3 : w2 (o + 3) = ai 8 (M.2.1 3) := dA' 3 rfl
    have is : vp_in (nI s) 8 := vp_in_nI hs (by decide)
    refine r_aload_n (i := 0) i_M_noWeek_12 rfl rfl ?_
    refine r_getf (ci := 6) (T := Fk6) (k := 2) o_M_noWeek i_M_noWeek_13 x_M_16 rfl (by decide) rfl (by repeat (first | assumption | exact upw_s | refine (upw_n (by omega)).trans ?_)) (by first | assumption | omega) (by rfl) ?_
    refine r_iload_n (i := 1) i_M_noWeek_16 rfl rfl ?_
    refine r_iald i_M_noWeek_17 (by repeat (first | assumption | exact upw_s | refine (upw_n (by omega)).trans ?_)) (by first | assumption | omega) (by assumption) ?_
    refine r_aload_n (i := 0) i_M_noWeek_18 rfl rfl ?_
    refine r_getf (ci := 6) (T := Fk6) (k := 13) o_M_noWeek i_M_noWeek_19 x_M_80 rfl (by decide) rfl (by repeat (first | assumption | exact upw_s | refine (upw_n (by omega)).trans ?_)) (by first | assumption | omega) (by rfl) ?_
    refine r_icmp_ge 34 i_M_noWeek_22 (by decide) (fun h22 => ?_) (fun h22 => ?_)
    · skip
      rw [if_neg (Int32.not_lt.mpr h22)]
      refine r_iconst (v := (0 : Int32)) i_M_noWeek_34 rfl ?_
      refine r_ireturn i_M_noWeek_35 t_M_noWeek rfl ?_
      first | exact ⟨rfl, ⟨hM3, hF2.tr hF3⟩, rfl⟩ | exact ⟨rfl, ⟨hM2, hF2⟩, rfl⟩
    · skip
      rw [if_pos (Int32.not_le.mp h22)]
      refine r_aload_n (i := 0) i_M_noWeek_25 rfl rfl ?_
      refine r_bipush (v := (-2 : Int32)) i_M_noWeek_26 (by decide) ?_
      refine m_virtual o_M_noWeek k_M_refuse v_M_refuse x_M_89 i_M_noWeek_28 o_M_refuse (c_M_refuse (i := 2) hM2 (by decide)) rfl (rcv_ob (by repeat (first | assumption | exact upw_s | refine (upw_n (by omega)).trans ?_)) rfl (by first | assumption | omega)) rfl (by decide) (Nat.le_of_ble_eq_true rfl) (Nat.zero_le _) (Nat.zero_le _) (fun q1 w3 n1 hp9 => ?_)
      obtain ⟨rfl, ⟨hM3, hF3⟩, rfl⟩ := hp9
      refine r_goto 35 i_M_noWeek_31 (by decide) ?_
      refine r_ireturn i_M_noWeek_35 t_M_noWeek rfl ?_
      first | exact ⟨rfl, ⟨hM3, hF2.tr hF3⟩, rfl⟩ | exact ⟨rfl, ⟨hM2, hF2⟩, rfl⟩
  · skip
    have hr : ¬ r = 0 := fun q => h7 (by rw [q]; rfl)
    rw [if_neg hr]
    refine r_iload_n (i := 2) i_M_noWeek_10 rfl rfl ?_
    refine r_ireturn i_M_noWeek_11 t_M_noWeek rfl ?_
    first | exact ⟨rfl, ⟨hM3, hF2.tr hF3⟩, rfl⟩ | exact ⟨rfl, ⟨hM2, hF2⟩, rfl⟩
theorem tail_takeWeek {B b s : Nat} {X : aK} {c : Int32} {N : aM} {w1 : aW} (hb : b < B) (hB7 : B ≤ 7) (hc : c = -1 ∨ ∃ t, t < 7 ∧ c = nI t) (h1 : MW w1 o (mA N 38 X.2.2) n) (hF : mFr w w1 o) (post : Option Value → aW → Nat → Prop) {z : Option Value}
    (hq : ∀ w2, MW w2 o (mA N 38 (upd X.2.2 b c)) n → mFr w w2 o → ((c = -1 ∨ mayM N b c.toNatClampNeg X.2.1 = true ∧ N.2.1 (21 + b) 4 &&& X.1 = 0) → Go G 4 y_M_takeWeek 7 [some (.ref o), some (.int (nI s)), some (.int (tkW X b c).1), some (.int (tkW X b c).2.1), some (.int (nI (b + 1))), some (.int c)] [] w2 n 0 0 post) ∧ ((¬ c = -1 ∧ ¬ (mayM N b c.toNatClampNeg X.2.1 = true ∧ N.2.1 (21 + b) 4 &&& X.1 = 0)) → post (some (.int (nI b))) w2 n)) :
    Go G 4 y_M_takeWeek 46 [some (.ref o), some (.int (nI s)), some (.int X.1), some (.int X.2.1), some (.int (nI b)), z] [.int c] w1 n 0 0 post := by
  have h2 : MW (upw w1 (o + 38) (ai 7 (upd X.2.2 b c))) o (mA N 38 (upd X.2.2 b c)) n := by
    have h9 := h1.arr (j := 38) (f := upd X.2.2 b c) rfl
    rw [mA_A] at h9
    exact h9
  obtain ⟨m0, mA', mL', m4, m20, m28, mn'⟩ := id h1
  have a38 : w1 (o + 38) = ai 7 X.2.2 := mA' 38 rfl
  have ib : vp_in (nI b) 7 := vp_in_nI (by omega) (by decide)
  have ec : (nI b).toNatClampNeg = b := nI_clamp (by omega)
  obtain ⟨hq1, hq2⟩ := hq _ h2 (hF.up (by omega) (by omega))
  obtain ⟨r1, r2, r3, r4, r5⟩ := row_of h2 (show b < 7 by omega)
  have r1 : (upw w1 (o + 38) (ai 7 (upd X.2.2 b c))) (o + 21 + b) = ai 5 (N.2.1 (21 + b)) := r1.trans (congrArg (ai 5) (mA_ne (by omega)))
  obtain ⟨i0, i1, i2, i3, i4⟩ := v5
  have hE : mE (mA N 38 (upd X.2.2 b c)) N := mE.A (by omega)
  have hmy : ∀ t, t < 7 → c = nI t → Fn G 2 y_M_may [.ref o, .int (nI b), .int c, .int X.2.1] (upw w1 (o + 38) (ai 7 (upd X.2.2 b c))) n (some (.int (bI (mayM N b c.toNatClampNeg X.2.1)))) (upw w1 (o + 38) (ai 7 (upd X.2.2 b c))) := by
    intro t ht e
    have h9 := c_M_may (G := G) (b := b) (t := t) (x := X.2.1) h2 (by omega) ht
    rw [hE.may (by omega) ht] at h9
    rw [e, nI_clamp (by omega)]
    rw [e] at h9
    exact h9
  obtain ⟨m0, mA', mL', m4, m20, m28, mn'⟩ := id h2
  change w1 (o + 38) = .inl (0, (7, .inl X.2.2)) at a38
  unfold tkW at hq1
  refine r_istore_5 i_M_takeWeek_46 (by rw [l_M_takeWeek]; decide) rfl ?_
  refine r_aload_n (i := 0) i_M_takeWeek_48 rfl rfl ?_
  have q0 := h1.1
  refine r_getf (ci := 6) (T := Fk6) (k := 29) o_M_takeWeek i_M_takeWeek_49 x_M_64 rfl (by decide) rfl q0 (by omega) (by rfl) ?_
  refine r_iload (i := 4) i_M_takeWeek_52 rfl ?_
  refine r_iload (i := 5) i_M_takeWeek_54 rfl ?_
  refine r_iast i_M_takeWeek_56 a38 (by omega) ib ?_
  rw [ec]
  generalize upw w1 (o + 38) (ai 7 (upd X.2.2 b c)) = w2 at *
  refine r_iload (i := 5) i_M_takeWeek_57 rfl ?_
  refine r_iconst (v := (-1 : Int32)) i_M_takeWeek_59 rfl ?_
  refine r_icmp_eq 106 i_M_takeWeek_60 (by decide) (fun h60 => ?_) (fun h60 => ?_)
  · skip
    rw [if_pos h60, if_pos h60] at hq1
    have hq1 := hq1 (Or.inl h60)
    refine r_iinc_4 (v := (1 : Int32)) i_M_takeWeek_106 rfl (by rw [l_M_takeWeek]; decide) rfl ?_
    refine r_goto 7 i_M_takeWeek_109 (by decide) ?_
    rw [nI_1]
    exact hq1
  · skip
    rw [if_neg h60, if_neg h60] at hq1
    obtain ⟨t, ht, et⟩ := hc.resolve_left h60
    have hmy := hmy t ht et
    refine r_aload_n (i := 0) i_M_takeWeek_63 rfl rfl ?_
    refine r_iload (i := 4) i_M_takeWeek_64 rfl ?_
    refine r_iload (i := 5) i_M_takeWeek_66 rfl ?_
    refine r_iload_n (i := 3) i_M_takeWeek_68 rfl rfl ?_
    refine f_virtual o_M_takeWeek k_M_may v_M_may x_M_255 i_M_takeWeek_69 o_M_may (hmy) rfl (rcv_ob (by repeat (first | assumption | exact upw_s | refine (upw_n (by omega)).trans ?_)) rfl (by first | assumption | omega)) rfl (by decide) (Nat.le_of_ble_eq_true rfl) ?_
    refine r_if_eq 89 i_M_takeWeek_72 (by decide) (fun h72 => ?_) (fun h72 => ?_)
    · skip
      have h72 := bI_eq0.mp h72
      have hq2 := hq2 ⟨h60, fun q => by rw [h72] at q; exact absurd q.1 (by decide)⟩
      refine r_iload (i := 4) i_M_takeWeek_89 rfl ?_
      refine r_ireturn i_M_takeWeek_91 t_M_takeWeek rfl ?_
      exact hq2
    · skip
      have h72 := bI_ne0.mp h72
      refine r_aload_n (i := 0) i_M_takeWeek_75 rfl rfl ?_
      refine r_getf (ci := 6) (T := Fk6) (k := 14) o_M_takeWeek i_M_takeWeek_76 x_M_48 rfl (by decide) rfl (by repeat (first | assumption | exact upw_s | refine (upw_n (by omega)).trans ?_)) (by first | assumption | omega) (by rfl) ?_
      refine r_iload (i := 4) i_M_takeWeek_79 rfl ?_
      refine r_aald i_M_takeWeek_81 (by repeat (first | assumption | exact upw_s | refine (upw_n (by omega)).trans ?_)) (by decide) (by first | assumption | omega) (by assumption) r3 ?_
      refine r_iconst (v := (4 : Int32)) i_M_takeWeek_82 rfl ?_
      refine r_iald i_M_takeWeek_83 (by repeat (first | assumption | exact upw_s | refine (upw_n (by omega)).trans ?_)) (by first | assumption | omega) (by assumption) ?_
      refine r_iload_n (i := 2) i_M_takeWeek_84 rfl rfl ?_
      refine r_iand i_M_takeWeek_85 ?_
      refine r_if_eq 92 i_M_takeWeek_86 (by decide) (fun h86 => ?_) (fun h86 => ?_)
      · skip
        have h86 : N.2.1 (21 + b) 4 &&& X.1 = 0 := h86
        have hq1 := hq1 (Or.inr ⟨h72, h86⟩)
        refine r_iload_n (i := 2) i_M_takeWeek_92 rfl rfl ?_
        refine r_iconst (v := (1 : Int32)) i_M_takeWeek_93 rfl ?_
        refine r_iload (i := 4) i_M_takeWeek_94 rfl ?_
        refine r_ishl i_M_takeWeek_96 ?_
        refine r_ior i_M_takeWeek_97 ?_
        refine r_istore_2 i_M_takeWeek_98 (by rw [l_M_takeWeek]; decide) rfl ?_
        refine r_iload_n (i := 3) i_M_takeWeek_99 rfl rfl ?_
        refine r_iconst (v := (1 : Int32)) i_M_takeWeek_100 rfl ?_
        refine r_iload (i := 5) i_M_takeWeek_101 rfl ?_
        refine r_ishl i_M_takeWeek_103 ?_
        refine r_ior i_M_takeWeek_104 ?_
        refine r_istore_3 i_M_takeWeek_105 (by rw [l_M_takeWeek]; decide) rfl ?_
        refine r_iinc_4 (v := (1 : Int32)) i_M_takeWeek_106 rfl (by rw [l_M_takeWeek]; decide) rfl ?_
        refine r_goto 7 i_M_takeWeek_109 (by decide) ?_
        rw [nI_1]
        exact hq1
      · skip
        have h86 : ¬ N.2.1 (21 + b) 4 &&& X.1 = 0 := h86
        have hq2 := hq2 ⟨h60, fun q => h86 q.2⟩
        refine r_iload (i := 4) i_M_takeWeek_89 rfl ?_
        refine r_ireturn i_M_takeWeek_91 t_M_takeWeek rfl ?_
        exact hq2
theorem c_M_takeWeek {P B s : Nat} (h : MW w o M n) (hs : s < 8) (hP : M.1 10 = nI P) (hP7 : P ≤ 7) (hB : M.1 13 = nI B) (hB7 : B ≤ 7) : Mm G 4 y_M_takeWeek [.ref o, .int (nI s)] w o n ((twF M P (M.2.2.1 (5 + s)) B 0 (0, 0, M.2.1 38)).1, mA M 38 (twF M P (M.2.2.1 (5 + s)) B 0 (0, 0, M.2.1 38)).2) := by
  refine Mm.of k_M_takeWeek l_M_takeWeek rfl rfl ?_
  have hloop : ∀ (v : Int32 × (Nat → Int32)), ∀ m b, b + m = B → ∀ (X : aK) w1 z, twF M P (M.2.2.1 (5 + s)) m b X = v → MW w1 o (mA M 38 X.2.2) n → mFr w w1 o → Go G 4 y_M_takeWeek 7 [some (.ref o), some (.int (nI s)), some (.int X.1), some (.int X.2.1), some (.int (nI b)), z] [] w1 n 0 0 (fun r w' n' => r = some (.int v.1) ∧ (MW w' o (mA M 38 v.2) n ∧ mFr w w' o) ∧ n' = n) := by
    intro v m
    induction m with
    | zero =>
      intro b hb X w1 z hv h1 hF
      have hb : b = B := by omega
      subst hb
      have hB1 : (mA M 38 X.2.2).1 13 = nI b := hB
      obtain ⟨m0, mA', mL', m4, m20, m28, mn'⟩ := id h1
      have hv : (-1, X.2.2) = v := hv
      rw [← hv]
      refine r_iload (i := 4) i_M_takeWeek_7 rfl ?_
      refine r_aload_n (i := 0) i_M_takeWeek_9 rfl rfl ?_
      refine r_getf (ci := 6) (T := Fk6) (k := 13) o_M_takeWeek i_M_takeWeek_10 x_M_80 rfl (by decide) rfl (by repeat (first | assumption | exact upw_s | refine (upw_n (by omega)).trans ?_)) (by first | assumption | omega) (by rfl) ?_
      rw [hB1]
      refine r_icmp_ge 112 i_M_takeWeek_13 (by decide) (fun h13 => ?_) (fun h13 => (absurd (nI_le (Nat.le_refl _) (by omega)) h13))
      refine r_iconst (v := (-1 : Int32)) i_M_takeWeek_112 rfl ?_
      refine r_ireturn i_M_takeWeek_113 t_M_takeWeek rfl ?_
      exact ⟨rfl, ⟨h1, hF⟩, rfl⟩
    | succ m ih =>
      intro b hb X w1 z hv h1 hF
      have hc := tkV_cases (P := P) (v := M.2.2.1 (5 + s) b) hP7
      have e7 : twF M P (M.2.2.1 (5 + s)) (m + 1) b X = if tkV P (M.2.2.1 (5 + s) b) = -1 then twF M P (M.2.2.1 (5 + s)) m (b + 1) (tkW X b (-1)) else if mayM M b (tkV P (M.2.2.1 (5 + s) b)).toNatClampNeg X.2.1 = true ∧ M.2.1 (21 + b) 4 &&& X.1 = 0 then twF M P (M.2.2.1 (5 + s)) m (b + 1) (tkW X b (tkV P (M.2.2.1 (5 + s) b))) else (nI b, upd X.2.2 b (tkV P (M.2.2.1 (5 + s) b))) := rfl
      rw [e7] at hv
      have e8 : tkV P (M.2.2.1 (5 + s) b) = if inL (M.2.2.1 (5 + s) b) 0 (nI P - 1).toInt64 = true then (M.2.2.1 (5 + s) b).toInt32 else -1 := rfl
      have ht := fun z => tail_takeWeek (G := G) (w := w) (n := n) (s := s) (z := z) (c := tkV P (M.2.2.1 (5 + s) b)) (show b < B by omega) hB7 (hc.imp id (fun ⟨t, h1, h2⟩ => ⟨t, by omega, h2⟩)) h1 hF (fun r w' n' => r = some (.int v.1) ∧ (MW w' o (mA M 38 v.2) n ∧ mFr w w' o) ∧ n' = n) (by
        intro w2 h2 hF2
        constructor
        · intro q
          refine ih (b + 1) (by omega) (tkW X b _) w2 _ ?_ h2 hF2
          rw [← hv]
          by_cases q1 : tkV P (M.2.2.1 (5 + s) b) = -1
          · rw [if_pos q1, q1]
          · rw [if_neg q1, if_pos (q.resolve_left q1)]
        · rintro ⟨q1, q2⟩
          rw [if_neg q1, if_neg q2] at hv
          rw [← hv]
          exact ⟨rfl, ⟨h2, hF2⟩, rfl⟩)
      have hP1 : (mA M 38 X.2.2).1 10 = nI P := hP
      have hB1 : (mA M 38 X.2.2).1 13 = nI B := hB
      have r1 : w1 (o + 5 + s) = al 40 (M.2.2.1 (5 + s)) := (long_of h1 hs).1
      have r2 := (long_of h1 hs).2.1
      have is := (long_of h1 hs).2.2
      have ib : vp_in (nI b) 40 := vp_in_nI (by omega) (by decide)
      have ec : (nI b).toNatClampNeg = b := nI_clamp (by omega)
      have hone := fun v => c_M_isOne (G := G) (v := v) h1
      rw [hP1] at hone
      generalize mA M 38 X.2.2 = N at *
      obtain ⟨m0, mA', mL', m4, m20, m28, mn'⟩ := id h1
      refine r_iload (i := 4) i_M_takeWeek_7 rfl ?_
      refine r_aload_n (i := 0) i_M_takeWeek_9 rfl rfl ?_
      refine r_getf (ci := 6) (T := Fk6) (k := 13) o_M_takeWeek i_M_takeWeek_10 x_M_80 rfl (by decide) rfl (by repeat (first | assumption | exact upw_s | refine (upw_n (by omega)).trans ?_)) (by first | assumption | omega) (by rfl) ?_
      rw [hB1]
      refine r_icmp_ge 112 i_M_takeWeek_13 (by decide) (fun h13 => (absurd h13 (nI_ge (by omega) (by omega)))) (fun h13 => ?_)
      refine r_aload_n (i := 0) i_M_takeWeek_16 rfl rfl ?_
      refine r_aload_n (i := 0) i_M_takeWeek_17 rfl rfl ?_
      refine r_getf (ci := 6) (T := Fk6) (k := 3) o_M_takeWeek i_M_takeWeek_18 x_M_21 rfl (by decide) rfl (by repeat (first | assumption | exact upw_s | refine (upw_n (by omega)).trans ?_)) (by first | assumption | omega) (by rfl) ?_
      refine r_iload_n (i := 1) i_M_takeWeek_21 rfl rfl ?_
      refine r_aald i_M_takeWeek_22 (by repeat (first | assumption | exact upw_s | refine (upw_n (by omega)).trans ?_)) (by decide) (by first | assumption | omega) (by assumption) r2 ?_
      refine r_iload (i := 4) i_M_takeWeek_23 rfl ?_
      refine r_lald i_M_takeWeek_25 (by repeat (first | assumption | exact upw_s | refine (upw_n (by omega)).trans ?_)) (by first | assumption | omega) (by assumption) ?_
      rw [ec]
      refine f_virtual o_M_takeWeek k_M_isOne v_M_isOne x_M_112 i_M_takeWeek_26 o_M_isOne (hone _) rfl (rcv_ob (by repeat (first | assumption | exact upw_s | refine (upw_n (by omega)).trans ?_)) rfl (by first | assumption | omega)) rfl (by decide) (Nat.le_of_ble_eq_true rfl) ?_
      refine r_if_eq 45 i_M_takeWeek_29 (by decide) (fun h29 => ?_) (fun h29 => ?_)
      · skip
        have h29 := bI_eq0.mp h29
        rw [if_neg (by rw [h29]; decide)] at e8
        refine r_iconst (v := (-1 : Int32)) i_M_takeWeek_45 rfl ?_
        rw [← e8]
        exact ht _
      · skip
        have h29 := bI_ne0.mp h29
        rw [if_pos h29] at e8
        refine r_aload_n (i := 0) i_M_takeWeek_32 rfl rfl ?_
        refine r_getf (ci := 6) (T := Fk6) (k := 3) o_M_takeWeek i_M_takeWeek_33 x_M_21 rfl (by decide) rfl (by repeat (first | assumption | exact upw_s | refine (upw_n (by omega)).trans ?_)) (by first | assumption | omega) (by rfl) ?_
        refine r_iload_n (i := 1) i_M_takeWeek_36 rfl rfl ?_
        refine r_aald i_M_takeWeek_37 (by repeat (first | assumption | exact upw_s | refine (upw_n (by omega)).trans ?_)) (by decide) (by first | assumption | omega) (by assumption) r2 ?_
        refine r_iload (i := 4) i_M_takeWeek_38 rfl ?_
        refine r_lald i_M_takeWeek_40 (by repeat (first | assumption | exact upw_s | refine (upw_n (by omega)).trans ?_)) (by first | assumption | omega) (by assumption) ?_
        rw [ec]
        refine r_l2i i_M_takeWeek_41 ?_
        refine r_goto 46 i_M_takeWeek_42 (by decide) ?_
        rw [← e8]
        exact ht _
  refine r_iconst (v := (0 : Int32)) i_M_takeWeek_0 rfl ?_
  refine r_istore_2 i_M_takeWeek_1 (by rw [l_M_takeWeek]; decide) rfl ?_
  refine r_iconst (v := (0 : Int32)) i_M_takeWeek_2 rfl ?_
  refine r_istore_3 i_M_takeWeek_3 (by rw [l_M_takeWeek]; decide) rfl ?_
  refine r_iconst (v := (0 : Int32)) i_M_takeWeek_4 rfl ?_
  refine r_istore_4 i_M_takeWeek_5 (by rw [l_M_takeWeek]; decide) rfl ?_
  refine hloop _ B 0 (by omega) (0, 0, M.2.1 38) w none rfl ?_ mFr.rf
  rw [mA_self rfl]
  exact h
end MTOLD
