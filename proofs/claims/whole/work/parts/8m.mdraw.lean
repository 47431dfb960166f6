-- THE REFERENCE: weeks by draws
theorem ush16 (x : Int32) : ∃ k, k < 65536 ∧ (x.toUInt32 >>> ((16 : Int32).toUInt32 &&& Int32.toUInt32 31)).toInt32 = nI k := by
  have e : ((x.toUInt32 >>> ((nI 16).toUInt32 &&& Int32.toUInt32 31)).toInt32).toBitVec = x.toUInt32.toBitVec >>> 16 := by
    show x.toUInt32.toBitVec >>> (((nI 16).toUInt32 &&& Int32.toUInt32 31).toBitVec % 32).toNat = _
    rw [s_u 16 (by decide)]
  refine ⟨(x.toUInt32.toBitVec >>> 16).toNat, ?_, Int32.toBitVec_inj.mp ?_⟩
  · rw [BitVec.toNat_ushiftRight, Nat.shiftRight_eq_div_pow]
    have := x.toUInt32.toBitVec.isLt
    omega
  · refine Eq.trans e (BitVec.eq_of_toNat_eq ?_)
    show _ = (BitVec.ofNat 32 (x.toUInt32.toBitVec >>> 16).toNat).toNat
    rw [BitVec.toNat_ofNat]
    exact (Nat.mod_eq_of_lt (x.toUInt32.toBitVec >>> 16).isLt).symm
theorem drawV_lt (x : Int32) {c : Nat} (h0 : 0 < c) (hc : c < 2 ^ 31) : ∃ k, k < c ∧ drawV x (nI c) = nI k := by
  obtain ⟨k, hk, e⟩ := ush16 x
  unfold drawV
  rw [e, pk_rem (by omega) h0 hc]
  exact ⟨_, Nat.mod_lt _ h0, rfl⟩
def cnP (M : aM) (b : Nat) (x : Int32) : Nat → Nat
  | 0 => 0
  | t + 1 => if mayM M b t x = true then cnP M b x t + 1 else cnP M b x t
def pkN (M : aM) (b : Nat) (x : Int32) : Nat → Nat → Nat → Nat
  | 0, t, _ => t
  | m + 1, t, l => if mayM M b t x = true then (if l = 0 then t else pkN M b x m (t + 1) (l - 1)) else pkN M b x m (t + 1) l
theorem cnP_le {M : aM} {b : Nat} {x : Int32} : ∀ t, cnP M b x t ≤ t
  | 0 => Nat.le_refl _
  | t + 1 => by
    have := cnP_le (M := M) (b := b) (x := x) t
    unfold cnP
    split <;> omega
theorem pkN_lt {M : aM} {b P : Nat} {x : Int32} : ∀ m t l, t + m = P → cnP M b x t + l < cnP M b x P → pkN M b x m t l < P
  | 0, t, l, h, hc => by
    have h : t = P := by omega
    subst h
    omega
  | m + 1, t, l, h, hc => by
    unfold pkN
    have e : cnP M b x (t + 1) = if mayM M b t x = true then cnP M b x t + 1 else cnP M b x t := rfl
    by_cases q : mayM M b t x = true
    · rw [if_pos q] at e ⊢
      split
      · omega
      · exact pkN_lt m (t + 1) (l - 1) (by omega) (by omega)
    · rw [if_neg q] at e ⊢
      exact pkN_lt m (t + 1) l (by omega) (by omega)
def dwM (M : aM) (P : Nat) : Nat → aK × Int32
  | 0 => ((0, 0, M.2.1 38), M.1 19)
  | b + 1 => if 0 < cnP M b (dwM M P b).1.2.1 P ∧ M.2.1 (21 + b) 4 &&& (dwM M P b).1.1 = 0 then (tkW (dwM M P b).1 b (nI (pkN M b (dwM M P b).1.2.1 P 0 (drawV (nxtSeed (dwM M P b).2) (nI (cnP M b (dwM M P b).1.2.1 P))).toNatClampNeg)), nxtSeed (dwM M P b).2) else (tkW (dwM M P b).1 b (-1), (dwM M P b).2)
def dmM (M : aM) (f : Nat → Int32) (sd : Int32) : aM := mS (mA M 38 f) 19 sd
def wdM (M : aM) (P B : Nat) : Int32 × aM := m2_comes (dmM M (dwM M P B).1.2.2 (dwM M P B).2) B
section MDRAW
variable {G : gE} {w : aW} {o n : Nat} {M : aM}
theorem dm_may {f : Nat → Int32} {sd : Int32} {b t : Nat} {x : Int32} (hb : b < 7) (ht : t < 7) : mayM (dmM M f sd) b t x = mayM M b t x := (mE.A (M := M) (j := 38) (f := f) (by omega)).may hb ht
theorem dm_ne {f : Nat → Int32} {sd : Int32} {i : Nat} (hi : ¬ i = 38) : (dmM M f sd).2.1 i = M.2.1 i := mA_ne (M := M) hi
theorem c_M_draw {c : Nat} (h : MW w o M n) (h0 : 0 < c) (hc : c < 2 ^ 31) : Mm G 1 y_M_draw [.ref o, .int (nI c)] w o n (drawV (nxtSeed (M.1 19)) (nI c), mS M 19 (nxtSeed (M.1 19))) := by
  obtain ⟨m0, mA', mL', m4, m20, m28, mn'⟩ := id h
  refine Mm.of k_M_draw l_M_draw rfl rfl ?_
  have hne : ¬ nI c = 0 := fun q => by have := (nI_eq (a := c) (b := 0) hc (by decide)).mp q; omega
  refine r_aload_n (i := 0) i_M_draw_0 rfl rfl ?_
  refine r_aload_n (i := 0) i_M_draw_1 rfl rfl ?_
  refine r_getf (ci := 6) (T := Fk6) (k := 19) o_M_draw i_M_draw_2 x_M_57 rfl (by decide) rfl (by repeat (first | assumption | exact upw_s | refine (upw_n (by omega)).trans ?_)) (by first | assumption | omega) (by rfl) ?_
  refine r_ldcw o_M_draw i_M_draw_5 x_M_335 ?_
  refine r_imul i_M_draw_8 ?_
  refine r_sipush (v := (12345 : Int32)) i_M_draw_9 (by decide) ?_
  refine r_iadd i_M_draw_12 ?_
  refine r_putf (ci := 6) (T := Fk6) (k := 19) o_M_draw i_M_draw_13 x_M_57 rfl (by decide) rfl rfl (ok6 19 (by decide)) rfl (by repeat (first | assumption | exact upw_s | refine (upw_n (by omega)).trans ?_)) (by first | assumption | omega) (by exact Nat.le_of_ble_eq_true rfl) ?_
  refine r_aload_n (i := 0) i_M_draw_16 rfl rfl ?_
  refine r_getf (ci := 6) (T := Fk6) (k := 19) o_M_draw i_M_draw_17 x_M_57 rfl (by decide) rfl (by repeat (first | assumption | exact upw_s | refine (upw_n (by omega)).trans ?_)) (by first | assumption | omega) (by rfl) ?_
  refine r_bipush (v := (16 : Int32)) i_M_draw_20 (by decide) ?_
  refine r_iushr i_M_draw_22 ?_
  refine r_iload_n (i := 1) i_M_draw_23 rfl rfl ?_
  refine r_irem i_M_draw_24 hne ?_
  refine r_ireturn i_M_draw_25 t_M_draw rfl ?_
  exact ⟨rfl, ⟨h.obj (M' := mS M 19 (nxtSeed (M.1 19))) rfl rfl, mFr.rf.up (by omega) (by omega)⟩, rfl⟩
theorem MW.dm {f g : Nat → Int32} {sd : Int32} (h : MW w o (dmM M f sd) n) : MW (upw w (o + 38) (ai 7 g)) o (dmM M g sd) n := by
  have h9 := h.arr (j := 38) (f := g) rfl
  have e : mA (dmM M f sd) 38 g = dmM M g sd := mA_A (M := mS M 19 sd)
  rw [e] at h9
  exact h9
theorem MW.ds {f : Nat → Int32} {sd s2 : Int32} (h : MW w o (mS (dmM M f sd) 19 s2) n) : MW w o (dmM M f s2) n := by
  have e : mS (dmM M f sd) 19 s2 = dmM M f s2 := by
    refine Prod.ext (funext fun j => ?_) rfl
    show (if j = 19 then s2 else if j = 19 then sd else M.1 j) = if j = 19 then s2 else M.1 j
    by_cases e : j = 19
    · rw [if_pos e, if_pos e]
    · rw [if_neg e, if_neg e, if_neg e]
  rw [e] at h
  exact h
theorem wd_cnt {P b c9 : Nat} {x y : Int32} {N : aM} {w1 : aW} (h1 : MW w1 o N n) (hb : b < 7) (hP : N.1 10 = nI P) (hP7 : P ≤ 7) (hm : ∀ t, t < 7 → mayM N b t x = mayM M b t x) (post : Option Value → aW → Nat → Prop) (z6 : Option Value) : ∀ m t, t + m = P → (∀ z5, Go G 4 y_M_weekByDraws 56 [some (.ref o), some (.int y), some (.int x), some (.int (nI b)), some (.int (nI (cnP M b x P))), z5, z6] [] w1 n 0 0 post) → Go G 4 y_M_weekByDraws 20 [some (.ref o), some (.int y), some (.int x), some (.int (nI b)), some (.int (nI (cnP M b x t))), some (.int (nI t)), z6] [] w1 n 0 0 post := by
  intro m
  induction m with
  | zero =>
    intro t ht hq
    have ht : t = P := by omega
    subst ht
    obtain ⟨m0, mA', mL', m4, m20, m28, mn'⟩ := id h1
    refine r_iload (i := 5) i_M_weekByDraws_20 rfl ?_
    refine r_aload_n (i := 0) i_M_weekByDraws_22 rfl rfl ?_
    refine r_getf (ci := 6) (T := Fk6) (k := 10) o_M_weekByDraws i_M_weekByDraws_23 x_M_73 rfl (by decide) rfl (by repeat (first | assumption | exact upw_s | refine (upw_n (by omega)).trans ?_)) (by first | assumption | omega) (by rfl) ?_
    rw [hP]
    refine r_icmp_ge 56 i_M_weekByDraws_26 (by decide) (fun h26 => ?_) (fun h26 => (absurd (nI_le (Nat.le_refl _) (by omega)) h26))
    exact hq _
  | succ m ih =>
    intro t ht hq
    have ih' := ih (t + 1) (by omega) hq
    have e7 : cnP M b x (t + 1) = if mayM M b t x = true then cnP M b x t + 1 else cnP M b x t := rfl
    rw [e7] at ih'
    have hmy := c_M_may (G := G) (b := b) (t := t) (x := x) h1 hb (by omega)
    rw [hm t (by omega)] at hmy
    obtain ⟨m0, mA', mL', m4, m20, m28, mn'⟩ := id h1
    refine r_iload (i := 5) i_M_weekByDraws_20 rfl ?_
    refine r_aload_n (i := 0) i_M_weekByDraws_22 rfl rfl ?_
    refine r_getf (ci := 6) (T := Fk6) (k := 10) o_M_weekByDraws i_M_weekByDraws_23 x_M_73 rfl (by decide) rfl (by repeat (first | assumption | exact upw_s | refine (upw_n (by omega)).trans ?_)) (by first | assumption | omega) (by rfl) ?_
    rw [hP]
    refine r_icmp_ge 56 i_M_weekByDraws_26 (by decide) (fun h26 => (absurd h26 (nI_ge (by omega) (by omega)))) (fun h26 => ?_)
    refine r_iload (i := 4) i_M_weekByDraws_29 rfl ?_
    refine r_aload_n (i := 0) i_M_weekByDraws_31 rfl rfl ?_
    refine r_iload_n (i := 3) i_M_weekByDraws_32 rfl rfl ?_
    refine r_iload (i := 5) i_M_weekByDraws_33 rfl ?_
    refine r_iload_n (i := 2) i_M_weekByDraws_35 rfl rfl ?_
    refine f_virtual o_M_weekByDraws k_M_may v_M_may x_M_255 i_M_weekByDraws_36 o_M_may (hmy) rfl (rcv_ob (by repeat (first | assumption | exact upw_s | refine (upw_n (by omega)).trans ?_)) rfl (by first | assumption | omega)) rfl (by decide) (Nat.le_of_ble_eq_true rfl) ?_
    refine r_if_eq 46 i_M_weekByDraws_39 (by decide) (fun h39 => ?_) (fun h39 => ?_)
    · skip
      have h39 := bI_eq0.mp h39
      rw [if_neg (by rw [h39]; decide)] at ih'
      refine r_iconst (v := (0 : Int32)) i_M_weekByDraws_46 rfl ?_
      refine r_iadd i_M_weekByDraws_47 ?_
      refine r_istore_4 i_M_weekByDraws_48 (by rw [l_M_weekByDraws]; decide) rfl ?_
      refine r_iinc_5 (v := (1 : Int32)) i_M_weekByDraws_50 rfl (by rw [l_M_weekByDraws]; decide) rfl ?_
      refine r_goto 20 i_M_weekByDraws_53 (by decide) ?_
      rw [nI_1]
      first | (rw [Int32.add_zero]; exact ih') | (rw [nI_1]; exact ih')
    · skip
      have h39 := bI_ne0.mp h39
      rw [if_pos h39] at ih'
      refine r_iconst (v := (1 : Int32)) i_M_weekByDraws_42 rfl ?_
      refine r_goto 47 i_M_weekByDraws_43 (by decide) ?_
      refine r_iadd i_M_weekByDraws_47 ?_
      refine r_istore_4 i_M_weekByDraws_48 (by rw [l_M_weekByDraws]; decide) rfl ?_
      refine r_iinc_5 (v := (1 : Int32)) i_M_weekByDraws_50 rfl (by rw [l_M_weekByDraws]; decide) rfl ?_
      refine r_goto 20 i_M_weekByDraws_53 (by decide) ?_
      rw [nI_1]
      first | (rw [Int32.add_zero]; exact ih') | (rw [nI_1]; exact ih')
theorem wd_pick {P b : Nat} {x y c : Int32} {N : aM} {w1 : aW} (h1 : MW w1 o N n) (hb : b < 7) (hP7 : P ≤ 7) (hm : ∀ t, t < 7 → mayM N b t x = mayM M b t x) (post : Option Value → aW → Nat → Prop) : ∀ m t l, t + m = P → cnP M b x t + l < cnP M b x P → (∀ z5, Go G 4 y_M_weekByDraws 135 [some (.ref o), some (.int y), some (.int x), some (.int (nI b)), some (.int c), z5, some (.int (nI (pkN M b x m t l)))] [] w1 n 0 0 post) → Go G 4 y_M_weekByDraws 92 [some (.ref o), some (.int y), some (.int x), some (.int (nI b)), some (.int c), some (.int (nI l)), some (.int (nI t))] [] w1 n 0 0 post := by
  intro m
  induction m with
  | zero =>
    intro t l ht hc hq
    have ht : t = P := by omega
    subst ht
    omega
  | succ m ih =>
    intro t l ht hc hq
    have hle := cnP_le (M := M) (b := b) (x := x) P
    have e7 : cnP M b x (t + 1) = if mayM M b t x = true then cnP M b x t + 1 else cnP M b x t := rfl
    have e8 : pkN M b x (m + 1) t l = if mayM M b t x = true then (if l = 0 then t else pkN M b x m (t + 1) (l - 1)) else pkN M b x m (t + 1) l := rfl
    rw [e8] at hq
    have hmy := c_M_may (G := G) (b := b) (t := t) (x := x) h1 hb (by omega)
    rw [hm t (by omega)] at hmy
    obtain ⟨m0, mA', mL', m4, m20, m28, mn'⟩ := id h1
    refine r_aload_n (i := 0) i_M_weekByDraws_92 rfl rfl ?_
    refine r_iload_n (i := 3) i_M_weekByDraws_93 rfl rfl ?_
    refine r_iload (i := 6) i_M_weekByDraws_94 rfl ?_
    refine r_iload_n (i := 2) i_M_weekByDraws_96 rfl rfl ?_
    refine f_virtual o_M_weekByDraws k_M_may v_M_may x_M_255 i_M_weekByDraws_97 o_M_may (hmy) rfl (rcv_ob (by repeat (first | assumption | exact upw_s | refine (upw_n (by omega)).trans ?_)) rfl (by first | assumption | omega)) rfl (by decide) (Nat.le_of_ble_eq_true rfl) ?_
    refine r_if_eq 108 i_M_weekByDraws_100 (by decide) (fun h100 => ?_) (fun h100 => ?_)
    · skip
      have h100 := bI_eq0.mp h100
      rw [if_neg (by rw [h100]; decide)] at hq e7
      refine r_iload (i := 5) i_M_weekByDraws_108 rfl ?_
      refine r_aload_n (i := 0) i_M_weekByDraws_110 rfl rfl ?_
      refine r_iload_n (i := 3) i_M_weekByDraws_111 rfl rfl ?_
      refine r_iload (i := 6) i_M_weekByDraws_112 rfl ?_
      refine r_iload_n (i := 2) i_M_weekByDraws_114 rfl rfl ?_
      refine f_virtual o_M_weekByDraws k_M_may v_M_may x_M_255 i_M_weekByDraws_115 o_M_may (hmy) rfl (rcv_ob (by repeat (first | assumption | exact upw_s | refine (upw_n (by omega)).trans ?_)) rfl (by first | assumption | omega)) rfl (by decide) (Nat.le_of_ble_eq_true rfl) ?_
      refine r_if_eq 125 i_M_weekByDraws_118 (by decide) (fun h118 => ?_) (fun h118 => ?_)
      · first
        | exact absurd h118 (by decide)
        | first | exact absurd (bI_ne0.mp h118) (by rw [h100]; decide) | exact absurd (bI_eq0.mp h118) (by rw [h100]; decide)
        | skip
          refine r_iconst (v := (0 : Int32)) i_M_weekByDraws_125 rfl ?_
          refine r_isub i_M_weekByDraws_126 ?_
          refine r_istore_5 i_M_weekByDraws_127 (by rw [l_M_weekByDraws]; decide) rfl ?_
          refine r_iinc_6 (v := (1 : Int32)) i_M_weekByDraws_129 rfl (by rw [l_M_weekByDraws]; decide) rfl ?_
          refine r_goto 92 i_M_weekByDraws_132 (by decide) ?_
          rw [nI_1]
          first
            | (rw [Int32.sub_zero]; exact ih (t + 1) l (by omega) (by omega) hq)
            | (rw [show nI l - 1 = nI (l - 1) from pk_sub (b := 1) (by omega)]; exact ih (t + 1) (l - 1) (by omega) (by omega) hq)
      · first
        | exact absurd h118 (by decide)
        | first | exact absurd (bI_ne0.mp h118) (by rw [h100]; decide) | exact absurd (bI_eq0.mp h118) (by rw [h100]; decide)
        | skip
          refine r_iconst (v := (1 : Int32)) i_M_weekByDraws_121 rfl ?_
          refine r_goto 126 i_M_weekByDraws_122 (by decide) ?_
          refine r_isub i_M_weekByDraws_126 ?_
          refine r_istore_5 i_M_weekByDraws_127 (by rw [l_M_weekByDraws]; decide) rfl ?_
          refine r_iinc_6 (v := (1 : Int32)) i_M_weekByDraws_129 rfl (by rw [l_M_weekByDraws]; decide) rfl ?_
          refine r_goto 92 i_M_weekByDraws_132 (by decide) ?_
          rw [nI_1]
          first
            | (rw [Int32.sub_zero]; exact ih (t + 1) l (by omega) (by omega) hq)
            | (rw [show nI l - 1 = nI (l - 1) from pk_sub (b := 1) (by omega)]; exact ih (t + 1) (l - 1) (by omega) (by omega) hq)
    · skip
      have h100 := bI_ne0.mp h100
      rw [if_pos h100] at hq e7
      refine r_iload (i := 5) i_M_weekByDraws_103 rfl ?_
      refine r_if_le 135 i_M_weekByDraws_105 (by decide) (fun h105 => ?_) (fun h105 => ?_)
      · skip
        have hl : l = 0 := Classical.byContradiction (fun q => absurd (show (0 : Int32) < nI l from nI_lt (a := 0) (by omega) (by omega)) (Int32.not_lt.mpr h105))
        rw [if_pos hl] at hq
        exact hq _
      · skip
        have hl : ¬ l = 0 := fun q => h105 (by rw [q]; decide)
        rw [if_neg hl] at hq
        refine r_iload (i := 5) i_M_weekByDraws_108 rfl ?_
        refine r_aload_n (i := 0) i_M_weekByDraws_110 rfl rfl ?_
        refine r_iload_n (i := 3) i_M_weekByDraws_111 rfl rfl ?_
        refine r_iload (i := 6) i_M_weekByDraws_112 rfl ?_
        refine r_iload_n (i := 2) i_M_weekByDraws_114 rfl rfl ?_
        refine f_virtual o_M_weekByDraws k_M_may v_M_may x_M_255 i_M_weekByDraws_115 o_M_may (hmy) rfl (rcv_ob (by repeat (first | assumption | exact upw_s | refine (upw_n (by omega)).trans ?_)) rfl (by first | assumption | omega)) rfl (by decide) (Nat.le_of_ble_eq_true rfl) ?_
        refine r_if_eq 125 i_M_weekByDraws_118 (by decide) (fun h118 => ?_) (fun h118 => ?_)
        · first
          | exact absurd h118 (by decide)
          | first | exact absurd (bI_ne0.mp h118) (by rw [h100]; decide) | exact absurd (bI_eq0.mp h118) (by rw [h100]; decide)
          | skip
            refine r_iconst (v := (0 : Int32)) i_M_weekByDraws_125 rfl ?_
            refine r_isub i_M_weekByDraws_126 ?_
            refine r_istore_5 i_M_weekByDraws_127 (by rw [l_M_weekByDraws]; decide) rfl ?_
            refine r_iinc_6 (v := (1 : Int32)) i_M_weekByDraws_129 rfl (by rw [l_M_weekByDraws]; decide) rfl ?_
            refine r_goto 92 i_M_weekByDraws_132 (by decide) ?_
            rw [nI_1]
            first
              | (rw [Int32.sub_zero]; exact ih (t + 1) l (by omega) (by omega) hq)
              | (rw [show nI l - 1 = nI (l - 1) from pk_sub (b := 1) (by omega)]; exact ih (t + 1) (l - 1) (by omega) (by omega) hq)
        · first
          | exact absurd h118 (by decide)
          | first | exact absurd (bI_ne0.mp h118) (by rw [h100]; decide) | exact absurd (bI_eq0.mp h118) (by rw [h100]; decide)
          | skip
            refine r_iconst (v := (1 : Int32)) i_M_weekByDraws_121 rfl ?_
            refine r_goto 126 i_M_weekByDraws_122 (by decide) ?_
            refine r_isub i_M_weekByDraws_126 ?_
            refine r_istore_5 i_M_weekByDraws_127 (by rw [l_M_weekByDraws]; decide) rfl ?_
            refine r_iinc_6 (v := (1 : Int32)) i_M_weekByDraws_129 rfl (by rw [l_M_weekByDraws]; decide) rfl ?_
            refine r_goto 92 i_M_weekByDraws_132 (by decide) ?_
            rw [nI_1]
            first
              | (rw [Int32.sub_zero]; exact ih (t + 1) l (by omega) (by omega) hq)
              | (rw [show nI l - 1 = nI (l - 1) from pk_sub (b := 1) (by omega)]; exact ih (t + 1) (l - 1) (by omega) (by omega) hq)
theorem c_M_weekByDraws {P B : Nat} (h : MW w o M n) (hP : M.1 10 = nI P) (hP7 : P ≤ 7) (hB : M.1 13 = nI B) (hB7 : B ≤ 7) (hk : PMk M B) : Mm G 4 y_M_weekByDraws [.ref o] w o n (wdM M P B) := by
  refine Mm.of k_M_weekByDraws l_M_weekByDraws rfl rfl ?_
  have hcs : ∀ B b, b < B → (dwM M P B).1.2.2 b = -1 ∨ ∃ t, t < 7 ∧ (dwM M P B).1.2.2 b = nI t := by
    intro B
    induction B with
    | zero => exact fun b hb => absurd hb (by omega)
    | succ B ih =>
      intro b hb
      unfold dwM
      split
      · rename_i q
        show upd _ B _ b = -1 ∨ ∃ t, t < 7 ∧ upd _ B _ b = nI t
        unfold upd
        by_cases e : b = B
        · rw [if_pos e]
          obtain ⟨k, hk, e9⟩ := drawV_lt (nxtSeed (dwM M P B).2) q.1 (by have := cnP_le (M := M) (b := B) (x := (dwM M P B).1.2.1) P; omega)
          rw [e9, nI_clamp (by have := cnP_le (M := M) (b := B) (x := (dwM M P B).1.2.1) P; omega)]
          exact Or.inr ⟨_, Nat.lt_of_lt_of_le (pkN_lt P 0 k (by omega) (by show 0 + k < _; omega)) hP7, rfl⟩
        · rw [if_neg e]
          exact ih b (by omega)
      · show upd _ B _ b = -1 ∨ ∃ t, t < 7 ∧ upd _ B _ b = nI t
        unfold upd
        by_cases e : b = B
        · rw [if_pos e]
          exact Or.inl rfl
        · rw [if_neg e]
          exact ih b (by omega)
  have hloop : ∀ m b, b + m = B → ∀ w1 z4 z5 z6, MW w1 o (dmM M (dwM M P b).1.2.2 (dwM M P b).2) n → mFr w w1 o → Go G 4 y_M_weekByDraws 6 [some (.ref o), some (.int (dwM M P b).1.1), some (.int (dwM M P b).1.2.1), some (.int (nI b)), z4, z5, z6] [] w1 n 0 0 (fun r w' n' => r = some (.int (wdM M P B).1) ∧ (MW w' o (wdM M P B).2 n ∧ mFr w w' o) ∧ n' = n) := by
    intro m
    induction m with
    | zero =>
      intro b hb w1 z4 z5 z6 h1 hF
      have hb : b = B := by omega
      subst hb
      have hB1 : (dmM M (dwM M P b).1.2.2 (dwM M P b).2).1 13 = nI b := hB
      have hco := c_M_comes (G := G) h1 hB1 hB7 (fun c hc => hcs b c hc) (fun c hc => by rw [dm_ne (by omega)]; exact hk c hc)
      rw [show m2_comes (dmM M (dwM M P b).1.2.2 (dwM M P b).2) b = wdM M P b from rfl] at hco
      generalize wdM M P b = R at *
      generalize dmM M (dwM M P b).1.2.2 (dwM M P b).2 = N at *
      obtain ⟨m0, mA', mL', m4, m20, m28, mn'⟩ := id h1
      refine r_iload_n (i := 3) i_M_weekByDraws_6 rfl rfl ?_
      refine r_aload_n (i := 0) i_M_weekByDraws_7 rfl rfl ?_
      refine r_getf (ci := 6) (T := Fk6) (k := 13) o_M_weekByDraws i_M_weekByDraws_8 x_M_80 rfl (by decide) rfl (by repeat (first | assumption | exact upw_s | refine (upw_n (by omega)).trans ?_)) (by first | assumption | omega) (by rfl) ?_
      rw [hB1]
      refine r_icmp_ge 162 i_M_weekByDraws_11 (by decide) (fun h11 => ?_) (fun h11 => (absurd (nI_le (Nat.le_refl _) (by omega)) h11))
      refine r_aload_n (i := 0) i_M_weekByDraws_162 rfl rfl ?_
      refine m_virtual o_M_weekByDraws k_M_comes v_M_comes x_M_285 i_M_weekByDraws_163 o_M_comes (hco) rfl (rcv_ob (by repeat (first | assumption | exact upw_s | refine (upw_n (by omega)).trans ?_)) rfl (by first | assumption | omega)) rfl (by decide) (Nat.le_of_ble_eq_true rfl) (Nat.zero_le _) (Nat.zero_le _) (fun q1 w3 n1 hp9 => ?_)
      obtain ⟨rfl, ⟨hM3, hF3⟩, rfl⟩ := hp9
      refine r_ireturn i_M_weekByDraws_166 t_M_weekByDraws rfl ?_
      exact ⟨rfl, ⟨hM3, hF.tr hF3⟩, rfl⟩
    | succ m ih =>
      intro b hb w1 z4 z5 z6 h1 hF
      have ih' := ih (b + 1) (by omega)
      have e7 : dwM M P (b + 1) = if 0 < cnP M b (dwM M P b).1.2.1 P ∧ M.2.1 (21 + b) 4 &&& (dwM M P b).1.1 = 0 then (tkW (dwM M P b).1 b (nI (pkN M b (dwM M P b).1.2.1 P 0 (drawV (nxtSeed (dwM M P b).2) (nI (cnP M b (dwM M P b).1.2.1 P))).toNatClampNeg)), nxtSeed (dwM M P b).2) else (tkW (dwM M P b).1 b (-1), (dwM M P b).2) := rfl
      rw [e7] at ih'
      generalize dwM M P b = D at *
      obtain ⟨X, sd⟩ := D
      have hle := cnP_le (M := M) (b := b) (x := X.2.1) P
      have hB1 : (dmM M X.2.2 sd).1 13 = nI B := hB
      have hP1 : (dmM M X.2.2 sd).1 10 = nI P := hP
      have ib : vp_in (nI b) 7 := vp_in_nI (by omega) (by decide)
      have ec : (nI b).toNatClampNeg = b := nI_clamp (by omega)
      obtain ⟨i0, i1, i2, i3, i4⟩ := v5
      -- behind the count
      have mid : ∀ z5, Go G 4 y_M_weekByDraws 56 [some (.ref o), some (.int X.1), some (.int X.2.1), some (.int (nI b)), some (.int (nI (cnP M b X.2.1 P))), z5, z6] [] w1 n 0 0 (fun r w' n' => r = some (.int (wdM M P B).1) ∧ (MW w' o (wdM M P B).2 n ∧ mFr w w' o) ∧ n' = n) := by
        intro z5
        have h2 := h1.dm (g := upd X.2.2 b (-1))
        have hF2 := hF.up (j := o + 38) (c := ai 7 (upd X.2.2 b (-1))) (by omega) (by omega)
        have no : ¬ (0 < cnP M b X.2.1 P ∧ M.2.1 (21 + b) 4 &&& X.1 = 0) → ∀ z5 z6, Go G 4 y_M_weekByDraws 156 [some (.ref o), some (.int X.1), some (.int X.2.1), some (.int (nI b)), some (.int (nI (cnP M b X.2.1 P))), z5, z6] [] (upw w1 (o + 38) (ai 7 (upd X.2.2 b (-1)))) n 0 0 (fun r w' n' => r = some (.int (wdM M P B).1) ∧ (MW w' o (wdM M P B).2 n ∧ mFr w w' o) ∧ n' = n) := by
          intro q z5 z6
          rw [if_neg q] at ih'
          refine r_iinc_3 (v := (1 : Int32)) i_M_weekByDraws_156 rfl (by rw [l_M_weekByDraws]; decide) rfl ?_
          refine r_goto 6 i_M_weekByDraws_159 (by decide) ?_
          rw [nI_1]
          exact ih' _ _ _ _ h2 hF2
        have yes : 0 < cnP M b X.2.1 P → M.2.1 (21 + b) 4 &&& X.1 = 0 → ∀ k, k < cnP M b X.2.1 P → drawV (nxtSeed sd) (nI (cnP M b X.2.1 P)) = nI k → ∀ w2, MW w2 o (dmM M (upd X.2.2 b (-1)) (nxtSeed sd)) n → mFr w w2 o → ∀ z6, Go G 4 y_M_weekByDraws 87 [some (.ref o), some (.int X.1), some (.int X.2.1), some (.int (nI b)), some (.int (nI (cnP M b X.2.1 P))), z5, z6] [.int (nI k)] w2 n 0 0 (fun r w' n' => r = some (.int (wdM M P B).1) ∧ (MW w' o (wdM M P B).2 n ∧ mFr w w' o) ∧ n' = n) := by
          intro q1 q2 k hk9 ek w2 h2 hF2 z6
          rw [if_pos ⟨q1, q2⟩] at ih'
          have ih' : ∀ w1 z4 z5 z6, MW w1 o (dmM M (tkW X b (nI (pkN M b X.2.1 P 0 (drawV (nxtSeed sd) (nI (cnP M b X.2.1 P))).toNatClampNeg))).2.2 (nxtSeed sd)) n → mFr w w1 o → Go G 4 y_M_weekByDraws 6 [some (.ref o), some (.int (tkW X b (nI (pkN M b X.2.1 P 0 (drawV (nxtSeed sd) (nI (cnP M b X.2.1 P))).toNatClampNeg))).1), some (.int (tkW X b (nI (pkN M b X.2.1 P 0 (drawV (nxtSeed sd) (nI (cnP M b X.2.1 P))).toNatClampNeg))).2.1), some (.int (nI (b + 1))), z4, z5, z6] [] w1 n 0 0 (fun r w' n' => r = some (.int (wdM M P B).1) ∧ (MW w' o (wdM M P B).2 n ∧ mFr w w' o) ∧ n' = n) := ih'
          rw [ek, nI_clamp (by omega)] at ih'
          have hpk := pkN_lt (M := M) (b := b) (P := P) (x := X.2.1) P 0 k (by omega) (by show 0 + k < _; omega)
          have hpick := wd_pick (G := G) (M := M) (x := X.2.1) (y := X.1) (c := nI (cnP M b X.2.1 P)) h2 (show b < 7 by omega) hP7 (fun t ht => dm_may (by omega) ht) (fun r w' n' => r = some (.int (wdM M P B).1) ∧ (MW w' o (wdM M P B).2 n ∧ mFr w w' o) ∧ n' = n) P 0 k (by omega) (by show 0 + k < _; omega)
          generalize pkN M b X.2.1 P 0 k = t at *
          have hne : ¬ nI t = -1 := nI_nem1 (by omega)
          unfold tkW at ih'
          rw [if_neg hne, if_neg hne] at ih'
          have h3 := h2.dm (g := upd (upd X.2.2 b (-1)) b (nI t))
          have e9 : upd (upd X.2.2 b (-1)) b (nI t) = upd X.2.2 b (nI t) := by
            funext j
            unfold upd
            by_cases e : j = b
            · rw [if_pos e, if_pos e]
            · rw [if_neg e, if_neg e, if_neg e]
          have a38 : w2 (o + 38) = ai 7 (upd X.2.2 b (-1)) := h2.2.1 38 rfl
          have m0 := h2.1
          have mn' := h2.2.2.2.2.2.2
          refine r_istore_5 i_M_weekByDraws_87 (by rw [l_M_weekByDraws]; decide) rfl ?_
          refine r_iconst (v := (0 : Int32)) i_M_weekByDraws_89 rfl ?_
          refine r_istore_6 i_M_weekByDraws_90 (by rw [l_M_weekByDraws]; decide) rfl ?_
          refine hpick (fun z5 => ?_)
          refine r_aload_n (i := 0) i_M_weekByDraws_135 rfl rfl ?_
          refine r_getf (ci := 6) (T := Fk6) (k := 29) o_M_weekByDraws i_M_weekByDraws_136 x_M_64 rfl (by decide) rfl m0 (by omega) (by rfl) ?_
          refine r_iload_n (i := 3) i_M_weekByDraws_139 rfl rfl ?_
          refine r_iload (i := 6) i_M_weekByDraws_140 rfl ?_
          refine r_iast i_M_weekByDraws_142 a38 (by omega) ib ?_
          rw [ec]
          refine r_iload_n (i := 1) i_M_weekByDraws_143 rfl rfl ?_
          refine r_iconst (v := (1 : Int32)) i_M_weekByDraws_144 rfl ?_
          refine r_iload_n (i := 3) i_M_weekByDraws_145 rfl rfl ?_
          refine r_ishl i_M_weekByDraws_146 ?_
          refine r_ior i_M_weekByDraws_147 ?_
          refine r_istore_1 i_M_weekByDraws_148 (by rw [l_M_weekByDraws]; decide) rfl ?_
          refine r_iload_n (i := 2) i_M_weekByDraws_149 rfl rfl ?_
          refine r_iconst (v := (1 : Int32)) i_M_weekByDraws_150 rfl ?_
          refine r_iload (i := 6) i_M_weekByDraws_151 rfl ?_
          refine r_ishl i_M_weekByDraws_153 ?_
          refine r_ior i_M_weekByDraws_154 ?_
          refine r_istore_2 i_M_weekByDraws_155 (by rw [l_M_weekByDraws]; decide) rfl ?_
          refine r_iinc_3 (v := (1 : Int32)) i_M_weekByDraws_156 rfl (by rw [l_M_weekByDraws]; decide) rfl ?_
          refine r_goto 6 i_M_weekByDraws_159 (by decide) ?_
          rw [nI_1]
          rw [e9] at h3 ⊢
          exact ih' _ _ _ _ h3 (hF2.up (by omega) (by omega))
        have hdr := fun q => c_M_draw (G := G) (c := cnP M b X.2.1 P) h2 q (by omega)
        obtain ⟨r1, r2, r3, r4, r5⟩ := row_of h2 (show b < 7 by omega)
        have r1 : upw w1 (o + 38) (ai 7 (upd X.2.2 b (-1))) (o + 21 + b) = ai 5 (M.2.1 (21 + b)) := r1.trans (congrArg (ai 5) (mA_ne (M := M) (by omega)))
        have a38 : w1 (o + 38) = ai 7 X.2.2 := h1.2.1 38 rfl
        obtain ⟨m0, mA', mL', m4, m20, m28, mn'⟩ := id h2
        have q0 := h1.1
        refine r_aload_n (i := 0) i_M_weekByDraws_56 rfl rfl ?_
        refine r_getf (ci := 6) (T := Fk6) (k := 29) o_M_weekByDraws i_M_weekByDraws_57 x_M_64 rfl (by decide) rfl q0 (by omega) (by rfl) ?_
        refine r_iload_n (i := 3) i_M_weekByDraws_60 rfl rfl ?_
        refine r_iconst (v := (-1 : Int32)) i_M_weekByDraws_61 rfl ?_
        refine r_iast i_M_weekByDraws_62 a38 (by omega) ib ?_
        rw [ec]
        generalize upw w1 (o + 38) (ai 7 (upd X.2.2 b (-1))) = w2 at *
        refine r_iload (i := 4) i_M_weekByDraws_63 rfl ?_
        refine r_if_le 156 i_M_weekByDraws_65 (by decide) (fun h65 => ?_) (fun h65 => ?_)
        · skip
          have q65 : ¬ 0 < cnP M b X.2.1 P := fun q => absurd (show (0 : Int32) < nI (cnP M b X.2.1 P) from nI_lt (a := 0) q (by omega)) (Int32.not_lt.mpr h65)
          have no := no (fun q => q65 q.1)
          exact no _ _
        · skip
          have q65 : 0 < cnP M b X.2.1 P := Nat.pos_of_ne_zero (fun q => h65 (by rw [q]; decide))
          refine r_aload_n (i := 0) i_M_weekByDraws_68 rfl rfl ?_
          refine r_getf (ci := 6) (T := Fk6) (k := 14) o_M_weekByDraws i_M_weekByDraws_69 x_M_48 rfl (by decide) rfl (by repeat (first | assumption | exact upw_s | refine (upw_n (by omega)).trans ?_)) (by first | assumption | omega) (by rfl) ?_
          refine r_iload_n (i := 3) i_M_weekByDraws_72 rfl rfl ?_
          refine r_aald i_M_weekByDraws_73 (by repeat (first | assumption | exact upw_s | refine (upw_n (by omega)).trans ?_)) (by decide) (by first | assumption | omega) (by assumption) r3 ?_
          refine r_iconst (v := (4 : Int32)) i_M_weekByDraws_74 rfl ?_
          refine r_iald i_M_weekByDraws_75 (by repeat (first | assumption | exact upw_s | refine (upw_n (by omega)).trans ?_)) (by first | assumption | omega) (by assumption) ?_
          refine r_iload_n (i := 1) i_M_weekByDraws_76 rfl rfl ?_
          refine r_iand i_M_weekByDraws_77 ?_
          refine r_if_ne 156 i_M_weekByDraws_78 (by decide) (fun h78 => ?_) (fun h78 => ?_)
          · skip
            have h78 : ¬ M.2.1 (21 + b) 4 &&& X.1 = 0 := h78
            have no := no (fun q => h78 q.2)
            exact no _ _
          · skip
            have h78 : M.2.1 (21 + b) 4 &&& X.1 = 0 := h78
            obtain ⟨k, hk9, ek⟩ := drawV_lt (nxtSeed sd) q65 (show cnP M b X.2.1 P < 2 ^ 31 by omega)
            have yes := yes q65 h78 k hk9 ek
            have hdr : Mm G 1 y_M_draw [.ref o, .int (nI (cnP M b X.2.1 P))] w2 o n (drawV (nxtSeed sd) (nI (cnP M b X.2.1 P)), mS (dmM M (upd X.2.2 b (-1)) sd) 19 (nxtSeed sd)) := hdr q65
            rw [ek] at hdr
            refine r_aload_n (i := 0) i_M_weekByDraws_81 rfl rfl ?_
            refine r_iload (i := 4) i_M_weekByDraws_82 rfl ?_
            refine m_virtual o_M_weekByDraws k_M_draw v_M_draw x_M_336 i_M_weekByDraws_84 o_M_draw (hdr) rfl (rcv_ob (by repeat (first | assumption | exact upw_s | refine (upw_n (by omega)).trans ?_)) rfl (by first | assumption | omega)) rfl (by decide) (Nat.le_of_ble_eq_true rfl) (Nat.zero_le _) (Nat.zero_le _) (fun q1 w3 n1 hp9 => ?_)
            obtain ⟨rfl, ⟨hM3, hF3⟩, rfl⟩ := hp9
            exact yes w3 hM3.ds (hF2.tr hF3) _
      have hcnt := wd_cnt (G := G) (M := M) (c9 := 0) (x := X.2.1) (y := X.1) h1 (show b < 7 by omega) hP1 hP7 (fun t ht => dm_may (by omega) ht) (fun r w' n' => r = some (.int (wdM M P B).1) ∧ (MW w' o (wdM M P B).2 n ∧ mFr w w' o) ∧ n' = n) z6 P 0 (by omega) mid
      obtain ⟨m0, mA', mL', m4, m20, m28, mn'⟩ := id h1
      refine r_iload_n (i := 3) i_M_weekByDraws_6 rfl rfl ?_
      refine r_aload_n (i := 0) i_M_weekByDraws_7 rfl rfl ?_
      refine r_getf (ci := 6) (T := Fk6) (k := 13) o_M_weekByDraws i_M_weekByDraws_8 x_M_80 rfl (by decide) rfl (by repeat (first | assumption | exact upw_s | refine (upw_n (by omega)).trans ?_)) (by first | assumption | omega) (by rfl) ?_
      rw [hB1]
      refine r_icmp_ge 162 i_M_weekByDraws_11 (by decide) (fun h11 => (absurd h11 (nI_ge (by omega) (by omega)))) (fun h11 => ?_)
      refine r_iconst (v := (0 : Int32)) i_M_weekByDraws_14 rfl ?_
      refine r_istore_4 i_M_weekByDraws_15 (by rw [l_M_weekByDraws]; decide) rfl ?_
      refine r_iconst (v := (0 : Int32)) i_M_weekByDraws_17 rfl ?_
      refine r_istore_5 i_M_weekByDraws_18 (by rw [l_M_weekByDraws]; decide) rfl ?_
      exact hcnt
  refine r_iconst (v := (0 : Int32)) i_M_weekByDraws_0 rfl ?_
  refine r_istore_1 i_M_weekByDraws_1 (by rw [l_M_weekByDraws]; decide) rfl ?_
  refine r_iconst (v := (0 : Int32)) i_M_weekByDraws_2 rfl ?_
  refine r_istore_2 i_M_weekByDraws_3 (by rw [l_M_weekByDraws]; decide) rfl ?_
  refine r_iconst (v := (0 : Int32)) i_M_weekByDraws_4 rfl ?_
  refine r_istore_3 i_M_weekByDraws_5 (by rw [l_M_weekByDraws]; decide) rfl ?_
  refine hloop B 0 (by omega) w none none none ?_ mFr.rf
  have e : dmM M (dwM M P 0).1.2.2 (dwM M P 0).2 = M := by
    show mS (mA M 38 (M.2.1 38)) 19 (M.1 19) = M
    rw [mA_self (M := M) (j := 38) (f := M.2.1 38) rfl]
    refine Prod.ext (funext fun j => ?_) rfl
    show (if j = 19 then M.1 19 else M.1 j) = M.1 j
    by_cases e : j = 19
    · rw [if_pos e, e]
    · rw [if_neg e]
  rw [e]
  exact h
theorem c_M_week {P B : Nat} (h : MW w o M n) (hP : M.1 10 = nI P) (hP7 : P ≤ 7) (hB : M.1 13 = nI B) (hB7 : B ≤ 7) (hk : PMk M B) : Mm G 5 y_M_week [.ref o] w o n (wdM M P B) := by
  have hw := c_M_weekByDraws (G := G) h hP hP7 hB hB7 hk
  obtain ⟨m0, mA', mL', m4, m20, m28, mn'⟩ := id h
  refine Mm.of k_M_week l_M_week rfl rfl ?_
  refine r_aload_n (i := 0) i_M_week_0 rfl rfl ?_
  refine m_virtual o_M_week k_M_weekByDraws v_M_weekByDraws x_M_339 i_M_week_1 o_M_weekByDraws (hw) rfl (rcv_ob (by repeat (first | assumption | exact upw_s | refine (upw_n (by omega)).trans ?_)) rfl (by first | assumption | omega)) rfl (by decide) (Nat.le_of_ble_eq_true rfl) (Nat.zero_le _) (Nat.zero_le _) (fun q1 w3 n1 hp9 => ?_)
  obtain ⟨rfl, hp9, rfl⟩ := hp9
  refine r_ireturn i_M_week_4 t_M_week rfl ?_
  exact ⟨rfl, hp9, rfl⟩
def wsM (M : aM) (P B : Nat) : Nat → Int32 × aM
  | 0 => (0, M)
  | k + 1 => ((wsM M P B k).1 + (wdM (wsM M P B k).2 P B).1, (wdM (wsM M P B k).2 P B).2)
theorem wd_keep {P B : Nat} : (wdM M P B).2.1 10 = M.1 10 ∧ (wdM M P B).2.1 13 = M.1 13 ∧ ∀ j, ¬ j = 18 → ¬ j = 19 → ¬ j = 38 → (wdM M P B).2.2.1 j = M.2.1 j := by
  obtain ⟨k1, k2⟩ := cmM_keep (M := dmM M (dwM M P B).1.2.2 (dwM M P B).2) (f := (dmM M (dwM M P B).1.2.2 (dwM M P B).2).2.1 38) B
  refine ⟨?_, ?_, fun j q1 q2 q3 => (k2 j q1 q2).trans (mA_ne (M := M) q3)⟩
  · exact congrFun k1 10
  · exact congrFun k1 13
theorem ws_keep {M : aM} {P B : Nat} : ∀ k, (wsM M P B k).2.1 10 = M.1 10 ∧ (wsM M P B k).2.1 13 = M.1 13 ∧ ∀ j, ¬ j = 18 → ¬ j = 19 → ¬ j = 38 → (wsM M P B k).2.2.1 j = M.2.1 j
  | 0 => ⟨rfl, rfl, fun _ _ _ _ => rfl⟩
  | k + 1 => by
    obtain ⟨h1, h2, h3⟩ := ws_keep (M := M) (P := P) (B := B) k
    obtain ⟨g1, g2, g3⟩ := wd_keep (M := (wsM M P B k).2) (P := P) (B := B)
    exact ⟨g1.trans h1, g2.trans h2, fun j q1 q2 q3 => (g3 j q1 q2 q3).trans (h3 j q1 q2 q3)⟩
def m2_weeks (M : aM) (P B : Nat) (v : Int32) : Int32 × aM := if wi0 v 1 30 = true then wsM M P B v.toNatClampNeg else (-2, mR M 2)
theorem c_M_weeks {P B : Nat} {v : Int32} (h : MW w o M n) (hP : M.1 10 = nI P) (hP7 : P ≤ 7) (hB : M.1 13 = nI B) (hB7 : B ≤ 7) (hk : PMk M B) : Mm G 5 y_M_weeks [.ref o, .int v] w o n (m2_weeks M P B v) := by
  obtain ⟨m0, mA', mL', m4, m20, m28, mn'⟩ := id h
  refine Mm.of k_M_weeks l_M_weeks rfl rfl ?_
  unfold m2_weeks
  have hloop : ∀ V, V ≤ 30 → ∀ m k, k + m = V → ∀ w1, MW w1 o (wsM M P B k).2 n → mFr w w1 o → Go G 5 y_M_weeks 23 [some (.ref o), some (.int (nI V)), some (.int (wsM M P B k).1), some (.int (nI k))] [] w1 n 0 0 (fun r w' n' => r = some (.int (wsM M P B V).1) ∧ (MW w' o (wsM M P B V).2 n ∧ mFr w w' o) ∧ n' = n) := by
    intro V hV m
    induction m with
    | zero =>
      intro k hk2 w1 h1 hF
      have hk2 : k = V := by omega
      subst hk2
      refine r_iload_n (i := 3) i_M_weeks_23 rfl rfl ?_
      refine r_iload_n (i := 1) i_M_weeks_24 rfl rfl ?_
      refine r_icmp_ge 41 i_M_weeks_25 (by decide) (fun h25 => ?_) (fun h25 => (absurd (nI_le (Nat.le_refl _) (by omega)) h25))
      refine r_iload_n (i := 2) i_M_weeks_41 rfl rfl ?_
      refine r_ireturn i_M_weeks_42 t_M_weeks rfl ?_
      exact ⟨rfl, ⟨h1, hF⟩, rfl⟩
    | succ m ih =>
      intro k hk2 w1 h1 hF
      have ih' := ih (k + 1) (by omega)
      have e7 : wsM M P B (k + 1) = ((wsM M P B k).1 + (wdM (wsM M P B k).2 P B).1, (wdM (wsM M P B k).2 P B).2) := rfl
      rw [e7] at ih'
      obtain ⟨k1, k2, k3⟩ := ws_keep (M := M) (P := P) (B := B) k
      generalize wsM M P B k = D at *
      have hw := c_M_weekByDraws (G := G) h1 (k1.trans hP) hP7 (k2.trans hB) hB7 (fun c hc => by rw [k3 (21 + c) (by omega) (by omega) (by omega)]; exact hk c hc)
      generalize wdM D.2 P B = R at *
      obtain ⟨m0, mA', mL', m4, m20, m28, mn'⟩ := id h1
      refine r_iload_n (i := 3) i_M_weeks_23 rfl rfl ?_
      refine r_iload_n (i := 1) i_M_weeks_24 rfl rfl ?_
      refine r_icmp_ge 41 i_M_weeks_25 (by decide) (fun h25 => (absurd h25 (nI_ge (by omega) (by omega)))) (fun h25 => ?_)
      refine r_iload_n (i := 2) i_M_weeks_28 rfl rfl ?_
      refine r_aload_n (i := 0) i_M_weeks_29 rfl rfl ?_
      refine m_virtual o_M_weeks k_M_weekByDraws v_M_weekByDraws x_M_339 i_M_weeks_30 o_M_weekByDraws (hw) rfl (rcv_ob (by repeat (first | assumption | exact upw_s | refine (upw_n (by omega)).trans ?_)) rfl (by first | assumption | omega)) rfl (by decide) (Nat.le_of_ble_eq_true rfl) (Nat.zero_le _) (Nat.zero_le _) (fun q1 w3 n1 hp9 => ?_)
      obtain ⟨rfl, ⟨hM3, hF3⟩, rfl⟩ := hp9
      refine r_iadd i_M_weeks_33 ?_
      refine r_istore_2 i_M_weeks_34 (by rw [l_M_weeks]; decide) rfl ?_
      refine r_iinc_3 (v := (1 : Int32)) i_M_weeks_35 rfl (by rw [l_M_weeks]; decide) rfl ?_
      refine r_goto 23 i_M_weeks_38 (by decide) ?_
      rw [nI_1]
      exact ih' _ hM3 (hF.tr hF3)
  refine r_iload_n (i := 1) i_M_weeks_0 rfl rfl ?_
  refine r_i2l i_M_weeks_1 ?_
  refine r_lconst (v := (1 : Int64)) i_M_weeks_2 rfl ?_
  refine r_ldc2 o_M_weeks i_M_weeks_3 x_M_342 ?_
  refine f_static o_M_weeks k_M_in s_M_in x_M_76 i_M_weeks_6 (c_M_in) rfl rfl (by decide) (Nat.le_of_ble_eq_true rfl) ?_
  rw [in_130]
  refine r_if_ne 19 i_M_weeks_9 (by decide) (fun h9 => ?_) (fun h9 => ?_)
  · skip
    have h9 := bI_ne0.mp h9
    try rw [h9]
    refine r_iconst (v := (0 : Int32)) i_M_weeks_19 rfl ?_
    refine r_istore_2 i_M_weeks_20 (by rw [l_M_weeks]; decide) rfl ?_
    refine r_iconst (v := (0 : Int32)) i_M_weeks_21 rfl ?_
    refine r_istore_3 i_M_weeks_22 (by rw [l_M_weeks]; decide) rfl ?_
    obtain ⟨V, hV, rfl⟩ : ∃ V, V ≤ 30 ∧ v = nI V := by
      unfold wi0 at h9
      have q := of_decide_eq_true h9
      rw [Int32.lt_iff_toInt_lt, Int32.lt_iff_toInt_lt, show (1 : Int32).toInt = 1 from rfl, show (30 : Int32).toInt = 30 from rfl] at q
      exact ⟨v.toInt.toNat, by omega, Int32.toInt_inj.mp (by rw [toInt_nI (by omega)]; omega)⟩
    rw [if_pos rfl, nI_clamp (by omega)]
    exact hloop V hV V 0 (by omega) w h mFr.rf
  · skip
    have h9 := bI_eq0.mp h9
    try rw [h9]
    refine r_aload_n (i := 0) i_M_weeks_12 rfl rfl ?_
    refine r_bipush (v := (-2 : Int32)) i_M_weeks_13 (by decide) ?_
    refine m_virtual o_M_weeks k_M_refuse v_M_refuse x_M_89 i_M_weeks_15 o_M_refuse (c_M_refuse (i := 2) h (by decide)) rfl (rcv_ob (by repeat (first | assumption | exact upw_s | refine (upw_n (by omega)).trans ?_)) rfl (by first | assumption | omega)) rfl (by decide) (Nat.le_of_ble_eq_true rfl) (Nat.zero_le _) (Nat.zero_le _) (fun rr15 wr15 nr15 hp9 => ?_)
    obtain ⟨rfl, hp9, rfl⟩ := hp9
    refine r_ireturn i_M_weeks_18 t_M_weeks rfl ?_
    first | exact ⟨rfl, hp9, rfl⟩ | exact ⟨rfl, ⟨h, fun _ _ => rfl⟩, rfl⟩
end MDRAW
