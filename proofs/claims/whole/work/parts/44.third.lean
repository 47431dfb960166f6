-- SEARCH: one more third
def NOW : Int64 := -4611686018427387904
def mx (x z : Int64) : Int64 := if x < z then z else x
def clrB (i b : Nat) : Nat := if i.testBit b then i - 2 ^ b else i
def wayF (wy : Nat → Int64) (cost fl : Int32) (nm : Nat → Int64) (l : Nat) : Int64 := if fl = 0 then wy l - cost.toInt64 else mx (wy l - cost.toInt64) (nm l)
def accF (o : Nat) (way ky : Nat → Int64) : Nat → Int64
  | 0 => NOW
  | b + 1 => if o.testBit b then mx (accF o way ky b) (way b + ky b) else accF o way ky b
def opF (ap : Nat → Bool) (g i : Nat) : Nat := if ap i then i &&& g else 0
def nmT (ap : Nat → Bool) (g : Nat) (cost fl : Int32) (ky wy : Nat → Int64) : Nat → Nat → Int64
  | 0 => fun _ => NOW
  | i + 1 => vp_updL (nmT ap g cost fl ky wy i) i (accF (opF ap g i) (fun b => wayF wy cost fl (nmT ap g cost fl ky wy i) (clrB i b)) ky 7)
theorem clrB_le (i b : Nat) : clrB i b ≤ i := by
  unfold clrB
  split
  · exact Nat.sub_le _ _
  · exact Nat.le_refl _
theorem tabC : ∀ i, i < 128 → ∀ b, b < 7 → i.testBit b = true → nI i &&& ((1 : Int32) <<< (nI b &&& 31) ^^^ (-1)) = nI (clrB i b) ∧ clrB i b < i := by decide +kernel
theorem tabD : ∀ o, o < 128 → ∀ b, b < 7 → (nI o >>> (nI b &&& 31) = 0 ↔ o >>> b = 0) ∧ ((nI o >>> (nI b &&& 31)) &&& 1 = 1 ↔ o.testBit b = true) := by decide +kernel
theorem tabE : ∀ o, o < 128 → ∀ b, b < 7 → o >>> b = 0 → ∀ c, c < 7 → b ≤ c → o.testBit c = false := by decide +kernel
theorem accF_stop {o : Nat} {way ky : Nat → Int64} {b : Nat} (ho : o < 128) (hb : b < 7) (h : o >>> b = 0) : ∀ m, b + m ≤ 7 → accF o way ky (b + m) = accF o way ky b
  | 0, _ => rfl
  | m + 1, hm => by
    have ih := accF_stop (way := way) (ky := ky) ho hb h m (by omega)
    have e : accF o way ky (b + m + 1) = if o.testBit (b + m) then mx (accF o way ky (b + m)) (way (b + m) + ky (b + m)) else accF o way ky (b + m) := rfl
    rw [tabE o ho b hb h (b + m) (by omega) (by omega)] at e
    exact e.trans ih
theorem opF_lt {ap : Nat → Bool} {g i : Nat} (hi : i < 128) : opF ap g i < 128 := by
  unfold opF
  split
  · exact Nat.lt_of_le_of_lt Nat.and_le_left hi
  · decide
theorem opF_sub {ap : Nat → Bool} {g i b : Nat} (h : (opF ap g i).testBit b = true) : i.testBit b = true := by
  unfold opF at h
  split at h
  · rw [Nat.testBit_and, Bool.and_eq_true] at h; exact h.1
  · simp at h
theorem nx_and (a b : Nat) : nI a &&& nI b = nI (a &&& b) := by
  apply Int32.toBitVec_inj.1
  show BitVec.ofNat 32 a &&& BitVec.ofNat 32 b = BitVec.ofNat 32 (a &&& b)
  apply BitVec.eq_of_getLsbD_eq
  intro i hi
  simp [hi]
section THIRD
variable {G : gE} {w : aW} {n k t : Nat} {S : aS} {ap : Nat → Int32} {wy wn ky : Nat → Int64} {W : Nat → Int32} {apb : Nat → Bool} {g N : Nat} {cost fl : Int32}
theorem c_E_inner {i : Nat} (hi : i < 128) (hap : ap i = bI (apb i)) (hk : ∀ (wn' : Nat → Int64) (w1 : aW), EW w1 k (ap, wy, wn', ky, W) n → (∀ j, j < i → wn' j = nmT apb g cost fl ky wy i j) → wn' i = accF (opF apb g i) (fun b => wayF wy cost fl (nmT apb g cost fl ky wy i) (clrB i b)) ky 7 → eFr w w1 k → Go G 1 y_E_addThird 146 [some (.ref k), some (.int (nI g)), some (.int cost), some (.int fl), some (.int (nI N)), some (.int (nI i)), none, none, none, none, none] [] w1 n 0 0 (fun r w' n' => r = none ∧ (∃ wy' wn' : Nat → Int64, (∀ j, j < N → wy' j = mx (wy j) (nmT apb g cost fl ky wy N j)) ∧ EW w' k (ap, wy', wn', ky, W) n ∧ eFr w w' k) ∧ n' = n)) :
    ∀ m b : Nat, b + m = 7 → ∀ (wn' : Nat → Int64) (w1 : aW), EW w1 k (ap, wy, wn', ky, W) n → (∀ j, j < i → wn' j = nmT apb g cost fl ky wy i j) → wn' i = accF (opF apb g i) (fun b => wayF wy cost fl (nmT apb g cost fl ky wy i) (clrB i b)) ky b → eFr w w1 k → Go G 1 y_E_addThird 43 [some (.ref k), some (.int (nI g)), some (.int cost), some (.int fl), some (.int (nI N)), some (.int (nI i)), some (.int (nI (opF apb g i))), some (.int (nI b)), none, none, none] [] w1 n 0 0 (fun r w' n' => r = none ∧ (∃ wy' wn' : Nat → Int64, (∀ j, j < N → wy' j = mx (wy j) (nmT apb g cost fl ky wy N j)) ∧ EW w' k (ap, wy', wn', ky, W) n ∧ eFr w w' k) ∧ n' = n) := by
  intro m
  induction m with
  | zero =>
    intro b hb wn' w1 hZ1 hlo hacc hF1
    have hb : b = 7 := by omega
    subst hb
    have hZ0 := hZ1
    obtain ⟨g0, g1, g2, g3, g4, g5, hn⟩ : w1 k = _ ∧ w1 (k + 1) = az 128 ap ∧ w1 (k + 2) = al 128 wy ∧ w1 (k + 3) = al 128 wn' ∧ w1 (k + 4) = al 7 ky ∧ w1 (k + 5) = ai 7 W ∧ _ := hZ1
    refine r_iload (i := 7) i_E_addThird_43 rfl ?_
    refine r_aload_n (i := 0) i_E_addThird_45 rfl rfl ?_
    refine r_getf (ci := 5) (T := Fk5) (k := 3) o_E_addThird i_E_addThird_46 x_E_24 rfl (by decide) rfl (by repeat (first | assumption | exact upw_s | refine (upw_n (by omega)).trans ?_)) (by first | assumption | omega) (by rfl) ?_
    refine r_alen i_E_addThird_49 (by repeat (first | assumption | exact upw_s | refine (upw_n (by omega)).trans ?_)) (by decide) (by first | assumption | omega) ?_
    refine r_icmp_ge 146 i_E_addThird_50 (by decide) (fun h50 => ?_) (fun h50 => (absurd (Int32.le_refl _) h50))
    exact r_fg_6 (r_fg_7 (hk wn' w1 hZ0 hlo hacc hF1))
  | succ m ih =>
    intro b hb wn' w1 hZ1 hlo hacc hF1
    have hZ0 := hZ1
    obtain ⟨g0, g1, g2, g3, g4, g5, hn⟩ : w1 k = _ ∧ w1 (k + 1) = az 128 ap ∧ w1 (k + 2) = al 128 wy ∧ w1 (k + 3) = al 128 wn' ∧ w1 (k + 4) = al 7 ky ∧ w1 (k + 5) = ai 7 W ∧ _ := hZ1
    have ho : opF apb g i < 128 := opF_lt hi
    obtain ⟨d1, d2⟩ := tabD _ ho b (by omega)
    have c1 : (nI (clrB i b)).toNatClampNeg = clrB i b := nI_clamp (Nat.lt_of_le_of_lt (clrB_le i b) (by omega))
    have c2 : (nI i).toNatClampNeg = i := nI_clamp (by omega)
    have c3 : (nI b).toNatClampNeg = b := nI_clamp (by omega)
    have e9 : accF (opF apb g i) (fun b => wayF wy cost fl (nmT apb g cost fl ky wy i) (clrB i b)) ky (b + 1) = if (opF apb g i).testBit b then mx (accF (opF apb g i) (fun b => wayF wy cost fl (nmT apb g cost fl ky wy i) (clrB i b)) ky b) (wayF wy cost fl (nmT apb g cost fl ky wy i) (clrB i b) + ky b) else accF (opF apb g i) (fun b => wayF wy cost fl (nmT apb g cost fl ky wy i) (clrB i b)) ky b := rfl
    refine r_iload (i := 7) i_E_addThird_43 rfl ?_
    refine r_aload_n (i := 0) i_E_addThird_45 rfl rfl ?_
    refine r_getf (ci := 5) (T := Fk5) (k := 3) o_E_addThird i_E_addThird_46 x_E_24 rfl (by decide) rfl (by repeat (first | assumption | exact upw_s | refine (upw_n (by omega)).trans ?_)) (by first | assumption | omega) (by rfl) ?_
    refine r_alen i_E_addThird_49 (by repeat (first | assumption | exact upw_s | refine (upw_n (by omega)).trans ?_)) (by decide) (by first | assumption | omega) ?_
    refine r_icmp_ge 146 i_E_addThird_50 (by decide) (fun h50 => (absurd h50 (nI_ge (by omega) (by decide)))) (fun h50 => ?_)
    refine r_iload (i := 6) i_E_addThird_53 rfl ?_
    refine r_iload (i := 7) i_E_addThird_55 rfl ?_
    refine r_ishr i_E_addThird_57 ?_
    refine r_if_eq 146 i_E_addThird_58 (by decide) (fun h58 => ?_) (fun h58 => ?_)
    · skip
      have q58 := accF_stop (way := fun b => wayF wy cost fl (nmT apb g cost fl ky wy i) (clrB i b)) (ky := ky) ho (by omega) (d1.mp h58) (m + 1) (by omega)
      rw [hb] at q58
      exact r_fg_6 (r_fg_7 (hk wn' w1 hZ0 hlo (hacc.trans q58.symm) hF1))
    · skip
      refine r_iload (i := 6) i_E_addThird_61 rfl ?_
      refine r_iload (i := 7) i_E_addThird_63 rfl ?_
      refine r_ishr i_E_addThird_65 ?_
      refine r_iconst (v := (1 : Int32)) i_E_addThird_66 rfl ?_
      refine r_iand i_E_addThird_67 ?_
      refine r_iconst (v := (1 : Int32)) i_E_addThird_68 rfl ?_
      refine r_icmp_ne 140 i_E_addThird_69 (by decide) (fun h69 => ?_) (fun h69 => ?_)
      · skip
        have q69 : (opF apb g i).testBit b = false := by
          cases hh : (opF apb g i).testBit b
          · rfl
          · exact absurd (d2.mpr hh) h69
        rw [q69] at e9
        have e9 : accF (opF apb g i) (fun b => wayF wy cost fl (nmT apb g cost fl ky wy i) (clrB i b)) ky (b + 1) = accF (opF apb g i) (fun b => wayF wy cost fl (nmT apb g cost fl ky wy i) (clrB i b)) ky b := e9
        refine r_iinc_7 (v := (1 : Int32)) i_E_addThird_140 rfl (by rw [l_E_addThird]; decide) rfl ?_
        refine r_goto 43 i_E_addThird_143 (by decide) ?_
        rw [nI_1]
        first
          | exact ih (b + 1) (by omega) wn' w1 hZ0 hlo (by rw [e9]; exact hacc) hF1
          | skip
            rw [c2]
            refine r_fg_8 (r_fg_9 ?_)
            refine ih (b + 1) (by omega) (vp_updL wn' i (mx (wn' i) (wayF wy cost fl (nmT apb g cost fl ky wy i) (clrB i b) + ky b))) _ ⟨(by repeat (first | assumption | exact upw_s | refine (upw_n (by omega)).trans ?_)), (by repeat (first | assumption | exact upw_s | refine (upw_n (by omega)).trans ?_)), (by repeat (first | assumption | exact upw_s | refine (upw_n (by omega)).trans ?_)), upw_s, (by repeat (first | assumption | exact upw_s | refine (upw_n (by omega)).trans ?_)), (by repeat (first | assumption | exact upw_s | refine (upw_n (by omega)).trans ?_)), hn⟩ (fun j hj => (if_neg (by omega)).trans (hlo j hj)) ?_ (fun j hj => (upw_n (by omega)).trans (hF1 j hj))
            rw [e9, ← hacc]
            exact if_pos rfl
      · skip
        have q69 := d2.mp h69
        rw [q69, if_pos rfl] at e9
        obtain ⟨t1, t2⟩ := tabC i hi b (by omega) (opF_sub q69)
        have t3 := hlo _ t2
        refine r_iload (i := 5) i_E_addThird_72 rfl ?_
        refine r_iconst (v := (1 : Int32)) i_E_addThird_74 rfl ?_
        refine r_iload (i := 7) i_E_addThird_75 rfl ?_
        refine r_ishl i_E_addThird_77 ?_
        refine r_iconst (v := (-1 : Int32)) i_E_addThird_78 rfl ?_
        refine r_ixor i_E_addThird_79 ?_
        refine r_iand i_E_addThird_80 ?_
        rw [t1]
        refine r_istore_8 i_E_addThird_81 (by rw [l_E_addThird]; decide) rfl ?_
        refine r_aload_n (i := 0) i_E_addThird_83 rfl rfl ?_
        refine r_getf (ci := 5) (T := Fk5) (k := 1) o_E_addThird i_E_addThird_84 x_E_17 rfl (by decide) rfl (by repeat (first | assumption | exact upw_s | refine (upw_n (by omega)).trans ?_)) (by first | assumption | omega) (by rfl) ?_
        refine r_iload (i := 8) i_E_addThird_87 rfl ?_
        refine r_lald i_E_addThird_89 (by repeat (first | assumption | exact upw_s | refine (upw_n (by omega)).trans ?_)) (by first | assumption | omega) (vp_in_nI (by omega) (by decide)) ?_
        rw [c1]
        refine r_iload_n (i := 2) i_E_addThird_90 rfl rfl ?_
        refine r_i2l i_E_addThird_91 ?_
        refine r_lsub i_E_addThird_92 ?_
        refine r_lstore_9 i_E_addThird_93 (by rw [l_E_addThird]; decide) rfl ?_
        refine r_iload_n (i := 3) i_E_addThird_95 rfl rfl ?_
        refine r_if_eq 113 i_E_addThird_96 (by decide) (fun h96 => ?_) (fun h96 => ?_)
        · skip
          have q96 : wy (clrB i b) - cost.toInt64 = wayF wy cost fl (nmT apb g cost fl ky wy i) (clrB i b) := (if_pos h96).symm
          rw [q96]
          refine r_aload_n (i := 0) i_E_addThird_113 rfl rfl ?_
          refine r_getf (ci := 5) (T := Fk5) (k := 2) o_E_addThird i_E_addThird_114 x_E_21 rfl (by decide) rfl (by repeat (first | assumption | exact upw_s | refine (upw_n (by omega)).trans ?_)) (by first | assumption | omega) (by rfl) ?_
          refine r_iload (i := 5) i_E_addThird_117 rfl ?_
          refine r_aload_n (i := 0) i_E_addThird_119 rfl rfl ?_
          refine r_getf (ci := 5) (T := Fk5) (k := 2) o_E_addThird i_E_addThird_120 x_E_21 rfl (by decide) rfl (by repeat (first | assumption | exact upw_s | refine (upw_n (by omega)).trans ?_)) (by first | assumption | omega) (by rfl) ?_
          refine r_iload (i := 5) i_E_addThird_123 rfl ?_
          refine r_lald i_E_addThird_125 (by repeat (first | assumption | exact upw_s | refine (upw_n (by omega)).trans ?_)) (by first | assumption | omega) (vp_in_nI (by omega) (by decide)) ?_
          rw [c2]
          refine r_lload (i := 9) i_E_addThird_126 rfl ?_
          refine r_aload_n (i := 0) i_E_addThird_128 rfl rfl ?_
          refine r_getf (ci := 5) (T := Fk5) (k := 3) o_E_addThird i_E_addThird_129 x_E_24 rfl (by decide) rfl (by repeat (first | assumption | exact upw_s | refine (upw_n (by omega)).trans ?_)) (by first | assumption | omega) (by rfl) ?_
          refine r_iload (i := 7) i_E_addThird_132 rfl ?_
          refine r_lald i_E_addThird_134 (by repeat (first | assumption | exact upw_s | refine (upw_n (by omega)).trans ?_)) (by first | assumption | omega) (vp_in_nI (by omega) (by decide)) ?_
          rw [c3]
          refine r_ladd i_E_addThird_135 ?_
          refine f_static o_E_addThird k_JM_max s_JM_max x_E_125 i_E_addThird_136 (c_JM_max) rfl rfl (by decide) (Nat.le_of_ble_eq_true rfl) ?_
          refine r_last i_E_addThird_139 (by repeat (first | assumption | exact upw_s | refine (upw_n (by omega)).trans ?_)) (by first | assumption | omega) (vp_in_nI (by omega) (by decide)) ?_
          refine r_iinc_7 (v := (1 : Int32)) i_E_addThird_140 rfl (by rw [l_E_addThird]; decide) rfl ?_
          refine r_goto 43 i_E_addThird_143 (by decide) ?_
          rw [nI_1]
          first
            | exact ih (b + 1) (by omega) wn' w1 hZ0 hlo (by rw [e9]; exact hacc) hF1
            | skip
              rw [c2]
              refine r_fg_8 (r_fg_9 ?_)
              refine ih (b + 1) (by omega) (vp_updL wn' i (mx (wn' i) (wayF wy cost fl (nmT apb g cost fl ky wy i) (clrB i b) + ky b))) _ ⟨(by repeat (first | assumption | exact upw_s | refine (upw_n (by omega)).trans ?_)), (by repeat (first | assumption | exact upw_s | refine (upw_n (by omega)).trans ?_)), (by repeat (first | assumption | exact upw_s | refine (upw_n (by omega)).trans ?_)), upw_s, (by repeat (first | assumption | exact upw_s | refine (upw_n (by omega)).trans ?_)), (by repeat (first | assumption | exact upw_s | refine (upw_n (by omega)).trans ?_)), hn⟩ (fun j hj => (if_neg (by omega)).trans (hlo j hj)) ?_ (fun j hj => (upw_n (by omega)).trans (hF1 j hj))
              rw [e9, ← hacc]
              exact if_pos rfl
        · skip
          have q96 : (if wy (clrB i b) - cost.toInt64 < wn' (clrB i b) then wn' (clrB i b) else wy (clrB i b) - cost.toInt64) = wayF wy cost fl (nmT apb g cost fl ky wy i) (clrB i b) := by
            rw [t3]
            exact (if_neg h96).symm
          refine r_lload (i := 9) i_E_addThird_99 rfl ?_
          refine r_aload_n (i := 0) i_E_addThird_101 rfl rfl ?_
          refine r_getf (ci := 5) (T := Fk5) (k := 2) o_E_addThird i_E_addThird_102 x_E_21 rfl (by decide) rfl (by repeat (first | assumption | exact upw_s | refine (upw_n (by omega)).trans ?_)) (by first | assumption | omega) (by rfl) ?_
          refine r_iload (i := 8) i_E_addThird_105 rfl ?_
          refine r_lald i_E_addThird_107 (by repeat (first | assumption | exact upw_s | refine (upw_n (by omega)).trans ?_)) (by first | assumption | omega) (vp_in_nI (by omega) (by decide)) ?_
          rw [c1]
          refine f_static o_E_addThird k_JM_max s_JM_max x_E_125 i_E_addThird_108 (c_JM_max) rfl rfl (by decide) (Nat.le_of_ble_eq_true rfl) ?_
          refine r_lstore_9 i_E_addThird_111 (by rw [l_E_addThird]; decide) rfl ?_
          rw [q96]
          refine r_aload_n (i := 0) i_E_addThird_113 rfl rfl ?_
          refine r_getf (ci := 5) (T := Fk5) (k := 2) o_E_addThird i_E_addThird_114 x_E_21 rfl (by decide) rfl (by repeat (first | assumption | exact upw_s | refine (upw_n (by omega)).trans ?_)) (by first | assumption | omega) (by rfl) ?_
          refine r_iload (i := 5) i_E_addThird_117 rfl ?_
          refine r_aload_n (i := 0) i_E_addThird_119 rfl rfl ?_
          refine r_getf (ci := 5) (T := Fk5) (k := 2) o_E_addThird i_E_addThird_120 x_E_21 rfl (by decide) rfl (by repeat (first | assumption | exact upw_s | refine (upw_n (by omega)).trans ?_)) (by first | assumption | omega) (by rfl) ?_
          refine r_iload (i := 5) i_E_addThird_123 rfl ?_
          refine r_lald i_E_addThird_125 (by repeat (first | assumption | exact upw_s | refine (upw_n (by omega)).trans ?_)) (by first | assumption | omega) (vp_in_nI (by omega) (by decide)) ?_
          rw [c2]
          refine r_lload (i := 9) i_E_addThird_126 rfl ?_
          refine r_aload_n (i := 0) i_E_addThird_128 rfl rfl ?_
          refine r_getf (ci := 5) (T := Fk5) (k := 3) o_E_addThird i_E_addThird_129 x_E_24 rfl (by decide) rfl (by repeat (first | assumption | exact upw_s | refine (upw_n (by omega)).trans ?_)) (by first | assumption | omega) (by rfl) ?_
          refine r_iload (i := 7) i_E_addThird_132 rfl ?_
          refine r_lald i_E_addThird_134 (by repeat (first | assumption | exact upw_s | refine (upw_n (by omega)).trans ?_)) (by first | assumption | omega) (vp_in_nI (by omega) (by decide)) ?_
          rw [c3]
          refine r_ladd i_E_addThird_135 ?_
          refine f_static o_E_addThird k_JM_max s_JM_max x_E_125 i_E_addThird_136 (c_JM_max) rfl rfl (by decide) (Nat.le_of_ble_eq_true rfl) ?_
          refine r_last i_E_addThird_139 (by repeat (first | assumption | exact upw_s | refine (upw_n (by omega)).trans ?_)) (by first | assumption | omega) (vp_in_nI (by omega) (by decide)) ?_
          refine r_iinc_7 (v := (1 : Int32)) i_E_addThird_140 rfl (by rw [l_E_addThird]; decide) rfl ?_
          refine r_goto 43 i_E_addThird_143 (by decide) ?_
          rw [nI_1]
          first
            | exact ih (b + 1) (by omega) wn' w1 hZ0 hlo (by rw [e9]; exact hacc) hF1
            | skip
              rw [c2]
              refine r_fg_8 (r_fg_9 ?_)
              refine ih (b + 1) (by omega) (vp_updL wn' i (mx (wn' i) (wayF wy cost fl (nmT apb g cost fl ky wy i) (clrB i b) + ky b))) _ ⟨(by repeat (first | assumption | exact upw_s | refine (upw_n (by omega)).trans ?_)), (by repeat (first | assumption | exact upw_s | refine (upw_n (by omega)).trans ?_)), (by repeat (first | assumption | exact upw_s | refine (upw_n (by omega)).trans ?_)), upw_s, (by repeat (first | assumption | exact upw_s | refine (upw_n (by omega)).trans ?_)), (by repeat (first | assumption | exact upw_s | refine (upw_n (by omega)).trans ?_)), hn⟩ (fun j hj => (if_neg (by omega)).trans (hlo j hj)) ?_ (fun j hj => (upw_n (by omega)).trans (hF1 j hj))
              rw [e9, ← hacc]
              exact if_pos rfl
theorem c_E_addThird {g : Nat} (hZ : EW w k (ap, wy, wn, ky, W) n) (hN : N ≤ 128) (hap : ∀ j, j < N → ap j = bI (apb j)) : Mt G 1 y_E_addThird [.ref k, .int (nI g), .int cost, .int fl, .int (nI N)] w n 0 0 (fun r w' n' => r = none ∧ (∃ wy' wn' : Nat → Int64, (∀ j, j < N → wy' j = mx (wy j) (nmT apb g cost fl ky wy N j)) ∧ EW w' k (ap, wy', wn', ky, W) n ∧ eFr w w' k) ∧ n' = n) := by
  have hnm : ∀ m i, i + m = N → ∀ j, j < i → nmT apb g cost fl ky wy N j = nmT apb g cost fl ky wy i j := by
    intro m
    induction m with
    | zero => intro i hi j hj; rw [show N = i by omega]
    | succ m ih =>
      intro i hi j hj
      rw [ih (i + 1) (by omega) j (by omega)]
      exact if_neg (by omega)
  have hl2 : ∀ m i : Nat, i + m = N → ∀ (wy' wn' : Nat → Int64) (w1 : aW), EW w1 k (ap, wy', wn', ky, W) n → (∀ j, j < N → wn' j = nmT apb g cost fl ky wy N j) → (∀ j, j < i → wy' j = mx (wy j) (nmT apb g cost fl ky wy N j)) → (∀ j, i ≤ j → wy' j = wy j) → eFr w w1 k → Go G 1 y_E_addThird 155 [some (.ref k), some (.int (nI g)), some (.int cost), some (.int fl), some (.int (nI N)), some (.int (nI i)), none, none, none, none, none] [] w1 n 0 0 (fun r w' n' => r = none ∧ (∃ wy' wn' : Nat → Int64, (∀ j, j < N → wy' j = mx (wy j) (nmT apb g cost fl ky wy N j)) ∧ EW w' k (ap, wy', wn', ky, W) n ∧ eFr w w' k) ∧ n' = n) := by
    intro m
    induction m with
    | zero =>
      intro i hi wy' wn' w1 hZ1 h1 h2 h3 hF1
      have hi : i = N := by omega
      subst hi
      refine r_iload (i := 5) i_E_addThird_155 rfl ?_
      refine r_iload (i := 4) i_E_addThird_157 rfl ?_
      refine r_icmp_ge 192 i_E_addThird_159 (by decide) (fun h159 => ?_) (fun h159 => (absurd (Int32.le_refl _) h159))
      refine r_return i_E_addThird_192 t_E_addThird ?_
      exact ⟨rfl, ⟨wy', wn', h2, hZ1, hF1⟩, rfl⟩
    | succ m ih =>
      intro i hi wy' wn' w1 hZ1 h1 h2 h3 hF1
      obtain ⟨g0, g1, g2, g3, g4, g5, hn⟩ : w1 k = _ ∧ w1 (k + 1) = az 128 ap ∧ w1 (k + 2) = al 128 wy' ∧ w1 (k + 3) = al 128 wn' ∧ w1 (k + 4) = al 7 ky ∧ w1 (k + 5) = ai 7 W ∧ _ := hZ1
      have c2 : (nI i).toNatClampNeg = i := nI_clamp (by omega)
      refine r_iload (i := 5) i_E_addThird_155 rfl ?_
      refine r_iload (i := 4) i_E_addThird_157 rfl ?_
      refine r_icmp_ge 192 i_E_addThird_159 (by decide) (fun h159 => (absurd h159 (nI_ge (by omega) (by omega)))) (fun h159 => ?_)
      refine r_aload_n (i := 0) i_E_addThird_162 rfl rfl ?_
      refine r_getf (ci := 5) (T := Fk5) (k := 1) o_E_addThird i_E_addThird_163 x_E_17 rfl (by decide) rfl (by repeat (first | assumption | exact upw_s | refine (upw_n (by omega)).trans ?_)) (by first | assumption | omega) (by rfl) ?_
      refine r_iload (i := 5) i_E_addThird_166 rfl ?_
      refine r_aload_n (i := 0) i_E_addThird_168 rfl rfl ?_
      refine r_getf (ci := 5) (T := Fk5) (k := 1) o_E_addThird i_E_addThird_169 x_E_17 rfl (by decide) rfl (by repeat (first | assumption | exact upw_s | refine (upw_n (by omega)).trans ?_)) (by first | assumption | omega) (by rfl) ?_
      refine r_iload (i := 5) i_E_addThird_172 rfl ?_
      refine r_lald i_E_addThird_174 (by repeat (first | assumption | exact upw_s | refine (upw_n (by omega)).trans ?_)) (by first | assumption | omega) (vp_in_nI (by omega) (by decide)) ?_
      rw [c2]
      refine r_aload_n (i := 0) i_E_addThird_175 rfl rfl ?_
      refine r_getf (ci := 5) (T := Fk5) (k := 2) o_E_addThird i_E_addThird_176 x_E_21 rfl (by decide) rfl (by repeat (first | assumption | exact upw_s | refine (upw_n (by omega)).trans ?_)) (by first | assumption | omega) (by rfl) ?_
      refine r_iload (i := 5) i_E_addThird_179 rfl ?_
      refine r_lald i_E_addThird_181 (by repeat (first | assumption | exact upw_s | refine (upw_n (by omega)).trans ?_)) (by first | assumption | omega) (vp_in_nI (by omega) (by decide)) ?_
      rw [c2]
      refine f_static o_E_addThird k_JM_max s_JM_max x_E_125 i_E_addThird_182 (c_JM_max) rfl rfl (by decide) (Nat.le_of_ble_eq_true rfl) ?_
      refine r_last i_E_addThird_185 (by repeat (first | assumption | exact upw_s | refine (upw_n (by omega)).trans ?_)) (by first | assumption | omega) (vp_in_nI (by omega) (by decide)) ?_
      refine r_iinc_5 (v := (1 : Int32)) i_E_addThird_186 rfl (by rw [l_E_addThird]; decide) rfl ?_
      refine r_goto 155 i_E_addThird_189 (by decide) ?_
      rw [nI_1, c2]
      refine ih (i + 1) (by omega) (vp_updL wy' i (mx (wy' i) (wn' i))) wn' _ ⟨(by repeat (first | assumption | exact upw_s | refine (upw_n (by omega)).trans ?_)), (by repeat (first | assumption | exact upw_s | refine (upw_n (by omega)).trans ?_)), upw_s, (by repeat (first | assumption | exact upw_s | refine (upw_n (by omega)).trans ?_)), (by repeat (first | assumption | exact upw_s | refine (upw_n (by omega)).trans ?_)), (by repeat (first | assumption | exact upw_s | refine (upw_n (by omega)).trans ?_)), hn⟩ h1 (fun j hj => ?_) (fun j hj => (if_neg (by omega)).trans (h3 j (by omega))) (fun j hj => (upw_n (by omega)).trans (hF1 j hj))
      by_cases ej : j = i
      · subst ej
        rw [← h3 j (Nat.le_refl _), ← h1 j (by omega)]
        exact if_pos rfl
      · exact (if_neg ej).trans (h2 j (by omega))
  have hl1 : ∀ m i : Nat, i + m = N → ∀ (wn' : Nat → Int64) (w1 : aW), EW w1 k (ap, wy, wn', ky, W) n → (∀ j, j < i → wn' j = nmT apb g cost fl ky wy i j) → eFr w w1 k → Go G 1 y_E_addThird 3 [some (.ref k), some (.int (nI g)), some (.int cost), some (.int fl), some (.int (nI N)), some (.int (nI i)), none, none, none, none, none] [] w1 n 0 0 (fun r w' n' => r = none ∧ (∃ wy' wn' : Nat → Int64, (∀ j, j < N → wy' j = mx (wy j) (nmT apb g cost fl ky wy N j)) ∧ EW w' k (ap, wy', wn', ky, W) n ∧ eFr w w' k) ∧ n' = n) := by
    intro m
    induction m with
    | zero =>
      intro i hi wn' w1 hZ1 h1 hF1
      have hi : i = N := by omega
      subst hi
      refine r_iload (i := 5) i_E_addThird_3 rfl ?_
      refine r_iload (i := 4) i_E_addThird_5 rfl ?_
      refine r_icmp_ge 152 i_E_addThird_7 (by decide) (fun h7 => ?_) (fun h7 => (absurd (Int32.le_refl _) h7))
      refine r_iconst (v := (0 : Int32)) i_E_addThird_152 rfl ?_
      refine r_istore_5 i_E_addThird_153 (by rw [l_E_addThird]; decide) rfl ?_
      exact hl2 i 0 (by omega) wy wn' w1 hZ1 h1 (fun j hj => absurd hj (Nat.not_lt_zero _)) (fun _ _ => rfl) hF1
    | succ m ih =>
      intro i hi wn' w1 hZ1 h1 hF1
      have hap0 := hap i (by omega)
      obtain ⟨g0, g1, g2, g3, g4, g5, hn⟩ : w1 k = _ ∧ w1 (k + 1) = az 128 ap ∧ w1 (k + 2) = al 128 wy ∧ w1 (k + 3) = al 128 wn' ∧ w1 (k + 4) = al 7 ky ∧ w1 (k + 5) = ai 7 W ∧ _ := hZ1
      have c2 : (nI i).toNatClampNeg = i := nI_clamp (by omega)
      have hin := c_E_inner (G := G) (w := w) (n := n) (k := k) (ap := ap) (wy := wy) (ky := ky) (W := W) (apb := apb) (g := g) (N := N) (cost := cost) (fl := fl) (i := i) (by omega) hap0 (fun wn2 w2 hZ2 q1 q2 hF2 => by
        refine r_iinc_5 (v := (1 : Int32)) i_E_addThird_146 rfl (by rw [l_E_addThird]; decide) rfl ?_
        refine r_goto 3 i_E_addThird_149 (by decide) ?_
        rw [nI_1]
        refine ih (i + 1) (by omega) wn2 w2 hZ2 (fun j hj => ?_) hF2
        by_cases ej : j = i
        · subst ej
          rw [q2]
          exact (if_pos rfl).symm
        · rw [q1 j (by omega)]
          exact (if_neg ej).symm) 7 0 (by omega) (vp_updL wn' i NOW) (upw w1 (k + 3) (al 128 (vp_updL wn' i NOW))) ⟨(by repeat (first | assumption | exact upw_s | refine (upw_n (by omega)).trans ?_)), (by repeat (first | assumption | exact upw_s | refine (upw_n (by omega)).trans ?_)), (by repeat (first | assumption | exact upw_s | refine (upw_n (by omega)).trans ?_)), upw_s, (by repeat (first | assumption | exact upw_s | refine (upw_n (by omega)).trans ?_)), (by repeat (first | assumption | exact upw_s | refine (upw_n (by omega)).trans ?_)), hn⟩ (fun j hj => (if_neg (by omega)).trans (h1 j hj)) (if_pos rfl) (fun j hj => (upw_n (by omega)).trans (hF1 j hj))
      refine r_iload (i := 5) i_E_addThird_3 rfl ?_
      refine r_iload (i := 4) i_E_addThird_5 rfl ?_
      refine r_icmp_ge 152 i_E_addThird_7 (by decide) (fun h7 => (absurd h7 (nI_ge (by omega) (by omega)))) (fun h7 => ?_)
      refine r_aload_n (i := 0) i_E_addThird_10 rfl rfl ?_
      refine r_getf (ci := 5) (T := Fk5) (k := 2) o_E_addThird i_E_addThird_11 x_E_21 rfl (by decide) rfl (by repeat (first | assumption | exact upw_s | refine (upw_n (by omega)).trans ?_)) (by first | assumption | omega) (by rfl) ?_
      refine r_iload (i := 5) i_E_addThird_14 rfl ?_
      refine r_ldc2 o_E_addThird i_E_addThird_16 x_E_106 ?_
      refine r_last i_E_addThird_19 (by repeat (first | assumption | exact upw_s | refine (upw_n (by omega)).trans ?_)) (by first | assumption | omega) (vp_in_nI (by omega) (by decide)) ?_
      refine r_aload_n (i := 0) i_E_addThird_20 rfl rfl ?_
      refine r_getf (ci := 5) (T := Fk5) (k := 0) o_E_addThird i_E_addThird_21 x_E_13 rfl (by decide) rfl (by repeat (first | assumption | exact upw_s | refine (upw_n (by omega)).trans ?_)) (by first | assumption | omega) (by rfl) ?_
      refine r_iload (i := 5) i_E_addThird_24 rfl ?_
      refine r_zald i_E_addThird_26 (by repeat (first | assumption | exact upw_s | refine (upw_n (by omega)).trans ?_)) (by first | assumption | omega) (vp_in_nI (by omega) (by decide)) ?_
      rw [c2, hap0]
      refine r_if_eq 37 i_E_addThird_27 (by decide) (fun h27 => ?_) (fun h27 => ?_)
      · skip
        have q27 : opF apb g i = 0 := by unfold opF; rw [bI_eq0.mp h27]; rfl
        refine r_iconst (v := (0 : Int32)) i_E_addThird_37 rfl ?_
        first | rw [show (0 : Int32) = nI (opF apb g i) by rw [q27]; rfl] | skip
        refine r_istore_6 i_E_addThird_38 (by rw [l_E_addThird]; decide) rfl ?_
        refine r_iconst (v := (0 : Int32)) i_E_addThird_40 rfl ?_
        refine r_istore_7 i_E_addThird_41 (by rw [l_E_addThird]; decide) rfl ?_
        exact hin
      · skip
        have q27 : opF apb g i = i &&& g := by unfold opF; rw [bI_ne0.mp h27]; rfl
        refine r_iload (i := 5) i_E_addThird_30 rfl ?_
        refine r_iload_n (i := 1) i_E_addThird_32 rfl rfl ?_
        refine r_iand i_E_addThird_33 ?_
        rw [nx_and, ← q27]
        refine r_goto 38 i_E_addThird_34 (by decide) ?_
        first | rw [show (0 : Int32) = nI (opF apb g i) by rw [q27]; rfl] | skip
        refine r_istore_6 i_E_addThird_38 (by rw [l_E_addThird]; decide) rfl ?_
        refine r_iconst (v := (0 : Int32)) i_E_addThird_40 rfl ?_
        refine r_istore_7 i_E_addThird_41 (by rw [l_E_addThird]; decide) rfl ?_
        exact hin
  refine Mt.of k_E_addThird l_E_addThird (Nat.le_of_ble_eq_true rfl) rfl ?_
  refine r_iconst (v := (0 : Int32)) i_E_addThird_0 rfl ?_
  refine r_istore_5 i_E_addThird_1 (by rw [l_E_addThird]; decide) rfl ?_
  exact hl1 N 0 (by omega) wn w hZ (fun j hj => absurd hj (Nat.not_lt_zero _)) (fun _ _ => rfl)
end THIRD
