-- THE REFERENCE: its reader's tokens
def mP (M : aM) (a tk fr fg : Int32) : aM := (fun k => if k = 22 then a else if k = 23 then tk else if k = 24 then fr else if k = 25 then fg else M.1 k, M.2)
def fgE (f : Nat → Int32) (z st : Nat) : Nat → Nat → Int32 → Int32
  | 0, _, v => v
  | m + 1, p, v => if tokN f z p = 2 then fgE f z st m (p + 1) (if p - st < 3 then v * 10 + f p - 48 else 100000) else v
def figF (f : Nat → Int32) (z : Nat) (L : aL) : Int32 := if L.2.1 = 2 then fgE f z L.2.2 (z - L.2.2) L.2.2 0 else 0
def mLk (M : aM) (f : Nat → Int32) (z : Nat) (L : aL) : aM := mP M (nI L.1) (nI L.2.1) (nI L.2.2) (figF f z L)
theorem tok_1 {f : Nat → Int32} {z p : Nat} (hp : p < z) : (tokN f z p = 1) ↔ wi0 (f p) 97 122 = true := by
  unfold tokN
  rw [if_neg (by omega)]
  by_cases q : wi0 (f p) 97 122 = true
  · rw [if_pos q]
    exact ⟨fun _ => q, fun _ => rfl⟩
  · rw [if_neg q]
    refine ⟨fun h => ?_, fun h => absurd h q⟩
    repeat' split at h
    all_goals omega
theorem tok_2 {f : Nat → Int32} {z p : Nat} (hp : p < z) (h1 : ¬ tokN f z p = 1) : (tokN f z p = 2) ↔ wi0 (f p) 48 57 = true := by
  have h1 : ¬ wi0 (f p) 97 122 = true := fun q => h1 ((tok_1 hp).mpr q)
  unfold tokN
  rw [if_neg (by omega), if_neg h1]
  by_cases q : wi0 (f p) 48 57 = true
  · rw [if_pos q]
    exact ⟨fun _ => q, fun _ => rfl⟩
  · rw [if_neg q]
    refine ⟨fun h => ?_, fun h => absurd h q⟩
    repeat' split at h
    all_goals omega
theorem tok_2' {f : Nat → Int32} {z p : Nat} (hp : p < z) : (tokN f z p = 2) ↔ wi0 (f p) 48 57 = true := by
  by_cases h1 : tokN f z p = 1
  · refine ⟨fun h => absurd (h1.symm.trans h) (by omega), fun h => ?_⟩
    have h1 := (tok_1 hp).mp h1
    unfold wi0 at h h1
    have a := of_decide_eq_true h
    have b := of_decide_eq_true h1
    rw [Int32.lt_iff_toInt_lt, Int32.lt_iff_toInt_lt, show (48 : Int32).toInt = 48 from rfl, show (57 : Int32).toInt = 57 from rfl] at a
    rw [Int32.lt_iff_toInt_lt, Int32.lt_iff_toInt_lt, show (97 : Int32).toInt = 97 from rfl, show (122 : Int32).toInt = 122 from rfl] at b
    omega
  · exact tok_2 hp h1
theorem tok_0 {f : Nat → Int32} {z p : Nat} : tokN f z p = 0 ↔ z ≤ p := by
  unfold tokN
  by_cases q : z ≤ p
  · rw [if_pos q]
    exact ⟨fun _ => q, fun _ => rfl⟩
  · rw [if_neg q]
    refine ⟨fun h => ?_, fun h => absurd h q⟩
    repeat' split at h
    all_goals omega
theorem en_s {f : Nat → Int32} {z tk m p : Nat} : enF f z tk (m + 1) p = if tokN f z p = tk then enF f z tk m (p + 1) else p := rfl
section MLOOK
variable {G : gE} {w : aW} {o n : Nat} {M : aM} {f : Nat → Int32} {z : Nat}
theorem mP_mP {a b c d a2 b2 c2 d2 : Int32} : mP (mP M a b c d) a2 b2 c2 d2 = mP M a2 b2 c2 d2 := by
  refine Prod.ext (funext fun k => ?_) rfl
  show (if k = 22 then a2 else if k = 23 then b2 else if k = 24 then c2 else if k = 25 then d2 else if k = 22 then a else if k = 23 then b else if k = 24 then c else if k = 25 then d else M.1 k) = if k = 22 then a2 else if k = 23 then b2 else if k = 24 then c2 else if k = 25 then d2 else M.1 k
  by_cases e1 : k = 22
  · rw [if_pos e1, if_pos e1]
  · by_cases e2 : k = 23
    · simp only [if_neg e1, if_pos e2]
    · by_cases e3 : k = 24
      · simp only [if_neg e1, if_neg e2, if_pos e3]
      · by_cases e4 : k = 25
        · simp only [if_neg e1, if_neg e2, if_neg e3, if_pos e4]
        · simp only [if_neg e1, if_neg e2, if_neg e3, if_neg e4]
theorem mP_self : mP M (M.1 22) (M.1 23) (M.1 24) (M.1 25) = M := by
  refine Prod.ext (funext fun k => ?_) rfl
  show (if k = 22 then M.1 22 else if k = 23 then M.1 23 else if k = 24 then M.1 24 else if k = 25 then M.1 25 else M.1 k) = M.1 k
  by_cases e1 : k = 22
  · rw [if_pos e1, e1]
  · rw [if_neg e1]
    by_cases e2 : k = 23
    · rw [if_pos e2, e2]
    · rw [if_neg e2]
      by_cases e3 : k = 24
      · rw [if_pos e3, e3]
      · rw [if_neg e3]
        by_cases e4 : k = 25
        · rw [if_pos e4, e4]
        · rw [if_neg e4]
theorem c_M_look {p : Nat} (h : MW w o M n) (ep : M.1 22 = nI p) (hp : p ≤ z) (hz : z ≤ 250) (ez : M.1 8 = nI z) (ef : M.2.1 16 = f) : Mv G 1 y_M_look [.ref o] w o n (mLk M f z (lexF f z p)) := by
  refine Mv.of k_M_look l_M_look rfl rfl ?_
  have hn9 : o + 40 < n := h.2.2.2.2.2.2
  have elex : ∀ s, s = skF f z (z - p) p → lexF f z p = (if tokN f z s = 0 then s else if tokN f z s = 1 ∨ tokN f z s = 2 then enF f z (tokN f z s) (z - (s + 1)) (s + 1) else s + 1, tokN f z s, s) := fun s hs => by rw [hs]; rfl
  -- words
  have l90 : ∀ (fin : aM) (s : Nat) (fg : Int32), ∀ m q, q + m = z → ∀ w1, MW w1 o (mP M (nI q) 1 (nI s) fg) n → mFr w w1 o → fin = mP M (nI (enF f z 1 m q)) 1 (nI s) fg → Go G 1 y_M_look 90 [some (.ref o)] [] w1 n 0 0 (fun r w' n' => r = none ∧ (MW w' o fin n ∧ mFr w w' o) ∧ n' = n) := by
    intro fin s fg m
    induction m with
    | zero =>
      intro q hq w1 h1 hF hfin
      have hfin : fin = mP M (nI q) 1 (nI s) fg := hfin
      subst hfin
      have m0 := h1.1
      refine r_aload_n (i := 0) i_M_look_90 rfl rfl ?_
      refine r_getf (ci := 6) (T := Fk6) (k := 22) o_M_look i_M_look_91 x_M_135 rfl (by decide) rfl (by repeat (first | assumption | exact upw_s | refine (upw_n (by omega)).trans ?_)) (by first | assumption | omega) (by rfl) ?_
      refine r_aload_n (i := 0) i_M_look_94 rfl rfl ?_
      refine r_getf (ci := 6) (T := Fk6) (k := 8) o_M_look i_M_look_95 x_M_132 rfl (by decide) rfl (by repeat (first | assumption | exact upw_s | refine (upw_n (by omega)).trans ?_)) (by first | assumption | omega) (by rfl) ?_
      rw [show (mP M (nI q) 1 (nI s) fg).1 8 = nI z from ez]
      refine r_icmp_ge 263 i_M_look_98 (by decide) (fun h98 => ?_) (fun h98 => (absurd (nI_le (by show z ≤ q; omega) (by show q < 2 ^ 31; omega)) h98))
      refine r_return i_M_look_263 t_M_look ?_
      exact ⟨rfl, ⟨h1, hF⟩, rfl⟩
    | succ m ih =>
      intro q hq w1 h1 hF hfin
      have ih' := ih (q + 1) (by omega)
      have e9 : enF f z 1 (m + 1) q = if tokN f z q = 1 then enF f z 1 m (q + 1) else q := rfl
      rw [e9] at hfin
      have m0 := h1.1
      have a16 : w1 (o + 16) = ai 250 f := (h1.2.1 16 rfl).trans (congrArg (ai 250) ef)
      have iq : vp_in (nI q) 250 := vp_in_nI (by omega) (by decide)
      have ec : (nI q).toNatClampNeg = q := nI_clamp (by omega)
      have t1 := tok_1 (f := f) (z := z) (p := q) (by omega)
      have h2 : MW (upw w1 o (.inr (6, mob o (mP M (nI q + 1) 1 (nI s) fg)))) o (mP M (nI (q + 1)) 1 (nI s) fg) n := by
        rw [← nI_1]
        exact h1.obj (M' := mP M (nI q + 1) 1 (nI s) fg) rfl rfl
      refine r_aload_n (i := 0) i_M_look_90 rfl rfl ?_
      refine r_getf (ci := 6) (T := Fk6) (k := 22) o_M_look i_M_look_91 x_M_135 rfl (by decide) rfl (by repeat (first | assumption | exact upw_s | refine (upw_n (by omega)).trans ?_)) (by first | assumption | omega) (by rfl) ?_
      refine r_aload_n (i := 0) i_M_look_94 rfl rfl ?_
      refine r_getf (ci := 6) (T := Fk6) (k := 8) o_M_look i_M_look_95 x_M_132 rfl (by decide) rfl (by repeat (first | assumption | exact upw_s | refine (upw_n (by omega)).trans ?_)) (by first | assumption | omega) (by rfl) ?_
      rw [show (mP M (nI q) 1 (nI s) fg).1 8 = nI z from ez]
      refine r_icmp_ge 263 i_M_look_98 (by decide) (fun h98 => (absurd h98 (nI_ge (by show q < z; omega) (by omega)))) (fun h98 => ?_)
      refine r_aload_n (i := 0) i_M_look_101 rfl rfl ?_
      refine r_getf (ci := 6) (T := Fk6) (k := 7) o_M_look i_M_look_102 x_M_34 rfl (by decide) rfl (by repeat (first | assumption | exact upw_s | refine (upw_n (by omega)).trans ?_)) (by first | assumption | omega) (by rfl) ?_
      refine r_aload_n (i := 0) i_M_look_105 rfl rfl ?_
      refine r_getf (ci := 6) (T := Fk6) (k := 22) o_M_look i_M_look_106 x_M_135 rfl (by decide) rfl (by repeat (first | assumption | exact upw_s | refine (upw_n (by omega)).trans ?_)) (by first | assumption | omega) (by rfl) ?_
      refine r_iald i_M_look_109 (by repeat (first | assumption | exact upw_s | refine (upw_n (by omega)).trans ?_)) (by first | assumption | omega) iq ?_
      rw [show Int32.toNatClampNeg ((mP M (nI q) 1 (nI s) fg).1 22) = q from ec]
      refine f_static o_M_look k_M_isLetter s_M_isLetter x_M_147 i_M_look_110 (c_M_isLetter) rfl rfl (by decide) (Nat.le_of_ble_eq_true rfl) ?_
      refine r_if_eq 263 i_M_look_113 (by decide) (fun h113 => ?_) (fun h113 => ?_)
      · skip
        have h113 := bI_eq0.mp h113
        rw [if_neg (fun z => by rw [t1.mp z] at h113; exact absurd h113 (by decide))] at hfin
        subst hfin
        refine r_return i_M_look_263 t_M_look ?_
        exact ⟨rfl, ⟨h1, hF⟩, rfl⟩
      · skip
        have h113 := bI_ne0.mp h113
        rw [if_pos (t1.mpr h113)] at hfin
        refine r_aload_n (i := 0) i_M_look_116 rfl rfl ?_
        refine r_dup i_M_look_117 rfl ?_
        refine r_getf (ci := 6) (T := Fk6) (k := 22) o_M_look i_M_look_118 x_M_135 rfl (by decide) rfl (by repeat (first | assumption | exact upw_s | refine (upw_n (by omega)).trans ?_)) (by first | assumption | omega) (by rfl) ?_
        refine r_iconst (v := (1 : Int32)) i_M_look_121 rfl ?_
        refine r_iadd i_M_look_122 ?_
        refine r_putf (ci := 6) (T := Fk6) (k := 22) o_M_look i_M_look_123 x_M_135 rfl (by decide) rfl rfl (ok6 22 (by decide)) rfl (by repeat (first | assumption | exact upw_s | refine (upw_n (by omega)).trans ?_)) (by first | assumption | omega) (by exact Nat.le_of_ble_eq_true rfl) ?_
        refine r_goto 90 i_M_look_126 (by decide) ?_
        exact ih' _ h2 (hF.up (by omega) (by omega)) hfin
  have l149 : ∀ (fin : aM) (s : Nat), s ≤ z → ∀ m q (v : Int32), q + m = z → s ≤ q → ∀ w1, MW w1 o (mP M (nI q) 2 (nI s) v) n → mFr w w1 o → fin = mP M (nI (enF f z 2 m q)) 2 (nI s) (fgE f z s m q v) → Go G 1 y_M_look 149 [some (.ref o)] [] w1 n 0 0 (fun r w' n' => r = none ∧ (MW w' o fin n ∧ mFr w w' o) ∧ n' = n) := by
    intro fin s hs m
    induction m with
    | zero =>
      intro q v hq hsq w1 h1 hF hfin
      have hfin : fin = mP M (nI q) 2 (nI s) v := hfin
      subst hfin
      have m0 := h1.1
      refine r_aload_n (i := 0) i_M_look_149 rfl rfl ?_
      refine r_getf (ci := 6) (T := Fk6) (k := 22) o_M_look i_M_look_150 x_M_135 rfl (by decide) rfl (by repeat (first | assumption | exact upw_s | refine (upw_n (by omega)).trans ?_)) (by first | assumption | omega) (by rfl) ?_
      refine r_aload_n (i := 0) i_M_look_153 rfl rfl ?_
      refine r_getf (ci := 6) (T := Fk6) (k := 8) o_M_look i_M_look_154 x_M_132 rfl (by decide) rfl (by repeat (first | assumption | exact upw_s | refine (upw_n (by omega)).trans ?_)) (by first | assumption | omega) (by rfl) ?_
      rw [show (mP M (nI q) 2 (nI s) v).1 8 = nI z from ez]
      refine r_icmp_ge 263 i_M_look_157 (by decide) (fun h157 => ?_) (fun h157 => (absurd (nI_le (by show z ≤ q; omega) (by show q < 2 ^ 31; omega)) h157))
      refine r_return i_M_look_263 t_M_look ?_
      exact ⟨rfl, ⟨h1, hF⟩, rfl⟩
    | succ m ih =>
      intro q v hq hsq w1 h1 hF hfin
      have e9 : enF f z 2 (m + 1) q = if tokN f z q = 2 then enF f z 2 m (q + 1) else q := rfl
      have e8 : fgE f z s (m + 1) q v = if tokN f z q = 2 then fgE f z s m (q + 1) (if q - s < 3 then v * 10 + f q - 48 else 100000) else v := rfl
      rw [e9, e8] at hfin
      have m0 := h1.1
      have a16 : w1 (o + 16) = ai 250 f := (h1.2.1 16 rfl).trans (congrArg (ai 250) ef)
      have iq : vp_in (nI q) 250 := vp_in_nI (by omega) (by decide)
      have ec : (nI q).toNatClampNeg = q := nI_clamp (by omega)
      have t2 := tok_2' (f := f) (z := z) (p := q) (by omega)
      have ih' := fun v => ih (q + 1) v (by omega) (by omega)
      have h3 : ∀ x : Int32, MW (upw (upw w1 o (.inr (6, mob o (mP M (nI q) 2 (nI s) x)))) o (.inr (6, mob o (mP M (nI q + 1) 2 (nI s) x)))) o (mP M (nI (q + 1)) 2 (nI s) x) n := by
        intro x
        rw [← nI_1]
        exact (h1.obj (M' := mP M (nI q) 2 (nI s) x) rfl rfl).obj (M' := mP M (nI q + 1) 2 (nI s) x) rfl rfl
      have e3 : nI q - nI s = nI (q - s) := pk_sub hsq
      refine r_aload_n (i := 0) i_M_look_149 rfl rfl ?_
      refine r_getf (ci := 6) (T := Fk6) (k := 22) o_M_look i_M_look_150 x_M_135 rfl (by decide) rfl (by repeat (first | assumption | exact upw_s | refine (upw_n (by omega)).trans ?_)) (by first | assumption | omega) (by rfl) ?_
      refine r_aload_n (i := 0) i_M_look_153 rfl rfl ?_
      refine r_getf (ci := 6) (T := Fk6) (k := 8) o_M_look i_M_look_154 x_M_132 rfl (by decide) rfl (by repeat (first | assumption | exact upw_s | refine (upw_n (by omega)).trans ?_)) (by first | assumption | omega) (by rfl) ?_
      rw [show (mP M (nI q) 2 (nI s) v).1 8 = nI z from ez]
      refine r_icmp_ge 263 i_M_look_157 (by decide) (fun h157 => (absurd h157 (nI_ge (by show q < z; omega) (by omega)))) (fun h157 => ?_)
      refine r_aload_n (i := 0) i_M_look_160 rfl rfl ?_
      refine r_getf (ci := 6) (T := Fk6) (k := 7) o_M_look i_M_look_161 x_M_34 rfl (by decide) rfl (by repeat (first | assumption | exact upw_s | refine (upw_n (by omega)).trans ?_)) (by first | assumption | omega) (by rfl) ?_
      refine r_aload_n (i := 0) i_M_look_164 rfl rfl ?_
      refine r_getf (ci := 6) (T := Fk6) (k := 22) o_M_look i_M_look_165 x_M_135 rfl (by decide) rfl (by repeat (first | assumption | exact upw_s | refine (upw_n (by omega)).trans ?_)) (by first | assumption | omega) (by rfl) ?_
      refine r_iald i_M_look_168 (by repeat (first | assumption | exact upw_s | refine (upw_n (by omega)).trans ?_)) (by first | assumption | omega) iq ?_
      rw [show Int32.toNatClampNeg ((mP M (nI q) 2 (nI s) v).1 22) = q from ec]
      refine f_static o_M_look k_M_isDigit s_M_isDigit x_M_150 i_M_look_169 (c_M_isDigit) rfl rfl (by decide) (Nat.le_of_ble_eq_true rfl) ?_
      refine r_if_eq 263 i_M_look_172 (by decide) (fun h172 => ?_) (fun h172 => ?_)
      · skip
        have h172 := bI_eq0.mp h172
        rw [if_neg (fun z => by rw [t2.mp z] at h172; exact absurd h172 (by decide)), if_neg (fun z => by rw [t2.mp z] at h172; exact absurd h172 (by decide))] at hfin
        subst hfin
        refine r_return i_M_look_263 t_M_look ?_
        exact ⟨rfl, ⟨h1, hF⟩, rfl⟩
      · skip
        have h172 := bI_ne0.mp h172
        rw [if_pos (t2.mpr h172), if_pos (t2.mpr h172)] at hfin
        refine r_aload_n (i := 0) i_M_look_175 rfl rfl ?_
        refine r_aload_n (i := 0) i_M_look_176 rfl rfl ?_
        refine r_getf (ci := 6) (T := Fk6) (k := 22) o_M_look i_M_look_177 x_M_135 rfl (by decide) rfl (by repeat (first | assumption | exact upw_s | refine (upw_n (by omega)).trans ?_)) (by first | assumption | omega) (by rfl) ?_
        refine r_aload_n (i := 0) i_M_look_180 rfl rfl ?_
        refine r_getf (ci := 6) (T := Fk6) (k := 24) o_M_look i_M_look_181 x_M_138 rfl (by decide) rfl (by repeat (first | assumption | exact upw_s | refine (upw_n (by omega)).trans ?_)) (by first | assumption | omega) (by rfl) ?_
        refine r_isub i_M_look_184 ?_
        refine r_iconst (v := (3 : Int32)) i_M_look_185 rfl ?_
        rw [show (mP M (nI q) 2 (nI s) v).1 22 - (mP M (nI q) 2 (nI s) v).1 24 = nI (q - s) from e3]
        refine r_icmp_ge 212 i_M_look_186 (by decide) (fun h186 => ?_) (fun h186 => ?_)
        · skip
          rw [if_neg (fun y => absurd (nI_lt y (by decide)) (Int32.not_lt.mpr h186))] at hfin
          refine r_ldc o_M_look i_M_look_212 x_M_153 ?_
          refine r_putf (ci := 6) (T := Fk6) (k := 25) o_M_look i_M_look_214 x_M_141 rfl (by decide) rfl rfl (ok6 25 (by decide)) rfl (by repeat (first | assumption | exact upw_s | refine (upw_n (by omega)).trans ?_)) (by first | assumption | omega) (by exact Nat.le_of_ble_eq_true rfl) ?_
          refine r_aload_n (i := 0) i_M_look_217 rfl rfl ?_
          refine r_dup i_M_look_218 rfl ?_
          refine r_getf (ci := 6) (T := Fk6) (k := 22) o_M_look i_M_look_219 x_M_135 rfl (by decide) rfl (by repeat (first | assumption | exact upw_s | refine (upw_n (by omega)).trans ?_)) (by first | assumption | omega) (by rfl) ?_
          refine r_iconst (v := (1 : Int32)) i_M_look_222 rfl ?_
          refine r_iadd i_M_look_223 ?_
          refine r_putf (ci := 6) (T := Fk6) (k := 22) o_M_look i_M_look_224 x_M_135 rfl (by decide) rfl rfl (ok6 22 (by decide)) rfl (by repeat (first | assumption | exact upw_s | refine (upw_n (by omega)).trans ?_)) (by first | assumption | omega) (by exact Nat.le_of_ble_eq_true rfl) ?_
          refine r_goto 149 i_M_look_227 (by decide) ?_
          first | exact ih' _ _ (h3 100000) ((hF.up (by omega) (by omega)).up (by omega) (by omega)) hfin | exact ih' _ _ (h3 (v * 10 + f q - 48)) ((hF.up (by omega) (by omega)).up (by omega) (by omega)) hfin
        · skip
          rw [if_pos (Classical.byContradiction fun y => h186 (nI_le (a := 3) (by omega) (by omega)))] at hfin
          refine r_aload_n (i := 0) i_M_look_189 rfl rfl ?_
          refine r_getf (ci := 6) (T := Fk6) (k := 25) o_M_look i_M_look_190 x_M_141 rfl (by decide) rfl (by repeat (first | assumption | exact upw_s | refine (upw_n (by omega)).trans ?_)) (by first | assumption | omega) (by rfl) ?_
          refine r_bipush (v := (10 : Int32)) i_M_look_193 (by decide) ?_
          refine r_imul i_M_look_195 ?_
          refine r_aload_n (i := 0) i_M_look_196 rfl rfl ?_
          refine r_getf (ci := 6) (T := Fk6) (k := 7) o_M_look i_M_look_197 x_M_34 rfl (by decide) rfl (by repeat (first | assumption | exact upw_s | refine (upw_n (by omega)).trans ?_)) (by first | assumption | omega) (by rfl) ?_
          refine r_aload_n (i := 0) i_M_look_200 rfl rfl ?_
          refine r_getf (ci := 6) (T := Fk6) (k := 22) o_M_look i_M_look_201 x_M_135 rfl (by decide) rfl (by repeat (first | assumption | exact upw_s | refine (upw_n (by omega)).trans ?_)) (by first | assumption | omega) (by rfl) ?_
          refine r_iald i_M_look_204 (by repeat (first | assumption | exact upw_s | refine (upw_n (by omega)).trans ?_)) (by first | assumption | omega) iq ?_
          rw [show Int32.toNatClampNeg ((mP M (nI q) 2 (nI s) v).1 22) = q from ec]
          refine r_iadd i_M_look_205 ?_
          refine r_bipush (v := (48 : Int32)) i_M_look_206 (by decide) ?_
          refine r_isub i_M_look_208 ?_
          refine r_goto 214 i_M_look_209 (by decide) ?_
          refine r_putf (ci := 6) (T := Fk6) (k := 25) o_M_look i_M_look_214 x_M_141 rfl (by decide) rfl rfl (ok6 25 (by decide)) rfl (by repeat (first | assumption | exact upw_s | refine (upw_n (by omega)).trans ?_)) (by first | assumption | omega) (by exact Nat.le_of_ble_eq_true rfl) ?_
          refine r_aload_n (i := 0) i_M_look_217 rfl rfl ?_
          refine r_dup i_M_look_218 rfl ?_
          refine r_getf (ci := 6) (T := Fk6) (k := 22) o_M_look i_M_look_219 x_M_135 rfl (by decide) rfl (by repeat (first | assumption | exact upw_s | refine (upw_n (by omega)).trans ?_)) (by first | assumption | omega) (by rfl) ?_
          refine r_iconst (v := (1 : Int32)) i_M_look_222 rfl ?_
          refine r_iadd i_M_look_223 ?_
          refine r_putf (ci := 6) (T := Fk6) (k := 22) o_M_look i_M_look_224 x_M_135 rfl (by decide) rfl rfl (ok6 22 (by decide)) rfl (by repeat (first | assumption | exact upw_s | refine (upw_n (by omega)).trans ?_)) (by first | assumption | omega) (by exact Nat.le_of_ble_eq_true rfl) ?_
          refine r_goto 149 i_M_look_227 (by decide) ?_
          first | exact ih' _ _ (h3 100000) ((hF.up (by omega) (by omega)).up (by omega) (by omega)) hfin | exact ih' _ _ (h3 (v * 10 + f q - 48)) ((hF.up (by omega) (by omega)).up (by omega) (by omega)) hfin
  have l51 : ∀ s, s = skF f z (z - p) p → s ≤ z → ∀ w1 tk, MW w1 o (mP M (nI s) tk (nI s) 0) n → mFr w w1 o → Go G 1 y_M_look 51 [some (.ref o)] [] w1 n 0 0 (fun r w' n' => r = none ∧ (MW w' o (mLk M f z (lexF f z p)) n ∧ mFr w w' o) ∧ n' = n) := by
    intro s hs hsz w1 tk h1 hF
    rw [elex s hs]
    have m0 := h1.1
    have a16 : w1 (o + 16) = ai 250 f := (h1.2.1 16 rfl).trans (congrArg (ai 250) ef)
    have ec : (nI s).toNatClampNeg = s := nI_clamp (by omega)
    have ht := tok_0 (f := f) (z := z) (p := s)
    have h2 := fun x => h1.obj (M' := mP M (nI s) x (nI s) 0) rfl rfl
    have h3 : ∀ x : Int32, MW (upw (upw w1 o (.inr (6, mob o (mP M (nI s) x (nI s) 0)))) o (.inr (6, mob o (mP M (nI s + 1) x (nI s) 0)))) o (mP M (nI (s + 1)) x (nI s) 0) n := by
      intro x
      rw [← nI_1]
      exact (h1.obj (M' := mP M (nI s) x (nI s) 0) rfl rfl).obj (M' := mP M (nI s + 1) x (nI s) 0) rfl rfl
    unfold mLk
    refine r_aload_n (i := 0) i_M_look_51 rfl rfl ?_
    refine r_getf (ci := 6) (T := Fk6) (k := 22) o_M_look i_M_look_52 x_M_135 rfl (by decide) rfl (by repeat (first | assumption | exact upw_s | refine (upw_n (by omega)).trans ?_)) (by first | assumption | omega) (by rfl) ?_
    refine r_aload_n (i := 0) i_M_look_55 rfl rfl ?_
    refine r_getf (ci := 6) (T := Fk6) (k := 8) o_M_look i_M_look_56 x_M_132 rfl (by decide) rfl (by repeat (first | assumption | exact upw_s | refine (upw_n (by omega)).trans ?_)) (by first | assumption | omega) (by rfl) ?_
    rw [show (mP M (nI s) tk (nI s) 0).1 8 = nI z from ez]
    refine r_icmp_ne 70 i_M_look_59 (by decide) (fun h59 => ?_) (fun h59 => ?_)
    · skip
      have hsz2 : s < z := Nat.lt_of_le_of_ne hsz (fun q => h59 (by show nI s = nI z; rw [q]))
      have q0 : ¬ tokN f z s = 0 := fun q => by have := ht.mp q; omega
      have iq : vp_in (nI s) 250 := vp_in_nI (by omega) (by decide)
      have t1 := tok_1 (f := f) (z := z) (p := s) hsz2
      have t2 := tok_2' (f := f) (z := z) (p := s) hsz2
      rw [if_neg q0]
      refine r_aload_n (i := 0) i_M_look_70 rfl rfl ?_
      refine r_getf (ci := 6) (T := Fk6) (k := 7) o_M_look i_M_look_71 x_M_34 rfl (by decide) rfl (by repeat (first | assumption | exact upw_s | refine (upw_n (by omega)).trans ?_)) (by first | assumption | omega) (by rfl) ?_
      refine r_aload_n (i := 0) i_M_look_74 rfl rfl ?_
      refine r_getf (ci := 6) (T := Fk6) (k := 22) o_M_look i_M_look_75 x_M_135 rfl (by decide) rfl (by repeat (first | assumption | exact upw_s | refine (upw_n (by omega)).trans ?_)) (by first | assumption | omega) (by rfl) ?_
      refine r_iald i_M_look_78 (by repeat (first | assumption | exact upw_s | refine (upw_n (by omega)).trans ?_)) (by first | assumption | omega) iq ?_
      rw [show Int32.toNatClampNeg ((mP M (nI s) tk (nI s) 0).1 22) = s from ec]
      refine f_static o_M_look k_M_isLetter s_M_isLetter x_M_147 i_M_look_79 (c_M_isLetter) rfl rfl (by decide) (Nat.le_of_ble_eq_true rfl) ?_
      refine r_if_eq 129 i_M_look_82 (by decide) (fun h82 => ?_) (fun h82 => ?_)
      · skip
        have h82 := bI_eq0.mp h82
        have q1 : ¬ tokN f z s = 1 := fun y => by rw [t1.mp y] at h82; exact absurd h82 (by decide)
        refine r_aload_n (i := 0) i_M_look_129 rfl rfl ?_
        refine r_getf (ci := 6) (T := Fk6) (k := 7) o_M_look i_M_look_130 x_M_34 rfl (by decide) rfl (by repeat (first | assumption | exact upw_s | refine (upw_n (by omega)).trans ?_)) (by first | assumption | omega) (by rfl) ?_
        refine r_aload_n (i := 0) i_M_look_133 rfl rfl ?_
        refine r_getf (ci := 6) (T := Fk6) (k := 22) o_M_look i_M_look_134 x_M_135 rfl (by decide) rfl (by repeat (first | assumption | exact upw_s | refine (upw_n (by omega)).trans ?_)) (by first | assumption | omega) (by rfl) ?_
        refine r_iald i_M_look_137 (by repeat (first | assumption | exact upw_s | refine (upw_n (by omega)).trans ?_)) (by first | assumption | omega) iq ?_
        rw [show Int32.toNatClampNeg ((mP M (nI s) tk (nI s) 0).1 22) = s from ec]
        refine f_static o_M_look k_M_isDigit s_M_isDigit x_M_150 i_M_look_138 (c_M_isDigit) rfl rfl (by decide) (Nat.le_of_ble_eq_true rfl) ?_
        refine r_if_eq 230 i_M_look_141 (by decide) (fun h141 => ?_) (fun h141 => ?_)
        · skip
          have h141 := bI_eq0.mp h141
          have q2 : ¬ tokN f z s = 2 := fun y => by rw [t2.mp y] at h141; exact absurd h141 (by decide)
          rw [if_neg (fun y => y.elim q1 q2)]
          have q3 : tokN f z s = if f s = 59 then 3 else 4 := by
            unfold tokN at q1 q2 ⊢
            rw [if_neg (by omega)] at q1 q2 ⊢
            rw [if_neg (by rw [← t1]; exact fun y => by unfold tokN at y; rw [if_neg (by omega)] at y; exact q1 y), if_neg (by rw [h141]; decide)]
          have q4 : figF f z (s + 1, tokN f z s, s) = 0 := if_neg q2
          rw [q4]
          rw [q3]
          refine r_aload_n (i := 0) i_M_look_230 rfl rfl ?_
          refine r_aload_n (i := 0) i_M_look_231 rfl rfl ?_
          refine r_getf (ci := 6) (T := Fk6) (k := 7) o_M_look i_M_look_232 x_M_34 rfl (by decide) rfl (by repeat (first | assumption | exact upw_s | refine (upw_n (by omega)).trans ?_)) (by first | assumption | omega) (by rfl) ?_
          refine r_aload_n (i := 0) i_M_look_235 rfl rfl ?_
          refine r_getf (ci := 6) (T := Fk6) (k := 22) o_M_look i_M_look_236 x_M_135 rfl (by decide) rfl (by repeat (first | assumption | exact upw_s | refine (upw_n (by omega)).trans ?_)) (by first | assumption | omega) (by rfl) ?_
          refine r_iald i_M_look_239 (by repeat (first | assumption | exact upw_s | refine (upw_n (by omega)).trans ?_)) (by first | assumption | omega) iq ?_
          rw [show Int32.toNatClampNeg ((mP M (nI s) tk (nI s) 0).1 22) = s from ec]
          refine r_bipush (v := (59 : Int32)) i_M_look_240 (by decide) ?_
          refine r_icmp_ne 249 i_M_look_242 (by decide) (fun h242 => ?_) (fun h242 => ?_)
          · skip
            rw [if_neg h242]
            refine r_iconst (v := (4 : Int32)) i_M_look_249 rfl ?_
            refine r_putf (ci := 6) (T := Fk6) (k := 23) o_M_look i_M_look_250 x_M_144 rfl (by decide) rfl rfl (ok6 23 (by decide)) rfl (by repeat (first | assumption | exact upw_s | refine (upw_n (by omega)).trans ?_)) (by first | assumption | omega) (by exact Nat.le_of_ble_eq_true rfl) ?_
            refine r_aload_n (i := 0) i_M_look_253 rfl rfl ?_
            refine r_dup i_M_look_254 rfl ?_
            refine r_getf (ci := 6) (T := Fk6) (k := 22) o_M_look i_M_look_255 x_M_135 rfl (by decide) rfl (by repeat (first | assumption | exact upw_s | refine (upw_n (by omega)).trans ?_)) (by first | assumption | omega) (by rfl) ?_
            refine r_iconst (v := (1 : Int32)) i_M_look_258 rfl ?_
            refine r_iadd i_M_look_259 ?_
            refine r_putf (ci := 6) (T := Fk6) (k := 22) o_M_look i_M_look_260 x_M_135 rfl (by decide) rfl rfl (ok6 22 (by decide)) rfl (by repeat (first | assumption | exact upw_s | refine (upw_n (by omega)).trans ?_)) (by first | assumption | omega) (by exact Nat.le_of_ble_eq_true rfl) ?_
            refine r_return i_M_look_263 t_M_look ?_
            first | exact ⟨rfl, ⟨h2 0, hF.up (by omega) (by omega)⟩, rfl⟩ | exact ⟨rfl, ⟨h3 3, (hF.up (by omega) (by omega)).up (by omega) (by omega)⟩, rfl⟩ | exact ⟨rfl, ⟨h3 4, (hF.up (by omega) (by omega)).up (by omega) (by omega)⟩, rfl⟩
          · skip
            rw [if_pos h242]
            refine r_iconst (v := (3 : Int32)) i_M_look_245 rfl ?_
            refine r_goto 250 i_M_look_246 (by decide) ?_
            refine r_putf (ci := 6) (T := Fk6) (k := 23) o_M_look i_M_look_250 x_M_144 rfl (by decide) rfl rfl (ok6 23 (by decide)) rfl (by repeat (first | assumption | exact upw_s | refine (upw_n (by omega)).trans ?_)) (by first | assumption | omega) (by exact Nat.le_of_ble_eq_true rfl) ?_
            refine r_aload_n (i := 0) i_M_look_253 rfl rfl ?_
            refine r_dup i_M_look_254 rfl ?_
            refine r_getf (ci := 6) (T := Fk6) (k := 22) o_M_look i_M_look_255 x_M_135 rfl (by decide) rfl (by repeat (first | assumption | exact upw_s | refine (upw_n (by omega)).trans ?_)) (by first | assumption | omega) (by rfl) ?_
            refine r_iconst (v := (1 : Int32)) i_M_look_258 rfl ?_
            refine r_iadd i_M_look_259 ?_
            refine r_putf (ci := 6) (T := Fk6) (k := 22) o_M_look i_M_look_260 x_M_135 rfl (by decide) rfl rfl (ok6 22 (by decide)) rfl (by repeat (first | assumption | exact upw_s | refine (upw_n (by omega)).trans ?_)) (by first | assumption | omega) (by exact Nat.le_of_ble_eq_true rfl) ?_
            refine r_return i_M_look_263 t_M_look ?_
            first | exact ⟨rfl, ⟨h2 0, hF.up (by omega) (by omega)⟩, rfl⟩ | exact ⟨rfl, ⟨h3 3, (hF.up (by omega) (by omega)).up (by omega) (by omega)⟩, rfl⟩ | exact ⟨rfl, ⟨h3 4, (hF.up (by omega) (by omega)).up (by omega) (by omega)⟩, rfl⟩
        · skip
          have q2 : tokN f z s = 2 := t2.mpr (bI_ne0.mp h141)
          rw [q2, if_pos (Or.inr rfl)]
          refine (show Go G 1 y_M_look 144 [some (.ref o)] [] w1 n 0 0 (fun r w' n' => r = none ∧ (MW w' o (mP M (nI (enF f z 2 (z - (s + 1)) (s + 1))) 2 (nI s) (fgE f z s (z - s) s 0)) n ∧ mFr w w' o) ∧ n' = n) from ?_)
          refine r_aload_n (i := 0) i_M_look_144 rfl rfl ?_
          refine r_iconst (v := (2 : Int32)) i_M_look_145 rfl ?_
          refine r_putf (ci := 6) (T := Fk6) (k := 23) o_M_look i_M_look_146 x_M_144 rfl (by decide) rfl rfl (ok6 23 (by decide)) rfl (by repeat (first | assumption | exact upw_s | refine (upw_n (by omega)).trans ?_)) (by first | assumption | omega) (by exact Nat.le_of_ble_eq_true rfl) ?_
          refine l149 _ s hsz (z - s) s 0 (by omega) (by omega) _ (h2 2) (hF.up (by omega) (by omega)) ?_
          have e9 : enF f z 2 (z - s) s = enF f z 2 (z - (s + 1)) (s + 1) := by
            rw [show z - s = z - (s + 1) + 1 by omega, en_s, if_pos q2]
          rw [e9]
      · skip
        have q1 : tokN f z s = 1 := t1.mpr (bI_ne0.mp h82)
        rw [q1, if_pos (Or.inl rfl)]
        refine (show Go G 1 y_M_look 85 [some (.ref o)] [] w1 n 0 0 (fun r w' n' => r = none ∧ (MW w' o (mP M (nI (enF f z 1 (z - (s + 1)) (s + 1))) 1 (nI s) 0) n ∧ mFr w w' o) ∧ n' = n) from ?_)
        refine r_aload_n (i := 0) i_M_look_85 rfl rfl ?_
        refine r_iconst (v := (1 : Int32)) i_M_look_86 rfl ?_
        refine r_putf (ci := 6) (T := Fk6) (k := 23) o_M_look i_M_look_87 x_M_144 rfl (by decide) rfl rfl (ok6 23 (by decide)) rfl (by repeat (first | assumption | exact upw_s | refine (upw_n (by omega)).trans ?_)) (by first | assumption | omega) (by exact Nat.le_of_ble_eq_true rfl) ?_
        refine l90 _ s 0 (z - s) s (by omega) _ (h2 1) (hF.up (by omega) (by omega)) ?_
        rw [show z - s = z - (s + 1) + 1 by omega, en_s, if_pos q1]
    · skip
      have hsz2 : s = z := (nI_eq (by omega) (by omega)).mp h59
      have q0 : tokN f z s = 0 := ht.mpr (by omega)
      rw [q0]
      refine r_aload_n (i := 0) i_M_look_62 rfl rfl ?_
      refine r_iconst (v := (0 : Int32)) i_M_look_63 rfl ?_
      refine r_putf (ci := 6) (T := Fk6) (k := 23) o_M_look i_M_look_64 x_M_144 rfl (by decide) rfl rfl (ok6 23 (by decide)) rfl (by repeat (first | assumption | exact upw_s | refine (upw_n (by omega)).trans ?_)) (by first | assumption | omega) (by exact Nat.le_of_ble_eq_true rfl) ?_
      refine r_goto 263 i_M_look_67 (by decide) ?_
      refine r_return i_M_look_263 t_M_look ?_
      first | exact ⟨rfl, ⟨h2 0, hF.up (by omega) (by omega)⟩, rfl⟩ | exact ⟨rfl, ⟨h3 3, (hF.up (by omega) (by omega)).up (by omega) (by omega)⟩, rfl⟩ | exact ⟨rfl, ⟨h3 4, (hF.up (by omega) (by omega)).up (by omega) (by omega)⟩, rfl⟩
  have l0 : ∀ m q, q + m = z → skF f z (z - p) p = skF f z m q → ∀ w1 b c d, MW w1 o (mP M (nI q) b c d) n → mFr w w1 o → Go G 1 y_M_look 0 [some (.ref o)] [] w1 n 0 0 (fun r w' n' => r = none ∧ (MW w' o (mLk M f z (lexF f z p)) n ∧ mFr w w' o) ∧ n' = n) := by
    have l38 : ∀ q, skF f z (z - p) p = q → q ≤ z → ∀ w1 b c d, MW w1 o (mP M (nI q) b c d) n → mFr w w1 o → Go G 1 y_M_look 38 [some (.ref o)] [] w1 n 0 0 (fun r w' n' => r = none ∧ (MW w' o (mLk M f z (lexF f z p)) n ∧ mFr w w' o) ∧ n' = n) := by
      intro q hq hqz w1 b c d h1 hF
      have m0 := h1.1
      have h2 := (h1.obj (M' := mP M (nI q) b (nI q) d) rfl rfl).obj (M' := mP M (nI q) b (nI q) 0) rfl rfl
      refine r_aload_n (i := 0) i_M_look_38 rfl rfl ?_
      refine r_aload_n (i := 0) i_M_look_39 rfl rfl ?_
      refine r_getf (ci := 6) (T := Fk6) (k := 22) o_M_look i_M_look_40 x_M_135 rfl (by decide) rfl (by repeat (first | assumption | exact upw_s | refine (upw_n (by omega)).trans ?_)) (by first | assumption | omega) (by rfl) ?_
      refine r_putf (ci := 6) (T := Fk6) (k := 24) o_M_look i_M_look_43 x_M_138 rfl (by decide) rfl rfl (ok6 24 (by decide)) rfl (by repeat (first | assumption | exact upw_s | refine (upw_n (by omega)).trans ?_)) (by first | assumption | omega) (by exact Nat.le_of_ble_eq_true rfl) ?_
      refine r_aload_n (i := 0) i_M_look_46 rfl rfl ?_
      refine r_iconst (v := (0 : Int32)) i_M_look_47 rfl ?_
      refine r_putf (ci := 6) (T := Fk6) (k := 25) o_M_look i_M_look_48 x_M_141 rfl (by decide) rfl rfl (ok6 25 (by decide)) rfl (by repeat (first | assumption | exact upw_s | refine (upw_n (by omega)).trans ?_)) (by first | assumption | omega) (by exact Nat.le_of_ble_eq_true rfl) ?_
      exact l51 q hq.symm hqz _ b h2 ((hF.up (by omega) (by omega)).up (by omega) (by omega))
    intro m
    induction m with
    | zero =>
      intro q hq hsk w1 b c d h1 hF
      have m0 := h1.1
      have l38 := l38 q hsk (by omega) w1 b c d h1 hF
      refine r_aload_n (i := 0) i_M_look_0 rfl rfl ?_
      refine r_getf (ci := 6) (T := Fk6) (k := 22) o_M_look i_M_look_1 x_M_135 rfl (by decide) rfl (by repeat (first | assumption | exact upw_s | refine (upw_n (by omega)).trans ?_)) (by first | assumption | omega) (by rfl) ?_
      refine r_aload_n (i := 0) i_M_look_4 rfl rfl ?_
      refine r_getf (ci := 6) (T := Fk6) (k := 8) o_M_look i_M_look_5 x_M_132 rfl (by decide) rfl (by repeat (first | assumption | exact upw_s | refine (upw_n (by omega)).trans ?_)) (by first | assumption | omega) (by rfl) ?_
      rw [show (mP M (nI q) b c d).1 8 = nI z from ez]
      refine r_icmp_ge 38 i_M_look_8 (by decide) (fun h8 => ?_) (fun h8 => (absurd (nI_le (by show z ≤ q; omega) (by show q < 2 ^ 31; omega)) h8))
      exact l38
    | succ m ih =>
      intro q hq hsk w1 b c d h1 hF
      have e9 : skF f z (m + 1) q = if f q = 32 then skF f z m (q + 1) else q := rfl
      rw [e9] at hsk
      have m0 := h1.1
      have a16 : w1 (o + 16) = ai 250 f := (h1.2.1 16 rfl).trans (congrArg (ai 250) ef)
      have iq : vp_in (nI q) 250 := vp_in_nI (by omega) (by decide)
      have ec : (nI q).toNatClampNeg = q := nI_clamp (by omega)
      have h2 : MW (upw w1 o (.inr (6, mob o (mP M (nI q + 1) b c d)))) o (mP M (nI (q + 1)) b c d) n := by
        rw [← nI_1]
        exact h1.obj (M' := mP M (nI q + 1) b c d) rfl rfl
      have ih' := ih (q + 1) (by omega)
      have l38 := fun y => l38 q y (by omega) w1 b c d h1 hF
      refine r_aload_n (i := 0) i_M_look_0 rfl rfl ?_
      refine r_getf (ci := 6) (T := Fk6) (k := 22) o_M_look i_M_look_1 x_M_135 rfl (by decide) rfl (by repeat (first | assumption | exact upw_s | refine (upw_n (by omega)).trans ?_)) (by first | assumption | omega) (by rfl) ?_
      refine r_aload_n (i := 0) i_M_look_4 rfl rfl ?_
      refine r_getf (ci := 6) (T := Fk6) (k := 8) o_M_look i_M_look_5 x_M_132 rfl (by decide) rfl (by repeat (first | assumption | exact upw_s | refine (upw_n (by omega)).trans ?_)) (by first | assumption | omega) (by rfl) ?_
      rw [show (mP M (nI q) b c d).1 8 = nI z from ez]
      refine r_icmp_ge 38 i_M_look_8 (by decide) (fun h8 => (absurd h8 (nI_ge (by show q < z; omega) (by omega)))) (fun h8 => ?_)
      refine r_aload_n (i := 0) i_M_look_11 rfl rfl ?_
      refine r_getf (ci := 6) (T := Fk6) (k := 7) o_M_look i_M_look_12 x_M_34 rfl (by decide) rfl (by repeat (first | assumption | exact upw_s | refine (upw_n (by omega)).trans ?_)) (by first | assumption | omega) (by rfl) ?_
      refine r_aload_n (i := 0) i_M_look_15 rfl rfl ?_
      refine r_getf (ci := 6) (T := Fk6) (k := 22) o_M_look i_M_look_16 x_M_135 rfl (by decide) rfl (by repeat (first | assumption | exact upw_s | refine (upw_n (by omega)).trans ?_)) (by first | assumption | omega) (by rfl) ?_
      refine r_iald i_M_look_19 (by repeat (first | assumption | exact upw_s | refine (upw_n (by omega)).trans ?_)) (by first | assumption | omega) iq ?_
      rw [show Int32.toNatClampNeg ((mP M (nI q) b c d).1 22) = q from ec]
      refine r_bipush (v := (32 : Int32)) i_M_look_20 (by decide) ?_
      refine r_icmp_ne 38 i_M_look_22 (by decide) (fun h22 => ?_) (fun h22 => ?_)
      · skip
        rw [if_neg h22] at hsk
        exact l38 hsk
      · skip
        rw [if_pos h22] at hsk
        refine r_aload_n (i := 0) i_M_look_25 rfl rfl ?_
        refine r_dup i_M_look_26 rfl ?_
        refine r_getf (ci := 6) (T := Fk6) (k := 22) o_M_look i_M_look_27 x_M_135 rfl (by decide) rfl (by repeat (first | assumption | exact upw_s | refine (upw_n (by omega)).trans ?_)) (by first | assumption | omega) (by rfl) ?_
        refine r_iconst (v := (1 : Int32)) i_M_look_30 rfl ?_
        refine r_iadd i_M_look_31 ?_
        refine r_putf (ci := 6) (T := Fk6) (k := 22) o_M_look i_M_look_32 x_M_135 rfl (by decide) rfl rfl (ok6 22 (by decide)) rfl (by repeat (first | assumption | exact upw_s | refine (upw_n (by omega)).trans ?_)) (by first | assumption | omega) (by exact Nat.le_of_ble_eq_true rfl) ?_
        refine r_goto 0 i_M_look_35 (by decide) ?_
        exact ih' hsk _ b c d h2 (hF.up (by omega) (by omega))
  have h0 : MW w o (mP M (nI p) (M.1 23) (M.1 24) (M.1 25)) n := by rw [← ep, mP_self]; exact h
  exact l0 (z - p) p (by omega) rfl w _ _ _ h0 mFr.rf
end MLOOK
