-- THE REFERENCE: the search
abbrev aT : Type := Int32 × (Nat → Int32) × (Nat → Int32)
def xT (M : aM) : aT := (M.1 32, M.2.1 39, M.2.1 40)
def mX (M : aM) (X : aT) : aM := mA (mA (mS M 32 X.1) 39 X.2.1) 40 X.2.2
def cpF (f g : Nat → Int32) (i : Nat) : Nat → Int32 := fun j => if j < i then f j else g j
def skE (B : Nat) (v : Int32) (X : aT) : aT := if X.1 < v then (v, X.2.1, cpF X.2.1 X.2.2 B) else X
def okT (M : aM) (P : Nat) (only : Int32) (b : Nat) (set : Int32) (t : Nat) : Bool := if M.2.1 36 1 = 0 then decide (nI t = mildO M b only P) else hsB only (nI t) && mayM M b t set
def fdX (g : Nat → aT → aT) : Nat → Nat → aT → aT
  | 0, _, X => X
  | k + 1, t, X => fdX g k (t + 1) (g t X)
def sekF (M : aM) (P B : Nat) (only : Int32) : Nat → Int32 → Int32 → Int32 → aT → aT
  | 0, _, _, v, X => skE B v X
  | m + 1, made, set, v, X => if M.2.1 (21 + (B - (m + 1))) 4 &&& made = 0 then ((fdX (fun t Y => if okT M P only (B - (m + 1)) set t = true then sekF M P B only m (made ||| (1 : Int32) <<< (nI (B - (m + 1)) &&& 31)) (set ||| (1 : Int32) <<< (nI t &&& 31)) (v + valN (tM M) (B - (m + 1)) t) (Y.1, upd Y.2.1 (B - (m + 1)) (nI t), Y.2.2) else Y) P 0 (sekF M P B only m made set v (X.1, upd X.2.1 (B - (m + 1)) (-1), X.2.2))).1, upd (fdX (fun t Y => if okT M P only (B - (m + 1)) set t = true then sekF M P B only m (made ||| (1 : Int32) <<< (nI (B - (m + 1)) &&& 31)) (set ||| (1 : Int32) <<< (nI t &&& 31)) (v + valN (tM M) (B - (m + 1)) t) (Y.1, upd Y.2.1 (B - (m + 1)) (nI t), Y.2.2) else Y) P 0 (sekF M P B only m made set v (X.1, upd X.2.1 (B - (m + 1)) (-1), X.2.2))).2.1 (B - (m + 1)) (-1), (fdX (fun t Y => if okT M P only (B - (m + 1)) set t = true then sekF M P B only m (made ||| (1 : Int32) <<< (nI (B - (m + 1)) &&& 31)) (set ||| (1 : Int32) <<< (nI t &&& 31)) (v + valN (tM M) (B - (m + 1)) t) (Y.1, upd Y.2.1 (B - (m + 1)) (nI t), Y.2.2) else Y) P 0 (sekF M P B only m made set v (X.1, upd X.2.1 (B - (m + 1)) (-1), X.2.2))).2.2) else sekF M P B only m made set v (X.1, upd X.2.1 (B - (m + 1)) (-1), X.2.2)
section MSEEK
variable {G : gE} {w : aW} {o n : Nat} {M : aM}
theorem mX_E {X : aT} : mE (mX M X) M := ⟨fun k hk => if_neg (by omega), fun j hj => (if_neg (by omega)).trans (if_neg (by omega))⟩
theorem mX_lt {X : aT} {i : Nat} (h : i < 39) : (mX M X).2.1 i = M.2.1 i := (mA_ne (by omega)).trans (mA_ne (by omega))
theorem mX_tr {X : aT} : (mX M X).2.1 39 = X.2.1 := rfl
theorem mX_bw {X : aT} : (mX M X).2.1 40 = X.2.2 := rfl
theorem mX_bv {X : aT} : (mX M X).1 32 = X.1 := rfl
theorem MW.xtr {X : aT} {f : Nat → Int32} (h : MW w o (mX M X) n) : MW (upw w (o + 39) (ai 7 f)) o (mX M (X.1, f, X.2.2)) n := by
  have h9 := h.arr (j := 39) (f := f) rfl
  have e : mA (mX M X) 39 f = mX M (X.1, f, X.2.2) := by
    refine Prod.ext rfl (Prod.ext (funext fun j => ?_) rfl)
    show (if j = 39 then f else if j = 40 then X.2.2 else if j = 39 then X.2.1 else M.2.1 j) = if j = 40 then X.2.2 else if j = 39 then f else M.2.1 j
    by_cases e1 : j = 39
    · rw [if_pos e1, if_neg (by omega), if_pos e1]
    · rw [if_neg e1, if_neg e1, if_neg e1]
  rw [e] at h9
  exact h9
theorem MW.xbw {X : aT} {f : Nat → Int32} (h : MW w o (mX M X) n) : MW (upw w (o + 40) (ai 7 f)) o (mX M (X.1, X.2.1, f)) n := by
  have h9 := h.arr (j := 40) (f := f) rfl
  have e : mA (mX M X) 40 f = mX M (X.1, X.2.1, f) := mA_A
  rw [e] at h9
  exact h9
theorem MW.xbv {X : aT} {v : Int32} (h : MW w o (mX M X) n) : MW (upw w o (.inr (6, mob o (mX M (v, X.2.1, X.2.2))))) o (mX M (v, X.2.1, X.2.2)) n := h.obj rfl rfl
theorem seek_0 {P B d : Nat} {only made set v : Int32} {X : aT} (hB : M.1 13 = nI B) (hB7 : B ≤ 7) (h : MW w o (mX M X) n) : Mv G d y_M_seek [.ref o, .int (nI B), .int made, .int set, .int v, .int only] w o n (mX M (skE B v X)) := by
  refine Mv.of k_M_seek l_M_seek rfl rfl ?_
  have hB1 : ∀ Y, (mX M Y).1 13 = nI B := fun _ => hB
  have hloop : ∀ m i, i + m = B → ∀ w1, MW w1 o (mX M (v, X.2.1, cpF X.2.1 X.2.2 i)) n → mFr w w1 o → Go G d y_M_seek 26 [some (.ref o), some (.int (nI B)), some (.int made), some (.int set), some (.int v), some (.int only), some (.int (nI i)), none, none] [] w1 n 0 0 (fun r w' n' => r = none ∧ (MW w' o (mX M (v, X.2.1, cpF X.2.1 X.2.2 B)) n ∧ mFr w w' o) ∧ n' = n) := by
    intro m
    induction m with
    | zero =>
      intro i hi w1 h1 hF
      have hi : i = B := by omega
      subst hi
      have hB1 := hB1 (v, X.2.1, cpF X.2.1 X.2.2 i)
      obtain ⟨m0, mA', mL', m4, m20, m28, mn'⟩ := id h1
      refine r_iload (i := 6) i_M_seek_26 rfl ?_
      refine r_aload_n (i := 0) i_M_seek_28 rfl rfl ?_
      refine r_getf (ci := 6) (T := Fk6) (k := 13) o_M_seek i_M_seek_29 x_M_80 rfl (by decide) rfl (by repeat (first | assumption | exact upw_s | refine (upw_n (by omega)).trans ?_)) (by first | assumption | omega) (by rfl) ?_
      rw [hB1]
      refine r_icmp_ge 55 i_M_seek_32 (by decide) (fun h32 => ?_) (fun h32 => (absurd (nI_le (Nat.le_refl _) (by omega)) h32))
      refine r_return i_M_seek_55 t_M_seek ?_
      exact ⟨rfl, ⟨h1, hF⟩, rfl⟩
    | succ m ih =>
      intro i hi w1 h1 hF
      have ih' := ih (i + 1) (by omega)
      have hB1 := hB1 (v, X.2.1, cpF X.2.1 X.2.2 i)
      have h2 := h1.xbw (f := cpF X.2.1 X.2.2 (i + 1))
      have e9 : upd (cpF X.2.1 X.2.2 i) i (X.2.1 i) = cpF X.2.1 X.2.2 (i + 1) := by
        funext j
        unfold upd cpF
        by_cases e1 : j = i
        · rw [if_pos e1, if_pos (by omega), e1]
        · rw [if_neg e1]
          by_cases e2 : j < i
          · rw [if_pos e2, if_pos (by omega)]
          · rw [if_neg e2, if_neg (by omega)]
      obtain ⟨m0, mA', mL', m4, m20, m28, mn'⟩ := id h1
      have a39 : w1 (o + 39) = ai 7 X.2.1 := mA' 39 rfl
      have a40 : w1 (o + 40) = ai 7 (cpF X.2.1 X.2.2 i) := mA' 40 rfl
      have ii : vp_in (nI i) 7 := vp_in_nI (by omega) (by decide)
      have ec : (nI i).toNatClampNeg = i := nI_clamp (by omega)
      refine r_iload (i := 6) i_M_seek_26 rfl ?_
      refine r_aload_n (i := 0) i_M_seek_28 rfl rfl ?_
      refine r_getf (ci := 6) (T := Fk6) (k := 13) o_M_seek i_M_seek_29 x_M_80 rfl (by decide) rfl (by repeat (first | assumption | exact upw_s | refine (upw_n (by omega)).trans ?_)) (by first | assumption | omega) (by rfl) ?_
      rw [hB1]
      refine r_icmp_ge 55 i_M_seek_32 (by decide) (fun h32 => (absurd h32 (nI_ge (by omega) (by omega)))) (fun h32 => ?_)
      refine r_aload_n (i := 0) i_M_seek_35 rfl rfl ?_
      refine r_getf (ci := 6) (T := Fk6) (k := 31) o_M_seek i_M_seek_36 x_M_70 rfl (by decide) rfl (by repeat (first | assumption | exact upw_s | refine (upw_n (by omega)).trans ?_)) (by first | assumption | omega) (by rfl) ?_
      refine r_iload (i := 6) i_M_seek_39 rfl ?_
      refine r_aload_n (i := 0) i_M_seek_41 rfl rfl ?_
      refine r_getf (ci := 6) (T := Fk6) (k := 30) o_M_seek i_M_seek_42 x_M_67 rfl (by decide) rfl (by repeat (first | assumption | exact upw_s | refine (upw_n (by omega)).trans ?_)) (by first | assumption | omega) (by rfl) ?_
      refine r_iload (i := 6) i_M_seek_45 rfl ?_
      refine r_iald i_M_seek_47 (by repeat (first | assumption | exact upw_s | refine (upw_n (by omega)).trans ?_)) (by first | assumption | omega) (by assumption) ?_
      rw [ec]
      refine r_iast i_M_seek_48 (by repeat (first | assumption | exact upw_s | refine (upw_n (by omega)).trans ?_)) (by first | assumption | omega) (by assumption) ?_
      rw [ec, e9]
      refine r_iinc_6 (v := (1 : Int32)) i_M_seek_49 rfl (by rw [l_M_seek]; decide) rfl ?_
      refine r_goto 26 i_M_seek_52 (by decide) ?_
      rw [nI_1]
      exact ih' _ h2 (hF.up (by omega) (by omega))
  have hB1 := hB1 X
  have h2 := h.xbv (v := v)
  obtain ⟨m0, mA', mL', m4, m20, m28, mn'⟩ := id h
  unfold skE
  refine r_iload_n (i := 1) i_M_seek_0 rfl rfl ?_
  refine r_aload_n (i := 0) i_M_seek_1 rfl rfl ?_
  refine r_getf (ci := 6) (T := Fk6) (k := 13) o_M_seek i_M_seek_2 x_M_80 rfl (by decide) rfl (by repeat (first | assumption | exact upw_s | refine (upw_n (by omega)).trans ?_)) (by first | assumption | omega) (by rfl) ?_
  rw [hB1]
  refine r_icmp_ne 56 i_M_seek_5 (by decide) (fun h5 => (absurd rfl h5)) (fun h5 => ?_)
  refine r_iload (i := 4) i_M_seek_8 rfl ?_
  refine r_aload_n (i := 0) i_M_seek_10 rfl rfl ?_
  refine r_getf (ci := 6) (T := Fk6) (k := 32) o_M_seek i_M_seek_11 x_M_288 rfl (by decide) rfl (by repeat (first | assumption | exact upw_s | refine (upw_n (by omega)).trans ?_)) (by first | assumption | omega) (by rfl) ?_
  refine r_icmp_le 55 i_M_seek_14 (by decide) (fun h14 => ?_) (fun h14 => ?_)
  · skip
    have h14 : v ≤ X.1 := h14
    rw [if_neg (Int32.not_lt.mpr h14)]
    refine r_return i_M_seek_55 t_M_seek ?_
    exact ⟨rfl, ⟨h, mFr.rf⟩, rfl⟩
  · skip
    have h14 : ¬ v ≤ X.1 := h14
    rw [if_pos (Int32.not_le.mp h14)]
    refine r_aload_n (i := 0) i_M_seek_17 rfl rfl ?_
    refine r_iload (i := 4) i_M_seek_18 rfl ?_
    refine r_putf (ci := 6) (T := Fk6) (k := 32) o_M_seek i_M_seek_20 x_M_288 rfl (by decide) rfl rfl (ok6 32 (by decide)) rfl (by repeat (first | assumption | exact upw_s | refine (upw_n (by omega)).trans ?_)) (by first | assumption | omega) (by exact Nat.le_of_ble_eq_true rfl) ?_
    refine r_iconst (v := (0 : Int32)) i_M_seek_23 rfl ?_
    refine r_istore_6 i_M_seek_24 (by rw [l_M_seek]; decide) rfl ?_
    refine hloop B 0 (by omega) _ ?_ (mFr.rf.up (by omega) (by omega))
    rw [show cpF X.2.1 X.2.2 0 = X.2.2 from funext fun j => if_neg (by omega)]
    exact h2
theorem seek_181 {B P b m : Nat} {only made set v mi : Int32} {X : aT} {t : Nat} {z : Option Value} (hb : b + (m + 1) = B) (hB7 : B ≤ 7) (ht : t < 7) (hI : ∀ made set v X w, MW w o (mX M X) n → Mv G (3 + m) y_M_seek [.ref o, .int (nI (b + 1)), .int made, .int set, .int v, .int only] w o n (mX M (sekF M P B only m made set v X)))
    {w1 : aW} (h1 : MW w1 o (mX M X) n) (hF : mFr w w1 o) (post : Option Value → aW → Nat → Prop)
    (hq : ∀ w2 z, MW w2 o (mX M (sekF M P B only m (made ||| (1 : Int32) <<< (nI b &&& 31)) (set ||| (1 : Int32) <<< (nI t &&& 31)) (v + valN (tM M) b t) (X.1, upd X.2.1 b (nI t), X.2.2))) n → mFr w w2 o → Go G (3 + (m + 1)) y_M_seek 219 [some (.ref o), some (.int (nI b)), some (.int made), some (.int set), some (.int v), some (.int only), some (.int mi), some (.int (nI t)), z] [] w2 n 0 0 post) :
    Go G (3 + (m + 1)) y_M_seek 181 [some (.ref o), some (.int (nI b)), some (.int made), some (.int set), some (.int v), some (.int only), some (.int mi), some (.int (nI t)), z] [] w1 n 0 0 post := by
  have h2 := h1.xtr (f := upd X.2.1 b (nI t))
  have hI := hI (made ||| (1 : Int32) <<< (nI b &&& 31)) (set ||| (1 : Int32) <<< (nI t &&& 31)) (v + valN (tM M) b t) _ _ h2
  have hv := c_M_valueOf (G := G) (b := b) (t := t) h2 (by omega) ht
  rw [mX_E.val (by omega) ht] at hv
  obtain ⟨m0, mA', mL', m4, m20, m28, mn'⟩ := id h1
  have a39 : w1 (o + 39) = ai 7 X.2.1 := mA' 39 rfl
  have ib : vp_in (nI b) 7 := vp_in_nI (by omega) (by decide)
  have ec : (nI b).toNatClampNeg = b := nI_clamp (by omega)
  refine r_aload_n (i := 0) i_M_seek_181 rfl rfl ?_
  refine r_getf (ci := 6) (T := Fk6) (k := 30) o_M_seek i_M_seek_182 x_M_67 rfl (by decide) rfl (by repeat (first | assumption | exact upw_s | refine (upw_n (by omega)).trans ?_)) (by first | assumption | omega) (by rfl) ?_
  refine r_iload_n (i := 1) i_M_seek_185 rfl rfl ?_
  refine r_iload (i := 7) i_M_seek_186 rfl ?_
  refine r_iast i_M_seek_188 (by repeat (first | assumption | exact upw_s | refine (upw_n (by omega)).trans ?_)) (by first | assumption | omega) (by assumption) ?_
  rw [ec]
  refine r_aload_n (i := 0) i_M_seek_189 rfl rfl ?_
  refine r_iload_n (i := 1) i_M_seek_190 rfl rfl ?_
  refine r_iconst (v := (1 : Int32)) i_M_seek_191 rfl ?_
  refine r_iadd i_M_seek_192 ?_
  refine r_iload_n (i := 2) i_M_seek_193 rfl rfl ?_
  refine r_iconst (v := (1 : Int32)) i_M_seek_194 rfl ?_
  refine r_iload_n (i := 1) i_M_seek_195 rfl rfl ?_
  refine r_ishl i_M_seek_196 ?_
  refine r_ior i_M_seek_197 ?_
  refine r_iload_n (i := 3) i_M_seek_198 rfl rfl ?_
  refine r_iconst (v := (1 : Int32)) i_M_seek_199 rfl ?_
  refine r_iload (i := 7) i_M_seek_200 rfl ?_
  refine r_ishl i_M_seek_202 ?_
  refine r_ior i_M_seek_203 ?_
  refine r_iload (i := 4) i_M_seek_204 rfl ?_
  refine r_aload_n (i := 0) i_M_seek_206 rfl rfl ?_
  refine r_iload_n (i := 1) i_M_seek_207 rfl rfl ?_
  refine r_iload (i := 7) i_M_seek_208 rfl ?_
  refine f_virtual o_M_seek k_M_valueOf v_M_valueOf x_M_251 i_M_seek_210 o_M_valueOf (hv) rfl (rcv_ob (by repeat (first | assumption | exact upw_s | refine (upw_n (by omega)).trans ?_)) rfl (by first | assumption | omega)) rfl (by omega) (Nat.le_of_ble_eq_true rfl) ?_
  refine r_iadd i_M_seek_213 ?_
  refine r_iload (i := 5) i_M_seek_214 rfl ?_
  rw [nI_1]
  refine m_virtual o_M_seek k_M_seek v_M_seek x_M_291 i_M_seek_216 o_M_seek (hI) rfl (rcv_ob (by repeat (first | assumption | exact upw_s | refine (upw_n (by omega)).trans ?_)) rfl (by first | assumption | omega)) rfl (by omega) (Nat.le_of_ble_eq_true rfl) (Nat.zero_le _) (Nat.zero_le _) (fun q1 w3 n1 hp9 => ?_)
  obtain ⟨rfl, ⟨hM3, hF3⟩, rfl⟩ := hp9
  exact hq _ _ hM3 ((hF.up (by omega) (by omega)).tr hF3)
theorem seek_s {B P b m : Nat} {only : Int32} (hb : b + (m + 1) = B) (hB : M.1 13 = nI B) (hB7 : B ≤ 7) (hP : M.1 10 = nI P) (hP7 : P ≤ 7) (hI : ∀ made set v X w, MW w o (mX M X) n → Mv G (3 + m) y_M_seek [.ref o, .int (nI (b + 1)), .int made, .int set, .int v, .int only] w o n (mX M (sekF M P B only m made set v X)))
    {made set v : Int32} {X : aT} (h : MW w o (mX M X) n) : Mv G (3 + (m + 1)) y_M_seek [.ref o, .int (nI b), .int made, .int set, .int v, .int only] w o n (mX M (sekF M P B only (m + 1) made set v X)) := by
  refine Mv.of k_M_seek l_M_seek rfl rfl ?_
  have eb : B - (m + 1) = b := by omega
  have e7 : sekF M P B only (m + 1) made set v X = if M.2.1 (21 + b) 4 &&& made = 0 then ((fdX (fun t Y => if okT M P only b set t = true then sekF M P B only m (made ||| (1 : Int32) <<< (nI b &&& 31)) (set ||| (1 : Int32) <<< (nI t &&& 31)) (v + valN (tM M) b t) (Y.1, upd Y.2.1 b (nI t), Y.2.2) else Y) P 0 (sekF M P B only m made set v (X.1, upd X.2.1 b (-1), X.2.2))).1, upd (fdX (fun t Y => if okT M P only b set t = true then sekF M P B only m (made ||| (1 : Int32) <<< (nI b &&& 31)) (set ||| (1 : Int32) <<< (nI t &&& 31)) (v + valN (tM M) b t) (Y.1, upd Y.2.1 b (nI t), Y.2.2) else Y) P 0 (sekF M P B only m made set v (X.1, upd X.2.1 b (-1), X.2.2))).2.1 b (-1), (fdX (fun t Y => if okT M P only b set t = true then sekF M P B only m (made ||| (1 : Int32) <<< (nI b &&& 31)) (set ||| (1 : Int32) <<< (nI t &&& 31)) (v + valN (tM M) b t) (Y.1, upd Y.2.1 b (nI t), Y.2.2) else Y) P 0 (sekF M P B only m made set v (X.1, upd X.2.1 b (-1), X.2.2))).2.2) else sekF M P B only m made set v (X.1, upd X.2.1 b (-1), X.2.2) := by
    rw [← eb]
    rfl
  rw [e7]
  have ib : vp_in (nI b) 7 := vp_in_nI (by omega) (by decide)
  have ec : (nI b).toNatClampNeg = b := nI_clamp (by omega)
  obtain ⟨i0, i1, i2, i3, i4⟩ := v5
  obtain ⟨j0, j1, j2, j3⟩ := v4
  have hloop : ∀ (mi : Int32), (M.2.1 36 1 = 0 → mi = mildO M b only P) → ∀ k t, t + k = P → ∀ (Y : aT) w1 z, MW w1 o (mX M Y) n → mFr w w1 o → ∀ R : aT, fdX (fun t Y => if okT M P only b set t = true then sekF M P B only m (made ||| (1 : Int32) <<< (nI b &&& 31)) (set ||| (1 : Int32) <<< (nI t &&& 31)) (v + valN (tM M) b t) (Y.1, upd Y.2.1 b (nI t), Y.2.2) else Y) k t Y = R → Go G (3 + (m + 1)) y_M_seek 115 [some (.ref o), some (.int (nI b)), some (.int made), some (.int set), some (.int v), some (.int only), some (.int mi), some (.int (nI t)), z] [] w1 n 0 0 (fun r w' n' => r = none ∧ (MW w' o (mX M (R.1, upd R.2.1 b (-1), R.2.2)) n ∧ mFr w w' o) ∧ n' = n) := by
    intro mi hmi k
    induction k with
    | zero =>
      intro t ht Y w1 z h1 hF R hR
      have ht : t = P := by omega
      subst ht
      have hR : Y = R := hR
      subst hR
      have hP1 : (mX M Y).1 10 = nI t := hP
      have h2 := h1.xtr (f := upd Y.2.1 b (-1))
      obtain ⟨m0, mA', mL', m4, m20, m28, mn'⟩ := id h1
      have a39 : w1 (o + 39) = ai 7 Y.2.1 := mA' 39 rfl
      refine r_iload (i := 7) i_M_seek_115 rfl ?_
      refine r_aload_n (i := 0) i_M_seek_117 rfl rfl ?_
      refine r_getf (ci := 6) (T := Fk6) (k := 10) o_M_seek i_M_seek_118 x_M_73 rfl (by decide) rfl (by repeat (first | assumption | exact upw_s | refine (upw_n (by omega)).trans ?_)) (by first | assumption | omega) (by rfl) ?_
      rw [hP1]
      refine r_icmp_ge 225 i_M_seek_121 (by decide) (fun h121 => ?_) (fun h121 => (absurd (nI_le (Nat.le_refl _) (by omega)) h121))
      refine r_aload_n (i := 0) i_M_seek_225 rfl rfl ?_
      refine r_getf (ci := 6) (T := Fk6) (k := 30) o_M_seek i_M_seek_226 x_M_67 rfl (by decide) rfl (by repeat (first | assumption | exact upw_s | refine (upw_n (by omega)).trans ?_)) (by first | assumption | omega) (by rfl) ?_
      refine r_iload_n (i := 1) i_M_seek_229 rfl rfl ?_
      refine r_iconst (v := (-1 : Int32)) i_M_seek_230 rfl ?_
      refine r_iast i_M_seek_231 (by repeat (first | assumption | exact upw_s | refine (upw_n (by omega)).trans ?_)) (by first | assumption | omega) (by assumption) ?_
      rw [ec]
      refine r_return i_M_seek_232 t_M_seek ?_
      exact ⟨rfl, ⟨h2, hF.up (by omega) (by omega)⟩, rfl⟩
    | succ k ih =>
      intro t ht Y w1 z h1 hF R hR
      have hR : fdX (fun t Y => if okT M P only b set t = true then sekF M P B only m (made ||| (1 : Int32) <<< (nI b &&& 31)) (set ||| (1 : Int32) <<< (nI t &&& 31)) (v + valN (tM M) b t) (Y.1, upd Y.2.1 b (nI t), Y.2.2) else Y) k (t + 1) (if okT M P only b set t = true then sekF M P B only m (made ||| (1 : Int32) <<< (nI b &&& 31)) (set ||| (1 : Int32) <<< (nI t &&& 31)) (v + valN (tM M) b t) (Y.1, upd Y.2.1 b (nI t), Y.2.2) else Y) = R := hR
      have hP1 : (mX M Y).1 10 = nI P := hP
      have eo : okT M P only b set t = if M.2.1 36 1 = 0 then decide (nI t = mildO M b only P) else hsB only (nI t) && mayM M b t set := rfl
      have hno : okT M P only b set t = false → ∀ z9, Go G (3 + (m + 1)) y_M_seek 219 [some (.ref o), some (.int (nI b)), some (.int made), some (.int set), some (.int v), some (.int only), some (.int mi), some (.int (nI t)), z9] [] w1 n 0 0 (fun r w' n' => r = none ∧ (MW w' o (mX M (R.1, upd R.2.1 b (-1), R.2.2)) n ∧ mFr w w' o) ∧ n' = n) := by
        intro q z9
        rw [if_neg (by rw [q]; decide)] at hR
        refine r_iinc_7 (v := (1 : Int32)) i_M_seek_219 rfl (by rw [l_M_seek]; decide) rfl ?_
        refine r_goto 115 i_M_seek_222 (by decide) ?_
        rw [nI_1]
        exact ih (t + 1) (by omega) _ _ _ h1 hF R hR
      have hyes : okT M P only b set t = true → ∀ z9, Go G (3 + (m + 1)) y_M_seek 181 [some (.ref o), some (.int (nI b)), some (.int made), some (.int set), some (.int v), some (.int only), some (.int mi), some (.int (nI t)), z9] [] w1 n 0 0 (fun r w' n' => r = none ∧ (MW w' o (mX M (R.1, upd R.2.1 b (-1), R.2.2)) n ∧ mFr w w' o) ∧ n' = n) := by
        intro q z9
        rw [if_pos q] at hR
        refine seek_181 hb hB7 (by omega) hI h1 hF _ (fun w2 z8 h2 hF2 => ?_)
        refine r_iinc_7 (v := (1 : Int32)) i_M_seek_219 rfl (by rw [l_M_seek]; decide) rfl ?_
        refine r_goto 115 i_M_seek_222 (by decide) ?_
        rw [nI_1]
        exact ih (t + 1) (by omega) _ _ _ h2 hF2 R hR
      have hmy := c_M_may (G := G) (b := b) (t := t) (x := set) h1 (by omega) (by omega)
      rw [mX_E.may (by omega) (by omega)] at hmy
      obtain ⟨m0, mA', mL', m4, m20, m28, mn'⟩ := id h1
      have a36 : w1 (o + 36) = ai 4 (M.2.1 36) := mA' 36 rfl
      have e8 : (!decide ((only >>> (nI t &&& 31)) &&& 1 = 0)) = hsB only (nI t) := rfl
      refine r_iload (i := 7) i_M_seek_115 rfl ?_
      refine r_aload_n (i := 0) i_M_seek_117 rfl rfl ?_
      refine r_getf (ci := 6) (T := Fk6) (k := 10) o_M_seek i_M_seek_118 x_M_73 rfl (by decide) rfl (by repeat (first | assumption | exact upw_s | refine (upw_n (by omega)).trans ?_)) (by first | assumption | omega) (by rfl) ?_
      rw [hP1]
      refine r_icmp_ge 225 i_M_seek_121 (by decide) (fun h121 => (absurd h121 (nI_ge (by omega) (by omega)))) (fun h121 => ?_)
      refine r_aload_n (i := 0) i_M_seek_124 rfl rfl ?_
      refine r_getf (ci := 6) (T := Fk6) (k := 16) o_M_seek i_M_seek_125 x_M_54 rfl (by decide) rfl (by repeat (first | assumption | exact upw_s | refine (upw_n (by omega)).trans ?_)) (by first | assumption | omega) (by rfl) ?_
      refine r_iconst (v := (1 : Int32)) i_M_seek_128 rfl ?_
      refine r_iald i_M_seek_129 (by repeat (first | assumption | exact upw_s | refine (upw_n (by omega)).trans ?_)) (by first | assumption | omega) (by assumption) ?_
      refine r_if_ne 148 i_M_seek_130 (by decide) (fun h130 => ?_) (fun h130 => ?_)
      · skip
        have h130 : ¬ M.2.1 36 1 = 0 := h130
        rw [if_neg h130] at eo
        refine r_iload (i := 5) i_M_seek_148 rfl ?_
        refine r_iload (i := 7) i_M_seek_150 rfl ?_
        refine f_static o_M_seek k_M_has s_M_has x_M_122 i_M_seek_152 (c_M_has) rfl rfl (by omega) (Nat.le_of_ble_eq_true rfl) ?_
        rw [e8]
        refine r_if_eq 173 i_M_seek_155 (by decide) (fun h155 => ?_) (fun h155 => ?_)
        · skip
          have h155 := bI_eq0.mp h155
          rw [h155, Bool.false_and] at eo
          refine r_iconst (v := (0 : Int32)) i_M_seek_173 rfl ?_
          refine r_istore_8 i_M_seek_174 (by rw [l_M_seek]; decide) rfl ?_
          refine r_iload (i := 8) i_M_seek_176 rfl ?_
          refine r_if_eq 219 i_M_seek_178 (by decide) (fun h178 => ?_) (fun h178 => ?_)
          · first
            | exact absurd h178 (by decide)
            | skip
              exact hno eo _
          · first
            | exact absurd h178 (by decide)
            | skip
              exact hyes eo _
        · skip
          have h155 := bI_ne0.mp h155
          rw [h155, Bool.true_and] at eo
          refine r_aload_n (i := 0) i_M_seek_158 rfl rfl ?_
          refine r_iload_n (i := 1) i_M_seek_159 rfl rfl ?_
          refine r_iload (i := 7) i_M_seek_160 rfl ?_
          refine r_iload_n (i := 3) i_M_seek_162 rfl rfl ?_
          refine f_virtual o_M_seek k_M_may v_M_may x_M_255 i_M_seek_163 o_M_may (hmy) rfl (rcv_ob (by repeat (first | assumption | exact upw_s | refine (upw_n (by omega)).trans ?_)) rfl (by first | assumption | omega)) rfl (by omega) (Nat.le_of_ble_eq_true rfl) ?_
          refine r_if_eq 173 i_M_seek_166 (by decide) (fun h166 => ?_) (fun h166 => ?_)
          · skip
            have h166 := bI_eq0.mp h166
            rw [h166] at eo
            refine r_iconst (v := (0 : Int32)) i_M_seek_173 rfl ?_
            refine r_istore_8 i_M_seek_174 (by rw [l_M_seek]; decide) rfl ?_
            refine r_iload (i := 8) i_M_seek_176 rfl ?_
            refine r_if_eq 219 i_M_seek_178 (by decide) (fun h178 => ?_) (fun h178 => ?_)
            · first
              | exact absurd h178 (by decide)
              | skip
                exact hno eo _
            · first
              | exact absurd h178 (by decide)
              | skip
                exact hyes eo _
          · skip
            have h166 := bI_ne0.mp h166
            rw [h166] at eo
            refine r_iconst (v := (1 : Int32)) i_M_seek_169 rfl ?_
            refine r_goto 174 i_M_seek_170 (by decide) ?_
            refine r_istore_8 i_M_seek_174 (by rw [l_M_seek]; decide) rfl ?_
            refine r_iload (i := 8) i_M_seek_176 rfl ?_
            refine r_if_eq 219 i_M_seek_178 (by decide) (fun h178 => ?_) (fun h178 => ?_)
            · first
              | exact absurd h178 (by decide)
              | skip
                exact hno eo _
            · first
              | exact absurd h178 (by decide)
              | skip
                exact hyes eo _
      · skip
        have h130 : M.2.1 36 1 = 0 := h130
        rw [if_pos h130, ← hmi h130] at eo
        refine r_iload (i := 7) i_M_seek_133 rfl ?_
        refine r_iload (i := 6) i_M_seek_135 rfl ?_
        refine r_icmp_ne 144 i_M_seek_137 (by decide) (fun h137 => ?_) (fun h137 => ?_)
        · skip
          rw [decide_eq_false h137] at eo
          refine r_iconst (v := (0 : Int32)) i_M_seek_144 rfl ?_
          refine r_goto 174 i_M_seek_145 (by decide) ?_
          refine r_istore_8 i_M_seek_174 (by rw [l_M_seek]; decide) rfl ?_
          refine r_iload (i := 8) i_M_seek_176 rfl ?_
          refine r_if_eq 219 i_M_seek_178 (by decide) (fun h178 => ?_) (fun h178 => ?_)
          · first
            | exact absurd h178 (by decide)
            | skip
              exact hno eo _
          · first
            | exact absurd h178 (by decide)
            | skip
              exact hyes eo _
        · skip
          rw [decide_eq_true h137] at eo
          refine r_iconst (v := (1 : Int32)) i_M_seek_140 rfl ?_
          refine r_goto 174 i_M_seek_141 (by decide) ?_
          refine r_istore_8 i_M_seek_174 (by rw [l_M_seek]; decide) rfl ?_
          refine r_iload (i := 8) i_M_seek_176 rfl ?_
          refine r_if_eq 219 i_M_seek_178 (by decide) (fun h178 => ?_) (fun h178 => ?_)
          · first
            | exact absurd h178 (by decide)
            | skip
              exact hno eo _
          · first
            | exact absurd h178 (by decide)
            | skip
              exact hyes eo _
  have h2 := h.xtr (f := upd X.2.1 b (-1))
  have hI2 := hI made set v _ _ h2
  have hB1 : (mX M X).1 13 = nI B := hB
  obtain ⟨m0, mA', mL', m4, m20, m28, mn'⟩ := id h
  have a39 : w (o + 39) = ai 7 X.2.1 := mA' 39 rfl
  have hpf : ∀ (Y : aT) w1 z, MW w1 o (mX M Y) n → mFr w w1 o → ∀ R : aT, (if M.2.1 (21 + b) 4 &&& made = 0 then ((fdX (fun t Y => if okT M P only b set t = true then sekF M P B only m (made ||| (1 : Int32) <<< (nI b &&& 31)) (set ||| (1 : Int32) <<< (nI t &&& 31)) (v + valN (tM M) b t) (Y.1, upd Y.2.1 b (nI t), Y.2.2) else Y) P 0 Y).1, upd (fdX (fun t Y => if okT M P only b set t = true then sekF M P B only m (made ||| (1 : Int32) <<< (nI b &&& 31)) (set ||| (1 : Int32) <<< (nI t &&& 31)) (v + valN (tM M) b t) (Y.1, upd Y.2.1 b (nI t), Y.2.2) else Y) P 0 Y).2.1 b (-1), (fdX (fun t Y => if okT M P only b set t = true then sekF M P B only m (made ||| (1 : Int32) <<< (nI b &&& 31)) (set ||| (1 : Int32) <<< (nI t &&& 31)) (v + valN (tM M) b t) (Y.1, upd Y.2.1 b (nI t), Y.2.2) else Y) P 0 Y).2.2) else Y) = R → Go G (3 + (m + 1)) y_M_seek 76 [some (.ref o), some (.int (nI b)), some (.int made), some (.int set), some (.int v), some (.int only), none, none, z] [] w1 n 0 0 (fun r w' n' => r = none ∧ (MW w' o (mX M R) n ∧ mFr w w' o) ∧ n' = n) := by
    intro Y w1 z h1 hF R hR
    obtain ⟨r1, r2, r3, r4, r5⟩ := row_of h1 (show b < 7 by omega)
    have r1 : w1 (o + 21 + b) = ai 5 (M.2.1 (21 + b)) := r1.trans (congrArg (ai 5) (mX_lt (by omega)))
    have hmo := c_M_mildestOf (G := G) (b := b) (x := only) h1 (by omega) hP hP7
    rw [mX_E.mo (by omega) hP7] at hmo
    have hl1 := fun q => hloop (mildO M b only P) q P 0 (by omega) Y w1 z h1 hF _ rfl
    have hl2 := fun q => hloop (-1) q P 0 (by omega) Y w1 z h1 hF _ rfl
    obtain ⟨m0, mA', mL', m4, m20, m28, mn'⟩ := id h1
    have a36 : w1 (o + 36) = ai 4 (M.2.1 36) := mA' 36 rfl
    refine r_aload_n (i := 0) i_M_seek_76 rfl rfl ?_
    refine r_getf (ci := 6) (T := Fk6) (k := 14) o_M_seek i_M_seek_77 x_M_48 rfl (by decide) rfl (by repeat (first | assumption | exact upw_s | refine (upw_n (by omega)).trans ?_)) (by first | assumption | omega) (by rfl) ?_
    refine r_iload_n (i := 1) i_M_seek_80 rfl rfl ?_
    refine r_aald i_M_seek_81 (by repeat (first | assumption | exact upw_s | refine (upw_n (by omega)).trans ?_)) (by decide) (by first | assumption | omega) (by assumption) r3 ?_
    refine r_iconst (v := (4 : Int32)) i_M_seek_82 rfl ?_
    refine r_iald i_M_seek_83 (by repeat (first | assumption | exact upw_s | refine (upw_n (by omega)).trans ?_)) (by first | assumption | omega) (by assumption) ?_
    refine r_iload_n (i := 2) i_M_seek_84 rfl rfl ?_
    refine r_iand i_M_seek_85 ?_
    refine r_if_eq 90 i_M_seek_86 (by decide) (fun h86 => ?_) (fun h86 => ?_)
    · skip
      have h86 : M.2.1 (21 + b) 4 &&& made = 0 := h86
      rw [if_pos h86] at hR
      subst hR
      refine r_aload_n (i := 0) i_M_seek_90 rfl rfl ?_
      refine r_getf (ci := 6) (T := Fk6) (k := 16) o_M_seek i_M_seek_91 x_M_54 rfl (by decide) rfl (by repeat (first | assumption | exact upw_s | refine (upw_n (by omega)).trans ?_)) (by first | assumption | omega) (by rfl) ?_
      refine r_iconst (v := (1 : Int32)) i_M_seek_94 rfl ?_
      refine r_iald i_M_seek_95 (by repeat (first | assumption | exact upw_s | refine (upw_n (by omega)).trans ?_)) (by first | assumption | omega) (by assumption) ?_
      refine r_if_ne 109 i_M_seek_96 (by decide) (fun h96 => ?_) (fun h96 => ?_)
      · skip
        have h96 : ¬ M.2.1 36 1 = 0 := h96
        have hl := hl2 (fun q => absurd q h96)
        refine r_iconst (v := (-1 : Int32)) i_M_seek_109 rfl ?_
        refine r_istore_6 i_M_seek_110 (by rw [l_M_seek]; decide) rfl ?_
        refine r_iconst (v := (0 : Int32)) i_M_seek_112 rfl ?_
        refine r_istore_7 i_M_seek_113 (by rw [l_M_seek]; decide) rfl ?_
        exact hl
      · skip
        have hl := hl1 (fun _ => rfl)
        refine r_aload_n (i := 0) i_M_seek_99 rfl rfl ?_
        refine r_iload_n (i := 1) i_M_seek_100 rfl rfl ?_
        refine r_iload (i := 5) i_M_seek_101 rfl ?_
        refine f_virtual o_M_seek k_M_mildestOf v_M_mildestOf x_M_295 i_M_seek_103 o_M_mildestOf (hmo) rfl (rcv_ob (by repeat (first | assumption | exact upw_s | refine (upw_n (by omega)).trans ?_)) rfl (by first | assumption | omega)) rfl (by omega) (Nat.le_of_ble_eq_true rfl) ?_
        refine r_goto 110 i_M_seek_106 (by decide) ?_
        refine r_istore_6 i_M_seek_110 (by rw [l_M_seek]; decide) rfl ?_
        refine r_iconst (v := (0 : Int32)) i_M_seek_112 rfl ?_
        refine r_istore_7 i_M_seek_113 (by rw [l_M_seek]; decide) rfl ?_
        exact hl
    · skip
      have h86 : ¬ M.2.1 (21 + b) 4 &&& made = 0 := h86
      rw [if_neg h86] at hR
      subst hR
      refine r_return i_M_seek_89 t_M_seek ?_
      exact ⟨rfl, ⟨h1, hF⟩, rfl⟩
  have hne : ¬ nI b = nI B := fun q => by have := (nI_eq (by omega) (by omega)).mp q; omega
  refine r_iload_n (i := 1) i_M_seek_0 rfl rfl ?_
  refine r_aload_n (i := 0) i_M_seek_1 rfl rfl ?_
  refine r_getf (ci := 6) (T := Fk6) (k := 13) o_M_seek i_M_seek_2 x_M_80 rfl (by decide) rfl (by repeat (first | assumption | exact upw_s | refine (upw_n (by omega)).trans ?_)) (by first | assumption | omega) (by rfl) ?_
  rw [hB1]
  refine r_icmp_ne 56 i_M_seek_5 (by decide) (fun h5 => ?_) (fun h5 => (absurd h5 hne))
  refine r_aload_n (i := 0) i_M_seek_56 rfl rfl ?_
  refine r_getf (ci := 6) (T := Fk6) (k := 30) o_M_seek i_M_seek_57 x_M_67 rfl (by decide) rfl (by repeat (first | assumption | exact upw_s | refine (upw_n (by omega)).trans ?_)) (by first | assumption | omega) (by rfl) ?_
  refine r_iload_n (i := 1) i_M_seek_60 rfl rfl ?_
  refine r_iconst (v := (-1 : Int32)) i_M_seek_61 rfl ?_
  refine r_iast i_M_seek_62 (by repeat (first | assumption | exact upw_s | refine (upw_n (by omega)).trans ?_)) (by first | assumption | omega) (by assumption) ?_
  rw [ec]
  refine r_aload_n (i := 0) i_M_seek_63 rfl rfl ?_
  refine r_iload_n (i := 1) i_M_seek_64 rfl rfl ?_
  refine r_iconst (v := (1 : Int32)) i_M_seek_65 rfl ?_
  refine r_iadd i_M_seek_66 ?_
  refine r_iload_n (i := 2) i_M_seek_67 rfl rfl ?_
  refine r_iload_n (i := 3) i_M_seek_68 rfl rfl ?_
  refine r_iload (i := 4) i_M_seek_69 rfl ?_
  refine r_iload (i := 5) i_M_seek_71 rfl ?_
  rw [nI_1]
  refine m_virtual o_M_seek k_M_seek v_M_seek x_M_291 i_M_seek_73 o_M_seek (hI2) rfl (rcv_ob (by repeat (first | assumption | exact upw_s | refine (upw_n (by omega)).trans ?_)) rfl (by first | assumption | omega)) rfl (by omega) (Nat.le_of_ble_eq_true rfl) (Nat.zero_le _) (Nat.zero_le _) (fun q1 w3 n1 hp9 => ?_)
  obtain ⟨rfl, ⟨hM3, hF3⟩, rfl⟩ := hp9
  exact hpf _ _ _ hM3 ((mFr.rf.up (by omega) (by omega)).tr hF3) _ rfl
theorem c_M_seek {B P : Nat} {only : Int32} (hB : M.1 13 = nI B) (hB7 : B ≤ 7) (hP : M.1 10 = nI P) (hP7 : P ≤ 7) : ∀ m b, b + m = B → ∀ made set v X w, MW w o (mX M X) n → Mv G (3 + m) y_M_seek [.ref o, .int (nI b), .int made, .int set, .int v, .int only] w o n (mX M (sekF M P B only m made set v X))
  | 0, b, hb, made, set, v, X, w, h => by
    have hb : b = B := by omega
    subst hb
    exact seek_0 (P := P) hB hB7 h
  | m + 1, b, hb, made, set, v, X, w, h => seek_s hb hB hB7 hP hP7 (fun made set v X w h => c_M_seek hB hB7 hP hP7 m (b + 1) (by omega) made set v X w h) h
end MSEEK
