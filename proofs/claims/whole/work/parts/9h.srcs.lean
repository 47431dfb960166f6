-- SEARCH: the reference's walk finds the first of the best
section SRCS
variable {M : aM} {P B : Nat} {only : Int32}
def Nd (M : aM) (P B : Nat) (only : Int32) (b : Nat) (p : Nat → Nat) (made set v : Int32) (X : aT) : Prop := Rd M P B only p ∧ (∀ i, b ≤ i → p i = 0) ∧ (∀ i, i < 32 → bt made i = !decide (p i = 0)) ∧ (∀ t, t < 7 → (hsB set (nI t) = true ↔ ∃ i, p i = t + 1)) ∧ v.toInt = vl (tM M) p ∧ ∀ i, i < b → X.2.1 i = enc (p i)
theorem Rd.le {f : Nat → Nat} (h : Rd M P B only f) (i : Nat) : f i ≤ P := by
  rcases h.1 i with z | z
  · omega
  · exact z.2.1
theorem Nd.kid {b t : Nat} {p : Nat → Nat} {made set v : Int32} {X Y : aT} (hv : VOk (tM M)) (hP7 : P ≤ 7) (hB7 : B ≤ 7) (hb : b < B) (ht : t < P) (h : Nd M P B only b p made set v X) (hY : ∀ i, i < b → Y.2.1 i = X.2.1 i) (hn : M.2.1 (21 + b) 4 &&& made = 0) (hok : okT M P only b set t = true) : Nd M P B only (b + 1) (upn p b (t + 1)) (made ||| (1 : Int32) <<< (nI b &&& 31)) (set ||| (1 : Int32) <<< (nI t &&& 31)) (v + valN (tM M) b t) (Y.1, upd Y.2.1 b (nI t), Y.2.2) := by
  obtain ⟨⟨r1, r2, r3⟩, h2, h3, h4, h5, h6⟩ := h
  have hone : M.2.1 36 1 = 0 ∨ M.2.1 36 1 = 1 := hv.2.2.2.2.1
  obtain ⟨o1, o2⟩ := (ok_al hone).mp hok
  have pb : p b = 0 := h2 b (Nat.le_refl _)
  have eqb : upn p b (t + 1) b = t + 1 := if_pos rfl
  have neb : ∀ i, ¬ i = b → upn p b (t + 1) i = p i := fun i hi => if_neg hi
  refine ⟨⟨fun i => ?_, fun i k hi hk hik => ?_, ?_⟩, fun i hi => ?_, fun i hi => ?_, fun u hu => ?_, ?_, fun i hi => ?_⟩
  · by_cases e : i = b
    · subst e
      rw [eqb, Nat.add_sub_cancel]
      exact Or.inr ⟨hb, by omega, o1⟩
    · rw [neb i e]
      exact r1 i
  · by_cases e : k = b
    · subst e
      rw [neb i (by omega)] at hi
      have h9 := congrArg (fun y => bt y i) hn
      simp only [b_and, b_0] at h9
      have hi32 : i < 32 := by omega
      rw [h3 i hi32, decide_eq_false hi, Bool.not_false, Bool.and_true] at h9
      exact h9
    · by_cases e2 : i = b
      · rw [neb k e, h2 k (by omega)] at hk
        exact absurd rfl hk
      · rw [neb i e2] at hi
        rw [neb k e] at hk
        exact r2 i k hi hk hik
  · rcases o2 with o2 | o2
    · exact Or.inl o2
    · rcases r3 with r3 | r3
      · exact Or.inl r3
      · refine Or.inr (fun i k hi hik => ?_)
        have no : ∀ j, ¬ p j = t + 1 := fun j hj => by
          have := (h4 t (by omega)).mpr ⟨j, hj⟩
          rw [o2] at this
          exact absurd this (by decide)
        by_cases e : i = b
        · by_cases e2 : k = b
          · rw [e, e2]
          · rw [e, eqb, neb k e2] at hik
            exact absurd hik.symm (no k)
        · rw [neb i e] at hi hik
          by_cases e2 : k = b
          · rw [e2, eqb] at hik
            exact absurd hik (no i)
          · rw [neb k e2] at hik
            exact r3 i k hi hik
  · rw [neb i (by omega)]
    exact h2 i (by omega)
  · show bt (made ||| b1 b) i = _
    rw [b_or, b1_bt (by omega) hi, h3 i hi]
    by_cases e : i = b
    · rw [e, eqb, decide_eq_true rfl, Bool.or_true]
      rfl
    · rw [neb i e, decide_eq_false e, Bool.or_false]
  · show hsB (set ||| b1 t) (nI u) = true ↔ _
    have hs := h4 u hu
    rw [hs_bt (by omega)] at hs ⊢
    rw [b_or, b1_bt (by omega) (by omega), Bool.or_eq_true, hs, decide_eq_true_iff]
    constructor
    · rintro (⟨i, hi⟩ | e)
      · refine ⟨i, ?_⟩
        rw [neb i (fun z => by rw [z, pb] at hi; omega)]
        exact hi
      · exact ⟨b, by rw [eqb, e]⟩
    · rintro ⟨i, hi⟩
      by_cases e : i = b
      · rw [e, eqb] at hi
        exact Or.inr (by omega)
      · rw [neb i e] at hi
        exact Or.inl ⟨i, hi⟩
  · have hb7 : b < 7 := by omega
    have ht7 : t < 7 := by omega
    have e1 : vl (tM M) (upn p b (t + 1)) = vl (tM M) p + (valN (tM M) b t).toInt := by
      unfold vl
      rw [ky_up pb 7, if_pos hb7]
      unfold vlU
      rw [if_pos ⟨ht7, hb7⟩]
    have b1 := vl_bd (f := p) hv 7
    have b2 := (vok_val hv hb7 ht7).2
    have e3 : vl (tM M) p = kyI (vlU (tM M)) p 7 := rfl
    rw [e1, i_add (by rw [h5, e3]; omega) (by rw [h5, e3]; omega), h5]
  · show upd Y.2.1 b (nI t) i = _
    by_cases e : i = b
    · rw [e, upd_at, eqb]
      unfold enc
      rw [if_neg (Nat.succ_ne_zero t), Nat.add_sub_cancel]
    · rw [upd_ne e, neb i e, hY i (by omega)]
      exact h6 i (by omega)
theorem sek_spec (hv : VOk (tM M)) (hP7 : P ≤ 7) (hB7 : B ≤ 7) : ∀ m b p made set v X, b + m = B → Nd M P B only b p made set v X → Bst (tM M) B (fun f => Rd M P B only f ∧ ∀ i, i < b → f i = p i) X (sekF M P B only m made set v X) ∧ ∀ i, i < b → (sekF M P B only m made set v X).2.1 i = X.2.1 i
  | 0, b, p, made, set, v, X, hb, h => by
    obtain ⟨r, h2, h3, h4, h5, h6⟩ := h
    have hb : b = B := by omega
    subst hb
    have uniq : ∀ f, (Rd M P b only f ∧ ∀ i, i < b → f i = p i) → f = p := by
      intro f hf
      funext i
      by_cases q : i < b
      · exact hf.2 i q
      · rw [h2 i (by omega)]
        rcases hf.1.1 i with z | z
        · exact z
        · exact absurd z.1 q
    show Bst _ _ _ X (skE b v X) ∧ ∀ i, i < b → (skE b v X).2.1 i = X.2.1 i
    unfold skE
    by_cases q : X.1 < v
    · rw [if_pos q]
      rw [Int32.lt_iff_toInt_lt] at q
      refine ⟨⟨by show X.1.toInt ≤ v.toInt; omega, fun f hf => ?_, Or.inr ⟨p, ⟨r, fun _ _ => rfl⟩, h5.symm, q, fun i hi => ?_, fun g hg _ => ?_⟩⟩, fun _ _ => rfl⟩
      · rw [uniq f hf]
        show vl (tM M) p ≤ v.toInt
        omega
      · show (if i < b then X.2.1 i else X.2.2 i) = _
        rw [if_pos hi]
        exact h6 i hi
      · rw [uniq g hg]
        exact Int.le_refl _
    · rw [if_neg q]
      rw [Int32.lt_iff_toInt_lt] at q
      refine ⟨⟨Int.le_refl _, fun f hf => ?_, Or.inl ⟨rfl, rfl⟩⟩, fun _ _ => rfl⟩
      rw [uniq f hf]
      omega
  | m + 1, b, p, made, set, v, X, hb, h => by
    have ih := sek_spec hv hP7 hB7 m (b + 1)
    have hbB : b < B := by omega
    have hone : M.2.1 36 1 = 0 ∨ M.2.1 36 1 = 1 := hv.2.2.2.2.1
    have eb : B - (m + 1) = b := by omega
    have e0 : sekF M P B only (m + 1) made set v X = if M.2.1 (21 + b) 4 &&& made = 0 then ((fdX (fun t Y => if okT M P only b set t = true then sekF M P B only m (made ||| (1 : Int32) <<< (nI b &&& 31)) (set ||| (1 : Int32) <<< (nI t &&& 31)) (v + valN (tM M) b t) (Y.1, upd Y.2.1 b (nI t), Y.2.2) else Y) P 0 (sekF M P B only m made set v (X.1, upd X.2.1 b (-1), X.2.2))).1, upd (fdX (fun t Y => if okT M P only b set t = true then sekF M P B only m (made ||| (1 : Int32) <<< (nI b &&& 31)) (set ||| (1 : Int32) <<< (nI t &&& 31)) (v + valN (tM M) b t) (Y.1, upd Y.2.1 b (nI t), Y.2.2) else Y) P 0 (sekF M P B only m made set v (X.1, upd X.2.1 b (-1), X.2.2))).2.1 b (-1), (fdX (fun t Y => if okT M P only b set t = true then sekF M P B only m (made ||| (1 : Int32) <<< (nI b &&& 31)) (set ||| (1 : Int32) <<< (nI t &&& 31)) (v + valN (tM M) b t) (Y.1, upd Y.2.1 b (nI t), Y.2.2) else Y) P 0 (sekF M P B only m made set v (X.1, upd X.2.1 b (-1), X.2.2))).2.2) else sekF M P B only m made set v (X.1, upd X.2.1 b (-1), X.2.2) := by
      rw [← eb]
      rfl
    rw [e0]
    clear e0 eb
    have pb : p b = 0 := h.2.1 b (Nat.le_refl _)
    have hd0 : Nd M P B only (b + 1) p made set v (X.1, upd X.2.1 b (-1), X.2.2) := by
      obtain ⟨r, h2, h3, h4, h5, h6⟩ := h
      refine ⟨r, fun i hi => h2 i (by omega), h3, h4, h5, fun i hi => ?_⟩
      show upd X.2.1 b (-1) i = _
      by_cases e : i = b
      · rw [e, upd_at, pb]
        rfl
      · rw [upd_ne e]
        exact h6 i (by omega)
    obtain ⟨k1, k2⟩ := ih p made set v _ (by omega) hd0
    generalize sekF M P B only m made set v (X.1, upd X.2.1 b (-1), X.2.2) = R0 at *
    have k1 : Bst (tM M) B (fun f => Rd M P B only f ∧ ∀ i, i < b + 1 → f i = p i) X R0 := k1
    have k2 : ∀ i, i < b → R0.2.1 i = X.2.1 i := fun i hi => (k2 i (by omega)).trans (upd_ne (by omega))
    by_cases q : M.2.1 (21 + b) 4 &&& made = 0
    · rw [if_pos q]
      have loop : ∀ k t Y, t + k = P → Bst (tM M) B (fun f => Rd M P B only f ∧ (∀ i, i < b → f i = p i) ∧ f b ≤ t) X Y → (∀ i, i < b → Y.2.1 i = X.2.1 i) → Bst (tM M) B (fun f => Rd M P B only f ∧ (∀ i, i < b → f i = p i) ∧ f b ≤ P) X (fdX (fun t Y => if okT M P only b set t = true then sekF M P B only m (made ||| (1 : Int32) <<< (nI b &&& 31)) (set ||| (1 : Int32) <<< (nI t &&& 31)) (v + valN (tM M) b t) (Y.1, upd Y.2.1 b (nI t), Y.2.2) else Y) k t Y) ∧ ∀ i, i < b → (fdX (fun t Y => if okT M P only b set t = true then sekF M P B only m (made ||| (1 : Int32) <<< (nI b &&& 31)) (set ||| (1 : Int32) <<< (nI t &&& 31)) (v + valN (tM M) b t) (Y.1, upd Y.2.1 b (nI t), Y.2.2) else Y) k t Y).2.1 i = X.2.1 i := by
        intro k
        induction k with
        | zero =>
          intro t Y ht hY hT
          have ht : t = P := by omega
          subst ht
          exact ⟨hY, hT⟩
        | succ k ihk =>
          intro t Y ht hY hT
          show Bst _ _ _ X (fdX _ k (t + 1) (if okT M P only b set t = true then sekF M P B only m (made ||| (1 : Int32) <<< (nI b &&& 31)) (set ||| (1 : Int32) <<< (nI t &&& 31)) (v + valN (tM M) b t) (Y.1, upd Y.2.1 b (nI t), Y.2.2) else Y)) ∧ ∀ i, i < b → (fdX _ k (t + 1) (if okT M P only b set t = true then sekF M P B only m (made ||| (1 : Int32) <<< (nI b &&& 31)) (set ||| (1 : Int32) <<< (nI t &&& 31)) (v + valN (tM M) b t) (Y.1, upd Y.2.1 b (nI t), Y.2.2) else Y)).2.1 i = X.2.1 i
          by_cases ok : okT M P only b set t = true
          · rw [if_pos ok]
            have hd1 := h.kid hv hP7 hB7 hbB (by omega) hT q ok
            obtain ⟨j1, j2⟩ := ih _ _ _ _ _ (by omega) hd1
            refine ihk (t + 1) _ (by omega) ?_ (fun i hi => ?_)
            · have j1 : Bst (tM M) B (fun f => Rd M P B only f ∧ ∀ i, i < b + 1 → f i = upn p b (t + 1) i) Y (sekF M P B only m (made ||| (1 : Int32) <<< (nI b &&& 31)) (set ||| (1 : Int32) <<< (nI t &&& 31)) (v + valN (tM M) b t) (Y.1, upd Y.2.1 b (nI t), Y.2.2)) := j1
              have un : ∀ f : Nat → Nat, (∀ i, i < b + 1 → f i = upn p b (t + 1) i) ↔ (∀ i, i < b → f i = p i) ∧ f b = t + 1 := by
                intro f
                constructor
                · intro z
                  exact ⟨fun i hi => (z i (by omega)).trans (if_neg (by omega)), (z b (by omega)).trans (if_pos rfl)⟩
                · rintro ⟨z1, z2⟩ i hi
                  by_cases e : i = b
                  · rw [e, z2]
                    exact (if_pos rfl).symm
                  · rw [z1 i (by omega)]
                    exact (if_neg e).symm
              refine hY.seq j1 (fun f => ?_) (fun f g hf hg => ?_)
              · show (_ ∧ _ ∧ _) ↔ (_ ∧ _ ∧ _) ∨ _ ∧ _
                rw [un f]
                constructor
                · rintro ⟨z1, z2, z3⟩
                  by_cases e : f b = t + 1
                  · exact Or.inr ⟨z1, z2, e⟩
                  · exact Or.inl ⟨z1, z2, by omega⟩
                · rintro (⟨z1, z2, z3⟩ | ⟨z1, z2, z3⟩)
                  · exact ⟨z1, z2, by omega⟩
                  · exact ⟨z1, z2, by omega⟩
              · have hg2 := (un g).mp hg.2
                have hf3 := hf.2.2
                exact Int.le_of_lt (cd_lt (b := b) (by omega) (fun i hi => (hf.2.1 i hi).trans (hg2.1 i hi).symm) (by rw [hg2.2]; omega) (fun i => Nat.le_trans (hf.1.le i) (by omega)))
            · exact (j2 i (by omega)).trans ((upd_ne (by omega)).trans (hT i hi))
          · rw [if_neg ok]
            refine ihk (t + 1) Y (by omega) (hY.iff (fun f => ?_)) hT
            constructor
            · rintro ⟨z1, z2, z3⟩
              refine ⟨z1, z2, ?_⟩
              have : ¬ f b = t + 1 := fun e => ok ((ok_al hone).mpr ⟨?_, ?_⟩)
              · omega
              · rcases z1.1 b with y | y
                · omega
                · have := y.2.2
                  rwa [e, Nat.add_sub_cancel] at this
              · rcases z1.2.2 with y | y
                · exact Or.inl y
                · right
                  cases x : hsB set (nI t)
                  · rfl
                  · obtain ⟨i, hi⟩ := (h.2.2.2.1 t (by omega)).mp x
                    have hib : i < b := Nat.lt_of_not_le (fun w => by rw [h.2.1 i w] at hi; omega)
                    have e2 : f i = t + 1 := (z2 i hib).trans hi
                    have := y i b (by omega) (e2.trans e.symm)
                    omega
            · rintro ⟨z1, z2, z3⟩
              exact ⟨z1, z2, by omega⟩
      have st : Bst (tM M) B (fun f => Rd M P B only f ∧ (∀ i, i < b → f i = p i) ∧ f b ≤ 0) X R0 := k1.iff (fun f => by
        constructor
        · rintro ⟨z1, z2, z3⟩
          refine ⟨z1, fun i hi => ?_⟩
          by_cases e : i = b
          · rw [e, pb]
            omega
          · exact z2 i (by omega)
        · rintro ⟨z1, z2⟩
          exact ⟨z1, fun i hi => z2 i (by omega), by rw [z2 b (by omega), pb]; exact Nat.le_refl _⟩)
      obtain ⟨l1, l2⟩ := loop P 0 R0 (Nat.zero_add P) st k2
      refine ⟨l1.iff (fun f => ?_), fun i hi => (upd_ne (by omega)).trans (l2 i hi)⟩
      constructor
      · rintro ⟨z1, z2⟩
        exact ⟨z1, z2, z1.le b⟩
      · rintro ⟨z1, z2, -⟩
        exact ⟨z1, z2⟩
    · rw [if_neg q]
      refine ⟨k1.iff (fun f => ?_), k2⟩
      constructor
      · rintro ⟨z1, z2⟩
        refine ⟨z1, fun i hi => ?_⟩
        by_cases e : i = b
        · rw [e, pb]
          refine Classical.byContradiction (fun y => q (b_ext (fun k hk => ?_)))
          rw [b_and, b_0, h.2.2.1 k hk]
          by_cases w : p k = 0
          · rw [w, decide_eq_true rfl, Bool.not_true, Bool.and_false]
          · have hkb : k < b := Nat.lt_of_not_le (fun w2 => w (h.2.1 k w2))
            rw [z1.2.1 k b (by rw [z2 k hkb]; exact w) y hkb, Bool.false_and]
        · exact z2 i (by omega)
      · rintro ⟨z1, z2⟩
        exact ⟨z1, fun i hi => z2 i (by omega)⟩
end SRCS
