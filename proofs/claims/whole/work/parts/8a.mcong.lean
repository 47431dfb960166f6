-- THE REFERENCE: what doesn't see the scratch cells
def mE (M N : aM) : Prop := (∀ k, k < 22 → M.1 k = N.1 k) ∧ (∀ j, j < 37 → M.2.1 j = N.2.1 j)
theorem mE.rf {M : aM} : mE M M := ⟨fun _ _ => rfl, fun _ _ => rfl⟩
theorem mE.sy {M N : aM} (h : mE M N) : mE N M := ⟨fun k hk => (h.1 k hk).symm, fun j hj => (h.2 j hj).symm⟩
theorem mE.tr {M N O : aM} (h : mE M N) (h2 : mE N O) : mE M O := ⟨fun k hk => (h.1 k hk).trans (h2.1 k hk), fun j hj => (h.2 j hj).trans (h2.2 j hj)⟩
theorem mE.A {M : aM} {j : Nat} {f : Nat → Int32} (hj : 37 ≤ j) : mE (mA M j f) M := ⟨fun _ _ => rfl, fun i hi => if_neg (by omega)⟩
theorem mE.S {M : aM} {k : Nat} {v : Int32} (hk : 22 ≤ k) : mE (mS M k v) M := ⟨fun i hi => if_neg (by omega), fun _ _ => rfl⟩
theorem pkF_cong {ok ok' : Nat → Bool} {bt' bt9 : Nat → Nat → Bool} : ∀ {P : Nat}, (∀ t, t < P → ok t = ok' t) → (∀ t i, t < P → i < P → bt' t i = bt9 t i) → pkF ok bt' P = pkF ok' bt9 P
  | 0, _, _ => rfl
  | t + 1, h1, h2 => by
    have ih := pkF_cong (P := t) (fun i hi => h1 i (by omega)) (fun i j hi hj => h2 i j (by omega) (by omega))
    unfold pkF
    rw [ih, h1 t (by omega)]
    have hc : (pkF ok' bt9 t).toNatClampNeg < t + 1 := by
      rcases pkF_cases ok' bt9 t with e | ⟨i, hi, -, e⟩
      · rw [e]
        exact Nat.succ_pos _
      · rw [e]
        by_cases q : i < 2 ^ 31
        · rw [nI_clamp q]
          omega
        · have : (nI i).toNatClampNeg < 2 ^ 31 := by
            have := Int32.toInt_lt (nI i)
            show (nI i).toInt.toNat < _
            omega
          omega
    rw [h2 t _ (by omega) hc]
section MCONG
variable {M N : aM}
theorem mE.party (h : mE M N) {b : Nat} {x : Int32} (hb : b < 7) : partyN (tM M) b x = partyN (tM N) b x := by
  show (decide (M.2.1 (21 + b) 0 = x) || decide (M.2.1 (21 + b) 1 = x)) = (decide (N.2.1 (21 + b) 0 = x) || decide (N.2.1 (21 + b) 1 = x))
  rw [h.2 (21 + b) (by omega)]
theorem mE.gd (h : mE M N) {b t : Nat} (hb : b < 7) (ht : t < 7) : gd (tM M) b t = gd (tM N) b t := by
  have e1 := h.party (x := nI t) hb
  have e2 : lossN (tM M) b t = lossN (tM N) b t := by
    rw [t_loss ht, t_loss ht, h.2 (29 + b) (by omega)]
  have e3 : (tM M).1 2 = (tM N).1 2 := by
    show M.2.1 36 0 = N.2.1 36 0
    rw [h.2 36 (by omega)]
  show (decide (¬ lossN (tM M) b t < (tM M).1 2) && !partyN (tM M) b (nI t)) = (decide (¬ lossN (tM N) b t < (tM N).1 2) && !partyN (tM N) b (nI t))
  rw [e1, e2, e3]
theorem mE.val (h : mE M N) {b t : Nat} (hb : b < 7) (ht : t < 7) : valN (tM M) b t = valN (tM N) b t := by
  unfold valN
  rw [t_loss ht, t_loss ht, h.2 (29 + b) (by omega)]
  show M.2.1 (21 + b) 2 + M.2.1 (21 + b) 3 - _ = N.2.1 (21 + b) 2 + N.2.1 (21 + b) 3 - _
  rw [h.2 (21 + b) (by omega)]
theorem mE.may (h : mE M N) {b t : Nat} {x : Int32} (hb : b < 7) (ht : t < 7) : mayM M b t x = mayM N b t x := by
  unfold mayM
  rw [h.gd hb ht, h.2 36 (by omega)]
theorem mE.lt (h : mE M N) {b : Nat} (hb : b < 7) : ltM M b = ltM N b := by
  funext t i
  unfold ltM
  rw [h.2 (29 + b) (by omega)]
theorem mE.mild (h : mE M N) {b P : Nat} {x : Int32} (hb : b < 7) (hP : P ≤ 7) : mildM M b x P = mildM N b x P := by
  unfold mildM
  rw [h.lt hb]
  exact pkF_cong (fun t ht => h.may hb (by omega)) (fun _ _ _ _ => rfl)
theorem mE.mo (h : mE M N) {b P : Nat} {x : Int32} (hb : b < 7) (hP : P ≤ 7) : mildO M b x P = mildO N b x P := by
  unfold mildO
  rw [h.lt hb]
  refine pkF_cong (fun t ht => ?_) (fun _ _ _ _ => rfl)
  unfold onlM
  rw [h.gd hb (by omega)]
theorem mild_cases {b P : Nat} {x : Int32} : mildM M b x P = -1 ∨ ∃ i, i < P ∧ mildM M b x P = nI i := by
  rcases pkF_cases (fun t => mayM M b t x) (ltM M b) P with e | ⟨i, hi, -, e⟩
  · exact Or.inl e
  · exact Or.inr ⟨i, hi, e⟩
theorem mE.rd (h : mE M N) {b P a : Nat} {x : Int32} (hb : b < 7) (hP : P ≤ 7) : ∀ m i, i + m = P → rdM M b x a P m i = rdM N b x a P m i
  | 0, _, _ => rfl
  | m + 1, i, hi => by
    have ih := mE.rd h (x := x) (a := a) hb hP m (i + 1) (by omega)
    have hm : (a + i) % P < 7 := Nat.lt_of_lt_of_le (Nat.mod_lt _ (by omega)) hP
    unfold rdM
    rw [ih, h.may hb hm]
theorem mE.nam (h : mE M N) {b P kd a : Nat} {x : Int32} (hb : b < 7) (hP : P ≤ 7) : namM M P kd a b x = namM N P kd a b x := by
  have e1 := h.mild (x := x) hb hP
  have e3 : pkF (fun t => mayM M b t x) (fun t i => decide (M.2.1 18 i < M.2.1 18 t)) P = pkF (fun t => mayM N b t x) (fun t i => decide (N.2.1 18 i < N.2.1 18 t)) P := pkF_cong (fun t ht => h.may hb (by omega)) (fun t i _ _ => by rw [h.2 18 (by omega)])
  have e4 : pkF (fun t => mayM M b t x) (fun t i => decide (M.2.1 (29 + b) i < M.2.1 (29 + b) t)) P = pkF (fun t => mayM N b t x) (fun t i => decide (N.2.1 (29 + b) i < N.2.1 (29 + b) t)) P := pkF_cong (fun t ht => h.may hb (by omega)) (fun t i _ _ => by rw [h.2 (29 + b) (by omega)])
  have e2 : swM M b P (nI a) x = swM N b P (nI a) x := by
    unfold swM
    rw [e1]
    by_cases q : lt0 (nI a) (nI P) = true
    · obtain ⟨k, hk, e⟩ := lt0_of (by omega) q
      rw [e, nI_clamp (by omega), h.may hb (by omega)]
    · have q : lt0 (nI a) (nI P) = false := Bool.eq_false_iff.mpr q
      rw [q, Bool.false_and, Bool.false_and]
  have e5 : chM M b P (nI a) x = chM N b P (nI a) x := by
    unfold chM
    rw [e1]
    rcases mild_cases (M := N) (b := b) (P := P) (x := x) with e | ⟨i, hi, e⟩
    · rw [if_pos e, if_pos e]
    · rw [e, nI_clamp (by omega), h.val hb (by omega)]
  unfold namM
  rw [e1, e2, e3, e4, e5, h.rd hb hP P 0 (by omega)]
theorem nam_cases {b P kd a : Nat} {x : Int32} (hP : P ≤ 7) (h1 : 1 ≤ kd) (h6 : kd ≤ 6) : namM M P kd a b x = -1 ∨ ∃ i, i < P ∧ mayM M b i x = true ∧ namM M P kd a b x = nI i := by
  have cm : mildM M b x P = -1 ∨ ∃ i, i < P ∧ mayM M b i x = true ∧ mildM M b x P = nI i := pkF_cases _ _ P
  have cr : ∀ m i, i + m = P → rdM M b x a P m i = -1 ∨ ∃ j, j < P ∧ mayM M b j x = true ∧ rdM M b x a P m i = nI j := by
    intro m
    induction m with
    | zero => exact fun _ _ => Or.inl rfl
    | succ m ih =>
      intro i hi
      unfold rdM
      by_cases q : mayM M b ((a + i) % P) x = true
      · rw [if_pos q]
        exact Or.inr ⟨_, Nat.mod_lt _ (by omega), q, rfl⟩
      · rw [if_neg q]
        exact ih _ (by omega)
  unfold namM
  rcases (show kd = 1 ∨ kd = 2 ∨ kd = 3 ∨ kd = 4 ∨ kd = 5 ∨ kd = 6 by omega) with rfl | rfl | rfl | rfl | rfl | rfl
  · exact cm
  · rw [if_neg (by decide), if_pos rfl]
    unfold swM
    by_cases q : (lt0 (nI a) (nI P) && mayM M b (nI a).toNatClampNeg x) = true
    · rw [if_pos q]
      rw [Bool.and_eq_true] at q
      obtain ⟨k, hk, e⟩ := lt0_of (by omega) q.1
      rw [e, nI_clamp (by omega)] at q
      exact Or.inr ⟨k, hk, q.2, e⟩
    · rw [if_neg q]
      exact cm
  · exact pkF_cases _ _ P
  · exact pkF_cases _ _ P
  · rw [if_neg (by decide), if_neg (by decide), if_neg (by decide), if_neg (by decide), if_pos rfl]
    unfold chM
    by_cases q : mildM M b x P = -1
    · rw [if_pos q]
      exact cm
    · rw [if_neg q]
      split
      · exact Or.inl rfl
      · exact cm
  · exact cr P 0 (by omega)
end MCONG
