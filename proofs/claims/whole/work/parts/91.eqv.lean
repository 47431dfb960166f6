-- THE TWO SIDES: simple ones on the town
def Eqv (m : Int32 × aQ) (m2 : Int32 × aM) (M K : aM) : Prop := m.1 = m2.1 ∧ Rl m.2 m2.2 K ∧ m2.2.2.2.2 = M.2.2.2
def Cnt (Q : aQ) (M : aM) (P B : Nat) : Prop := P ≤ 7 ∧ B ≤ 7 ∧ Q.1.1 0 = nI P ∧ Q.1.1 1 = nI B ∧ M.1 10 = nI P ∧ M.1 13 = nI B ∧ (∀ c, c < B → ∃ p q, p < P ∧ q < P ∧ M.2.1 (21 + c) 0 = nI p ∧ M.2.1 (21 + c) 1 = nI q) ∧ nP Q = P ∧ nB Q = B
theorem Rl.cnt {Q : aQ} {M K : aM} (h : Rl Q M K) : ∃ P B, Cnt Q M P B := by
  obtain ⟨h0, -, -, -, -, hq, -⟩ := h
  obtain ⟨P, B, hP, hP7, hB, hB7, hI⟩ := hq.1
  obtain ⟨t1, t2, -, -, -, t8, -⟩ := h0
  refine ⟨P, B, hP7, hB7, hP, hB, t1.symm.trans hP, t2.symm.trans hB, fun c hc => ?_, nP_eq hP hP7, nB_eq hB hB7⟩
  obtain ⟨p, q, hp, hq, ep, eq⟩ := hI c hc
  have e0 : Q.1.2 2 c = M.2.1 (21 + c) 0 := t8 0 c (by decide) (by omega)
  have e1 : Q.1.2 3 c = M.2.1 (21 + c) 1 := t8 1 c (by decide) (by omega)
  exact ⟨p, q, hp, hq, e0.symm.trans ep, e1.symm.trans eq⟩
theorem Cnt.pm {Q : aQ} {M : aM} {P B : Nat} (h : Cnt Q M P B) : PMk M B := fun c hc => by
  obtain ⟨p, q, hp, hq, ep, eq⟩ := h.2.2.2.2.2.2.1 c hc
  have := h.1
  exact ⟨p, q, by omega, by omega, ep, eq⟩
section EQV
variable {Q : aQ} {M K : aM} {P B : Nat}
theorem eqv_id {v : Int32} (h : Rl Q M K) : Eqv (v, Q) (v, M) M K := ⟨rfl, h, rfl⟩
theorem eqv_v {v v2 : Int32} (h : Rl Q M K) (e : v = v2) : Eqv (v, Q) (v2, M) M K := ⟨e, h, rfl⟩
theorem eqv_r {i : Nat} (h : Rl Q M K) (h2 : 2 ≤ i) (h6 : i ≤ 6) : Eqv (rfz Q (-nI i)) (-nI i, mR M i) M K := ⟨rfl, h.rf h2 h6, rfl⟩
theorem eqv_b {i : Nat} (h : Rl Q M K) (h2 : 2 ≤ i) (h6 : i ≤ 6) : Eqv (rfb Q (-nI i)) (-1000000 + -nI i, mR M i) M K := ⟨rfl, h.rf h2 h6, rfl⟩
theorem eqv_2 (h : Rl Q M K) : Eqv (rfz Q (-2)) (-2, mR M 2) M K := eqv_r (i := 2) h (by decide) (by decide)
theorem eqv_5 (h : Rl Q M K) : Eqv (rfz Q (-5)) (-5, mR M 5) M K := eqv_r (i := 5) h (by decide) (by decide)
theorem eqv_6 (h : Rl Q M K) : Eqv (rfz Q (-6)) (-6, mR M 6) M K := eqv_r (i := 6) h (by decide) (by decide)
theorem eqv_b2 (h : Rl Q M K) : Eqv (rfb Q (-2)) (-1000000 + -2, mR M 2) M K := eqv_b (i := 2) h (by decide) (by decide)
theorem eqv_b5 (h : Rl Q M K) : Eqv (rfb Q (-5)) (-1000000 + -5, mR M 5) M K := eqv_b (i := 5) h (by decide) (by decide)
theorem eqv_never (h : Rl Q M K) (hQ : Q.1 = tM M) (hC : Cnt Q M P B) : Eqv (m_never Q) (bitsOf (fun b => decide (bitsOf (gd (tM M) b) P = 0)) B, M) M K := by
  obtain ⟨hP7, hB7, hP, hB, hPM, hBM, hI, eP, eB⟩ := hC
  unfold m_never
  rw [eP, eB, hQ]
  exact eqv_id h
theorem eqv_alone {i : Int32} (h : Rl Q M K) (hQ : Q.1 = tM M) (hC : Cnt Q M P B) : Eqv (m_alone Q i) (m2_alone M P B i) M K := by
  obtain ⟨hP7, hB7, hP, hB, hPM, hBM, hI, eP, eB⟩ := hC
  unfold m_alone m2_alone
  rw [hP, hPM, eP, eB, hQ]
  split
  · exact eqv_id h
  · exact eqv_2 h
theorem eqv_party {i : Int32} (h : Rl Q M K) (hQ : Q.1 = tM M) (hC : Cnt Q M P B) : Eqv (m_party Q i) (m2_party M P B i) M K := by
  obtain ⟨hP7, hB7, hP, hB, hPM, hBM, hI, eP, eB⟩ := hC
  unfold m_party m2_party
  rw [hP, hPM, eB, hQ]
  split
  · exact eqv_id h
  · exact eqv_2 h
theorem eqv_good {b : Int32} (h : Rl Q M K) (hQ : Q.1 = tM M) (hC : Cnt Q M P B) : Eqv (m_good Q b) (m2_good M b) M K := by
  obtain ⟨hP7, hB7, hP, hB, hPM, hBM, hI, eP, eB⟩ := hC
  unfold m_good m2_good
  rw [hB, hBM, hPM, eP, hQ, nI_clamp (by omega)]
  split
  · exact eqv_id h
  · exact eqv_2 h
theorem eqv_value {b t : Int32} (h : Rl Q M K) (hQ : Q.1 = tM M) (hC : Cnt Q M P B) : Eqv (m_value Q b t) (m2_value M b t) M K := by
  obtain ⟨hP7, hB7, hP, hB, hPM, hBM, hI, eP, eB⟩ := hC
  unfold m_value m2_value
  rw [hB, hBM, hP, hPM, hQ]
  split
  · split
    · exact eqv_id h
    · exact eqv_b5 h
  · exact eqv_b2 h
theorem eqv_lossOf {b t : Int32} (h : Rl Q M K) (hC : Cnt Q M P B) : Eqv (m_lossOf Q b t) (m2_lossOf M b t) M K := by
  obtain ⟨hP7, hB7, hP, hB, hPM, hBM, hI, eP, eB⟩ := hC
  unfold m_lossOf m2_lossOf
  rw [hB, hBM, hP, hPM]
  by_cases q : (lt0 b (nI B) && lt0 t (nI P)) = true
  · rw [if_pos q, if_pos q]
    rw [Bool.and_eq_true] at q
    obtain ⟨b, hb, rfl⟩ := lt0_of (by omega) q.1
    obtain ⟨t, ht, rfl⟩ := lt0_of (by omega) q.2
    rw [nI_clamp (by omega), nI_clamp (by omega)]
    exact eqv_v h (h.1.2.2.2.2.2.2 b t (by omega) (by omega))
  · rw [if_neg q, if_neg q]
    exact eqv_b2 h
theorem eqv_standing {t : Int32} (h : Rl Q M K) (hC : Cnt Q M P B) : Eqv (m_standing Q t) (m2_standing M t) M K := by
  obtain ⟨hP7, hB7, hP, hB, hPM, hBM, hI, eP, eB⟩ := hC
  unfold m_standing m2_standing
  rw [hP, hPM]
  by_cases q : lt0 t (nI P) = true
  · rw [if_pos q, if_pos q]
    obtain ⟨t, ht, rfl⟩ := lt0_of (by omega) q
    rw [nI_clamp (by omega)]
    exact eqv_v h (h.1.2.2.2.2.1 t (by omega)).1
  · rw [if_neg q, if_neg q]
    exact eqv_b2 h
theorem eqv_named {t : Int32} (h : Rl Q M K) (hC : Cnt Q M P B) : Eqv (m_named Q t) (m2_named M t) M K := by
  obtain ⟨hP7, hB7, hP, hB, hPM, hBM, hI, eP, eB⟩ := hC
  unfold m_named m2_named
  rw [hP, hPM]
  by_cases q : lt0 t (nI P) = true
  · rw [if_pos q, if_pos q]
    obtain ⟨t, ht, rfl⟩ := lt0_of (by omega) q
    rw [nI_clamp (by omega)]
    exact eqv_v h (h.1.2.2.2.2.1 t (by omega)).2
  · rw [if_neg q, if_neg q]
    exact eqv_2 h
theorem eqv_bargainOf {b k : Int32} (h : Rl Q M K) (hC : Cnt Q M P B) : Eqv (m_bargainOf Q b k) (m2_bargainOf M b k) M K := by
  obtain ⟨hP7, hB7, hP, hB, hPM, hBM, hI, eP, eB⟩ := hC
  unfold m_bargainOf m2_bargainOf
  rw [hB, hBM]
  by_cases q : lt0 b (nI B) = true
  · rw [if_pos q, q, Bool.true_and]
    by_cases q2 : lt0 k 5 = true
    · rw [if_pos q2, if_pos q2]
      obtain ⟨b, hb, rfl⟩ := lt0_of (by omega) q
      obtain ⟨k, hk, rfl⟩ := lt0_of (N := 5) (by decide) q2
      rw [nI_clamp (by omega), nI_clamp (by omega)]
      exact eqv_v h (h.1.2.2.2.2.2.1 k b hk (by omega))
    · rw [if_neg q2, if_neg q2]
      exact eqv_2 h
  · rw [if_neg q, if_neg (fun z => q (Bool.and_eq_true _ _ ▸ z).1)]
    exact eqv_2 h
/-- a moved town -/
theorem eqv_t {v v2 : Int32} {S : aS} {N : aM} (h : Rl Q M K) (e : v = v2) (hT : TQ S N) (h1 : ∀ j, j < 18 → N.2.1 j = M.2.1 j) (h8 : N.1 8 = M.1 8) (h2 : N.2.2 = M.2.2) (hq : QOk (qT Q S)) (hv : VOk S) : Eqv (v, qT Q S) (v2, N) M K := ⟨e, h.tw hT h1 h8 h2 hq hv, congrArg Prod.snd h2⟩
theorem eqv_seed {v : Int32} (h : Rl Q M K) : Eqv (m_seed Q v) (m2_seed M v) M K := by
  obtain ⟨h1, h2, h3, ⟨h4, h5, h6⟩, h7, h8, h9⟩ := id h.1
  unfold m_seed m2_seed
  refine eqv_t (N := mS M 19 v) h h4 ⟨h1, h2, fun k hk => ?_, ⟨rfl, h5, h6⟩, h7, h8, h9⟩ (fun _ _ => rfl) rfl rfl (ok_seed (v := v) h.2.2.2.2.2.1) h.2.2.2.2.2.2
  have e : (upS Q.1 6 v).1 (2 + k) = Q.1.1 (2 + k) := if_neg (by omega)
  rw [e]
  exact h3 k hk
theorem VOk.loss {S : aS} {P B b c : Nat} {x : Int32} (h : VOk S) (hP : S.1 0 = nI P) (hP7 : P ≤ 7) (hB : S.1 1 = nI B) (hB7 : B ≤ 7) (hb : b < B) (hc : c < P) (hx : -99 ≤ x.toInt ∧ x.toInt ≤ 99) : VOk (putLS S (nI b) (nI c) x) := by
  obtain ⟨⟨P', B', hP', hP7', hB', hB7', hz⟩, h2, h3, h4⟩ := h
  have e1 : P' = P := (nI_eq (by omega) (by omega)).mp (hP'.symm.trans hP)
  have e2 : B' = B := (nI_eq (by omega) (by omega)).mp (hB'.symm.trans hB)
  subst e1
  subst e2
  refine ⟨⟨P', B', hP, hP7, hB, hB7, hz.loss hb hc hB7 hP7⟩, h2, fun i t hi ht => ?_, h4⟩
  rw [loss_put (by omega) (by omega) ht]
  split
  · exact hx
  · exact h3 i t hi ht
theorem eqv_hurts {b t v : Int32} (h : Rl Q M K) (hC : Cnt Q M P B) : Eqv (m_hurts Q b t v) (m2_hurts M b t v) M K := by
  have hok := ok_hurts (b := b) (i := t) (v := v) h.2.2.2.2.2.1
  obtain ⟨hP7, hB7, hP, hB, hPM, hBM, hI, eP, eB⟩ := hC
  unfold m_hurts m2_hurts at *
  rw [hB, hP] at hok ⊢
  rw [hBM, hPM]
  by_cases q : (lt0 b (nI B) && lt0 t (nI P) && wi0 v (-99) 99) = true
  · rw [if_pos q] at hok ⊢
    rw [if_pos (by rw [← Bool.and_assoc]; exact q)]
    simp only [Bool.and_eq_true] at q
    obtain ⟨b, hb, rfl⟩ := lt0_of (by omega) q.1.1
    obtain ⟨t, ht, rfl⟩ := lt0_of (by omega) q.1.2
    have hv := of_decide_eq_true q.2
    rw [Int32.lt_iff_toInt_lt, Int32.lt_iff_toInt_lt, show (-99 : Int32).toInt = -99 from rfl, show (99 : Int32).toInt = 99 from rfl] at hv
    rw [nI_clamp (by omega), nI_clamp (by omega)]
    exact eqv_t h rfl (h.1.loss (by omega) (by omega)) (fun j hj => mA_ne (by omega)) rfl rfl hok (h.2.2.2.2.2.2.loss hP hP7 hB hB7 hb ht ⟨by omega, by omega⟩)
  · rw [if_neg q, if_neg (fun z => q (by rw [Bool.and_assoc]; exact z))]
    exact eqv_2 h
theorem VOk.law {S : aS} {c : Nat} {x : Int32} (h : VOk S) (hc : c < 4) (hx : wi0 x (if nI c = 0 then 1 else 0) (mostN c) = true) : VOk (upS S (2 + c) x) := by
  obtain ⟨⟨P, B, hP, hP7, hB, hB7, hz⟩, h2, h3, h4, h5, h6, h7, h8⟩ := h
  have hx := of_decide_eq_true hx
  rw [Int32.lt_iff_toInt_lt, Int32.lt_iff_toInt_lt] at hx
  have ne : ∀ k, ¬ k = 2 + c → (upS S (2 + c) x).1 k = S.1 k := fun k hk => if_neg hk
  have eq : (upS S (2 + c) x).1 (2 + c) = x := if_pos rfl
  refine ⟨⟨P, B, (ne 0 (by omega)).trans hP, hP7, (ne 1 (by omega)).trans hB, hB7, hz⟩, h2, h3, ?_, ?_, ?_, ?_, h8⟩
  · rcases (show c = 0 ∨ ¬ c = 0 by omega) with rfl | q
    · rw [eq]
      have : (if nI 0 = 0 then (1 : Int32) else 0).toInt = 1 := by decide
      have : (mostN 0).toInt = 99 := by decide
      omega
    · rw [ne 2 (by omega)]
      exact h4
  · rcases (show c = 1 ∨ ¬ c = 1 by omega) with rfl | q
    · rw [eq]
      have : (if nI 1 = 0 then (1 : Int32) else 0).toInt = 0 := by decide
      have : (mostN 1).toInt = 1 := by decide
      rcases (show x.toInt = 0 ∨ x.toInt = 1 by omega) with q | q
      · exact Or.inl (Int32.toInt_inj.mp q)
      · exact Or.inr (Int32.toInt_inj.mp q)
    · rw [ne 3 (by omega)]
      exact h5
  · rcases (show c = 2 ∨ ¬ c = 2 by omega) with rfl | q
    · rw [eq]
      have : (if nI 2 = 0 then (1 : Int32) else 0).toInt = 0 := by decide
      have : (mostN 2).toInt = 10 := by decide
      omega
    · rw [ne 4 (by omega)]
      exact h6
  · rcases (show c = 3 ∨ ¬ c = 3 by omega) with rfl | q
    · rw [eq]
      have : (if nI 3 = 0 then (1 : Int32) else 0).toInt = 0 := by decide
      have : (mostN 3).toInt = 999 := by decide
      omega
    · rw [ne 5 (by omega)]
      exact h7
theorem eqv_ask {k v : Int32} (h : Rl Q M K) : Eqv (m_ask Q k v) (m2_ask M k v) M K := by
  have hok := ok_ask (k := k) (v := v) h.2.2.2.2.2.1
  unfold m_ask m2_ask at *
  by_cases q : (lt0 k 4 && wi0 v (if k = 0 then 1 else 0) (mostN k.toNatClampNeg)) = true
  · rw [if_pos q] at hok ⊢
    rw [if_pos q]
    rw [Bool.and_eq_true] at q
    obtain ⟨k, hk, rfl⟩ := lt0_of (N := 4) (by decide) q.1
    have q2 := q.2
    rw [nI_clamp (by omega)] at q2 hok ⊢
    exact eqv_t h (h.1.2.2.1 k hk) (h.1.law hk) (fun j hj => mA_ne (by omega)) rfl rfl hok (h.2.2.2.2.2.2.law hk q2)
  · rw [if_neg q, if_neg q]
    exact eqv_2 h
theorem VOk.one {S : aS} {P B : Nat} (h : VOk S) (hP : S.1 0 = nI P) (hP6 : P < 7) : VOk (upS S 0 (S.1 0 + 1)) := by
  obtain ⟨⟨P', B', hP', hP7', hB', hB7', hz⟩, h2⟩ := h
  have e1 : P' = P := (nI_eq (by omega) (by omega)).mp (hP'.symm.trans hP)
  subst e1
  refine ⟨⟨P' + 1, B', ?_, by omega, hB', hB7', hz.one⟩, h2⟩
  show S.1 0 + 1 = nI (P' + 1)
  rw [hP, nI_1]
theorem Rl.zb (h : Rl Q M K) (hC : Cnt Q M P B) : ZB Q.1 P B := by
  obtain ⟨P', B', hP', hP7', hB', hB7', hz⟩ := h.2.2.2.2.2.2.1
  have e1 : P' = P := (nI_eq (by omega) (by have := hC.1; omega)).mp (hP'.symm.trans hC.2.2.1)
  have e2 : B' = B := (nI_eq (by omega) (by have := hC.2.1; omega)).mp (hB'.symm.trans hC.2.2.2.1)
  subst e1
  subst e2
  exact hz
theorem eqv_one (h : Rl Q M K) (hC : Cnt Q M P B) : Eqv (m_one Q) (m2_one M P) M K := by
  have hok := ok_one h.2.2.2.2.2.1
  have hz := h.zb hC
  obtain ⟨hP7, hB7, hP, hB, hPM, hBM, hI, eP, eB⟩ := hC
  unfold m_one m2_one at *
  by_cases q : P = 7
  · rw [if_pos q, if_neg (by rw [hP, q]; decide)]
    exact eqv_6 h
  · have q2 : Q.1.1 0 < 7 := by
      rw [hP]
      exact nI_lt (b := 7) (by omega) (by decide)
    rw [if_pos q2] at hok ⊢
    rw [if_neg q]
    refine eqv_t h ?_ (h.1.one hz hP (by omega)) (fun j hj => ?_) rfl rfl hok (h.2.2.2.2.2.2.one (B := B) hP (by omega))
    · rw [hP]
      exact Int32.add_sub_cancel _ _
    · exact (if_neg (by omega)).trans ((mA_ne (by omega)).trans (mA_ne (by omega)))
end EQV
