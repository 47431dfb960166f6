-- SEARCH: the table is the greatest
section SRCT
variable {S : aS} {B : Nat} {who fl : Int32} {U : Nat → Nat → Int} {C : Nat → Int}
theorem kyT_bd {f : Nat → Nat} (hU : ∀ c b, -2199023255552 ≤ U c b ∧ U c b ≤ 2199023255552) (hC : ∀ c, 0 ≤ C c ∧ C c ≤ 1024) : -17592186044416 ≤ kyT U C f ∧ kyT U C f ≤ 17592186044416 := by
  have h1 := ky_bd (f := f) hU 7
  have h2 := co_bd (f := f) hC 7
  unfold kyT
  omega
theorem Wp_usd {c j : Nat} {f : Nat → Nat} (h : Wp S who c j f) : usdN f c 7 = false := by
  cases q : usdN f c 7
  · rfl
  · obtain ⟨b, hb, e⟩ := (usd_iff 7).mp q
    have := (h.2.2.1 b (by omega)).1
    omega
theorem Np_usd {c j : Nat} {f : Nat → Nat} (hj : j < 128) (h : Np S who c j f) : usdN f c 7 = true := by
  obtain ⟨⟨h1, -⟩, b, hb⟩ := h
  refine (usd_iff 7).mpr ⟨b, Nat.lt_of_not_le (fun z => ?_), hb⟩
  have := (h1 b).mpr (test_big (B := 7) hj z)
  omega
/-- one third taken on at one more bargain -/
theorem one_G {c j b : Nat} {x y ky : Int64} {cost oft : Int32} (hU : ∀ c b, -2199023255552 ≤ U c b ∧ U c b ≤ 2199023255552) (hC : ∀ c, 0 ≤ C c ∧ C c ≤ 1024) (hj : j < 128) (hb : b < 7) (hjb : j.testBit b = true) (hc : c < 7) (hoft : oft = if S.1 3 = 0 then 1 else 0) (ek : ky.toInt = U c b) (ec : cost.toInt64.toInt = C c) (hx : Gk (kyT U C) x (Wp S who c (clrB j b)) (2 * pcN (clrB j b) 7)) (hy : Gk (kyT U C) y (Np S who c (clrB j b)) (2 * pcN (clrB j b) 7)) : Gk (kyT U C) ((if oft = 0 then x - cost.toInt64 else mx (x - cost.toInt64) y) + ky) (fun f => ∃ g, (Wp S who c (clrB j b) g ∨ (S.1 3 = 0 ∧ Np S who c (clrB j b) g)) ∧ f = upn g b (c + 1)) (2 * pcN j 7) := by
  have hpc := pc_clr j hj b hb hjb
  have hp7 := pc_le j 7
  have hl : clrB j b < 128 := Nat.lt_of_le_of_lt (clrB_le j b) hj
  have hz : ∀ g, (Wp S who c (clrB j b) g ∨ Np S who c (clrB j b) g) → g b = 0 := by
    intro g hg
    have hb0 : (clrB j b).testBit b = false := by
      rw [clr_tb' hj hb, decide_eq_true rfl]
      exact Bool.and_false _
    rcases hg with hg | hg
    · exact (hg.1 b).mpr hb0
    · exact (hg.1.1 b).mpr hb0
  have kup : ∀ g, g b = 0 → kyT U C (upn g b (c + 1)) = kyT U C g + U c b - (if usdN g c 7 = true then 0 else C c) := fun g hg => key_up hg hb hc
  have hCc := hC c
  have hUc := hU c b
  let k1 : (Nat → Nat) → Int := fun g => kyT U C (upn g b (c + 1)) - U c b
  have e1 : ∀ g, k1 g = kyT U C (upn g b (c + 1)) - U c b := fun _ => rfl
  have eneg : (-cost.toInt64).toInt = -(C c) := by
    rw [Int64.toInt_neg, ec, Int.bmod_eq_of_le (by omega) (by omega)]
  have h1 : Gk k1 (x - cost.toInt64) (Wp S who c (clrB j b)) (2 * pcN (clrB j b) 7 + 1) := by
    rw [Int64.sub_eq_add_neg]
    have hr : ∀ g, Wp S who c (clrB j b) g → k1 g = kyT U C g + (-cost.toInt64).toInt := by
      intro g hg
      rw [e1, kup g (hz g (Or.inl hg)), Wp_usd hg, if_neg (by decide), eneg]
      omega
    exact hx.sh (by omega) (by omega) (fun f _ => by have := kyT_bd (f := f) hU hC; omega) (fun f hf => ⟨f, hf, hr f hf⟩) (fun g hg => ⟨g, hg, hr g hg⟩)
  have fin : ∀ {z : Int64} {F : (Nat → Nat) → Prop}, Gk k1 z F (2 * pcN (clrB j b) 7 + 1) → (∀ g, F g → Wp S who c (clrB j b) g ∨ Np S who c (clrB j b) g) → Gk (kyT U C) (z + ky) (fun f => ∃ g, F g ∧ f = upn g b (c + 1)) (2 * pcN j 7) := by
    intro z F h hF
    have := h.sh (k' := kyT U C) (d := ky) (E := fun f => ∃ g, F g ∧ f = upn g b (c + 1)) (by omega) (by rw [ek]; omega) (fun f hf => by
      have := kyT_bd (f := upn f b (c + 1)) hU hC
      rw [e1]
      omega) (fun f ⟨g, hg, e⟩ => ⟨g, hg, by rw [e, e1, ek]; omega⟩) (fun g hg => ⟨_, ⟨g, hg, rfl⟩, by rw [e1, ek]; omega⟩)
    exact this.mono (by omega)
  by_cases q : S.1 3 = 0
  · rw [hoft, if_pos q, if_neg (by decide)]
    have h2 : Gk k1 y (Np S who c (clrB j b)) (2 * pcN (clrB j b) 7 + 1) := by
      refine ⟨fun f hf => ?_, ?_⟩
      · have := hy.1 f hf
        rw [e1, kup f (hz f (Or.inr hf)), Np_usd hl hf, if_pos rfl]
        omega
      · rcases hy.2 with ⟨f, hf, e⟩ | z
        · refine Or.inl ⟨f, hf, ?_⟩
          rw [e1, kup f (hz f (Or.inr hf)), Np_usd hl hf, if_pos rfl]
          omega
        · exact Or.inr ⟨by have := z.1; omega, by have := z.2; omega⟩
    have h3 := fin (h1.un (E := fun g => Wp S who c (clrB j b) g ∨ (S.1 3 = 0 ∧ Np S who c (clrB j b) g)) h2 (fun f => ⟨fun z => z.elim Or.inl (fun y => Or.inr y.2), fun z => z.elim Or.inl (fun y => Or.inr ⟨q, y⟩)⟩)) (fun g hg => hg.elim Or.inl (fun y => Or.inr y.2))
    exact h3
  · rw [hoft, if_neg q, if_pos rfl]
    have h3 := fin h1 (fun g hg => Or.inl hg)
    refine ⟨fun f ⟨g, hg, e⟩ => h3.1 f ⟨g, hg.elim id (fun y => absurd y.1 q), e⟩, ?_⟩
    rcases h3.2 with ⟨f, ⟨g, hg, e⟩, e2⟩ | z
    · exact Or.inl ⟨f, ⟨g, Or.inl hg, e⟩, e2⟩
    · exact Or.inr z
theorem acc_G {c j : Nat} {way ky : Nat → Int64} {o : Nat} {E : Nat → (Nat → Nat) → Prop} {n : Nat} (h : ∀ b, b < 7 → o.testBit b = true → Gk (kyT U C) (way b + ky b) (E b) n) : ∀ m, m ≤ 7 → Gk (kyT U C) (accF o way ky m) (fun f => ∃ b, b < m ∧ o.testBit b = true ∧ E b f) n
  | 0, _ => by
    refine ⟨fun f ⟨b, hb, _⟩ => absurd hb (by omega), Or.inr ?_⟩
    exact ⟨by show _ ≤ (-4611686018427387904 : Int); omega, by show (-4611686018427387904 : Int) ≤ _; omega⟩
  | m + 1, hm => by
    have ih := acc_G (c := c) (j := j) h m (by omega)
    have e : accF o way ky (m + 1) = if o.testBit m then mx (accF o way ky m) (way m + ky m) else accF o way ky m := rfl
    rw [e]
    by_cases q : o.testBit m = true
    · rw [if_pos q]
      refine ih.un (h m (by omega) q) (fun f => ⟨?_, ?_⟩)
      · rintro ⟨b, hb, h1, h2⟩
        by_cases z : b = m
        · exact Or.inr (z ▸ h2)
        · exact Or.inl ⟨b, by omega, h1, h2⟩
      · rintro (⟨b, hb, h1, h2⟩ | h2)
        · exact ⟨b, by omega, h1, h2⟩
        · exact ⟨m, by omega, q, h2⟩
    · rw [if_neg q]
      have eq : ∀ f, (∃ b, b < m + 1 ∧ o.testBit b = true ∧ E b f) ↔ ∃ b, b < m ∧ o.testBit b = true ∧ E b f := by
        intro f
        constructor
        · rintro ⟨b, hb, h1, h2⟩
          have : ¬ b = m := fun z => q (z ▸ h1)
          exact ⟨b, by omega, h1, h2⟩
        · rintro ⟨b, hb, h1, h2⟩
          exact ⟨b, by omega, h1, h2⟩
      exact ⟨fun f hf => ih.1 f ((eq f).mp hf), ih.2.elim (fun ⟨f, hf, e⟩ => Or.inl ⟨f, (eq f).mpr hf, e⟩) Or.inr⟩
theorem nm_G {c : Nat} {wy ky : Nat → Int64} {cost oft : Int32} (hU : ∀ c b, -2199023255552 ≤ U c b ∧ U c b ≤ 2199023255552) (hC : ∀ c, 0 ≤ C c ∧ C c ≤ 1024) (hB7 : B ≤ 7) (hc : c < 7) (hw : hbI who (nI c) = true) (hoft : oft = if S.1 3 = 0 then 1 else 0) (ek : ∀ b, b < 7 → (ky b).toInt = U c b) (ec : cost.toInt64.toInt = C c) (hx : ∀ j, j < 2 ^ B → Gk (kyT U C) (wy j) (Wp S who c j) (2 * pcN j 7)) : ∀ i, i ≤ 2 ^ B → ∀ j, j < i → Gk (kyT U C) (nmT (apS S) (gdN S B c B) cost oft ky wy i j) (Np S who c j) (2 * pcN j 7)
  | 0, _, j, hj => absurd hj (by omega)
  | i + 1, hi, j, hj => by
    have ih := nm_G hU hC hB7 hc hw hoft ek ec hx i (by omega)
    have h128 := pow7 hB7
    by_cases q : j = i
    · subst q
      have e : nmT (apS S) (gdN S B c B) cost oft ky wy (j + 1) j = accF (opF (apS S) (gdN S B c B) j) (fun b => wayF wy cost oft (nmT (apS S) (gdN S B c B) cost oft ky wy j) (clrB j b)) ky 7 := if_pos rfl
      rw [e]
      generalize nmT (apS S) (gdN S B c B) cost oft ky wy j = T at *
      have h9 := acc_G (U := U) (C := C) (c := c) (j := j) (o := opF (apS S) (gdN S B c B) j) (way := fun b => wayF wy cost oft T (clrB j b)) (ky := ky) (E := fun b f => ∃ g, (Wp S who c (clrB j b) g ∨ (S.1 3 = 0 ∧ Np S who c (clrB j b) g)) ∧ f = upn g b (c + 1)) (n := 2 * pcN j 7) (fun b hb hob => by
        have ho := (opF_tb (by omega)).mp hob
        have hl : clrB j b < j := (tabC j (by omega) b hb ho.2.1).2
        exact one_G hU hC (by omega) hb ho.2.1 hc hoft (ek b hb) ec (hx _ (by omega)) (ih _ hl)) 7 (Nat.le_refl _)
      have eq : ∀ f, Np S who c j f ↔ ∃ b, b < 7 ∧ (opF (apS S) (gdN S B c B) j).testBit b = true ∧ ∃ g, (Wp S who c (clrB j b) g ∨ (S.1 3 = 0 ∧ Np S who c (clrB j b) g)) ∧ f = upn g b (c + 1) := by
        intro f
        rw [Np_iff (by omega) hw]
        constructor
        · rintro ⟨b, hb, h1, h2⟩
          exact ⟨b, hb, (opF_tb (by omega)).mpr h1, h2⟩
        · rintro ⟨b, hb, h1, h2⟩
          exact ⟨b, hb, (opF_tb (by omega)).mp h1, h2⟩
      exact ⟨fun f hf => h9.1 f ((eq f).mp hf), h9.2.elim (fun ⟨f, hf, e⟩ => Or.inl ⟨f, (eq f).mpr hf, e⟩) Or.inr⟩
    · have e : nmT (apS S) (gdN S B c B) cost oft ky wy (i + 1) j = nmT (apS S) (gdN S B c B) cost oft ky wy i j := if_neg q
      rw [e]
      exact ih j (by omega)
theorem Wp_s {c j : Nat} {f : Nat → Nat} : Wp S who (c + 1) j f ↔ Wp S who c j f ∨ Np S who c j f := by
  constructor
  · intro h
    by_cases q : ∃ i, f i = c + 1
    · exact Or.inr ⟨h, q⟩
    · refine Or.inl ⟨h.1, h.2.1, fun i hi => ⟨?_, (h.2.2.1 i hi).2⟩, h.2.2.2⟩
      have h1 := (h.2.2.1 i hi).1
      have : ¬ f i = c + 1 := fun e => q ⟨i, e⟩
      omega
  · rintro (h | h)
    · exact ⟨h.1, h.2.1, fun i hi => ⟨Nat.le_succ_of_le (h.2.2.1 i hi).1, (h.2.2.1 i hi).2⟩, h.2.2.2⟩
    · exact h.1
theorem wy_G (hU : ∀ c b, -2199023255552 ≤ U c b ∧ U c b ≤ 2199023255552) (hC : ∀ c, 0 ≤ C c ∧ C c ≤ 1024) (hB7 : B ≤ 7) (ek : ∀ c b, c < 7 → b < 7 → (keyF S c fl b).toInt = U c b) (ec : ∀ c, c < 7 → (costT fl c).toInt64.toInt = C c) : ∀ c, c ≤ 7 → ∀ j, j < 2 ^ B → Gk (kyT U C) (wyT S B who fl c j) (Wp S who c j) (2 * pcN j 7)
  | 0, _, j, hj => by
    have h128 := pow7 hB7
    show Gk (kyT U C) (if j = 0 then 0 else NOW) _ _
    by_cases q : j = 0
    · subst q
      rw [if_pos rfl]
      have hk0 : ∀ f : Nat → Nat, (∀ i, f i = 0) → kyT U C f = 0 := by
        intro f hf
        have : f = fun _ => 0 := funext hf
        subst this
        have hz : ∀ m, kyI U (fun _ => 0) m = 0 := by
          intro m
          induction m with
          | zero => rfl
          | succ m ih =>
            show kyI U (fun _ => 0) m + (if (0 : Nat) = 0 then 0 else U (0 - 1) m) = 0
            rw [ih, if_pos rfl]
            rfl
        have hu : ∀ c, usdN (fun _ => 0) c 7 = false := by
          intro c
          cases z : usdN (fun _ => 0) c 7
          · rfl
          · obtain ⟨b, _, e⟩ := (usd_iff 7).mp z
            omega
        have hz2 : ∀ m, coI C (fun _ => 0) m = 0 := by
          intro m
          induction m with
          | zero => rfl
          | succ m ih =>
            show coI C (fun _ => 0) m + (if usdN (fun _ => 0) m 7 = true then C m else 0) = 0
            rw [ih, hu, if_neg (by decide)]
            rfl
        show kyI U (fun _ => 0) 7 - coI C (fun _ => 0) 7 = 0
        rw [hz, hz2]
        rfl
      refine ⟨fun f hf => ?_, Or.inl ⟨fun _ => 0, ⟨fun i => ⟨fun _ => Nat.zero_testBit i, fun _ => rfl⟩, apS_0, fun i hi => absurd rfl hi, Or.inr (fun i k hi _ => absurd rfl hi)⟩, ?_⟩⟩
      · rw [hk0 f (fun i => (hf.1 i).mpr (Nat.zero_testBit i))]
        decide
      · rw [hk0 _ (fun _ => rfl)]
        rfl
    · rw [if_neg q]
      refine ⟨fun f hf => ?_, Or.inr ⟨by show _ ≤ (-4611686018427387904 : Int); omega, by show (-4611686018427387904 : Int) ≤ _; omega⟩⟩
      exfalso
      refine q (Nat.eq_of_testBit_eq (fun i => ?_))
      rw [Nat.zero_testBit]
      refine (hf.1 i).mp (Classical.byContradiction (fun z => ?_))
      have := (hf.2.2.1 i z).1
      omega
  | c + 1, hc, j, hj => by
    have ih := wy_G hU hC hB7 ek ec c (by omega)
    have e : wyT S B who fl (c + 1) = if hbI who (nI c) then (fun j => mx (wyT S B who fl c j) (nmT (apS S) (gdN S B c B) (costT fl c) (oftF S) (keyF S c fl) (wyT S B who fl c) (2 ^ B) j)) else wyT S B who fl c := rfl
    rw [e]
    by_cases q : hbI who (nI c) = true
    · rw [if_pos q]
      exact (ih j hj).un (nm_G hU hC hB7 (by omega) q rfl (ek c · (by omega)) (ec c (by omega)) ih (2 ^ B) (Nat.le_refl _) j hj) (fun f => Wp_s)
    · rw [if_neg q]
      have eq : ∀ f, Wp S who (c + 1) j f ↔ Wp S who c j f := by
        intro f
        rw [Wp_s]
        constructor
        · rintro (h | ⟨h, i, hi⟩)
          · exact h
          · have := (h.2.2.1 i (by omega)).2.1
            rw [hi, Nat.add_sub_cancel] at this
            exact absurd this q
        · exact Or.inl
      have h9 := ih j hj
      exact ⟨fun f hf => h9.1 f ((eq f).mp hf), h9.2.elim (fun ⟨f, hf, e⟩ => Or.inl ⟨f, (eq f).mpr hf, e⟩) Or.inr⟩
/-- the greatest key, and who has it -/
theorem gk_spec {P : Nat} (hU : ∀ c b, -2199023255552 ≤ U c b ∧ U c b ≤ 2199023255552) (hC : ∀ c, 0 ≤ C c ∧ C c ≤ 1024) (hB7 : B ≤ 7) (hP7 : P ≤ 7) (ek : ∀ c b, c < 7 → b < 7 → (keyF S c fl b).toInt = U c b) (ec : ∀ c, c < 7 → (costT fl c).toInt64.toInt = C c) : (∃ j f, j < 2 ^ B ∧ Wp S who P j f ∧ kyT U C f = (gkey S B P who fl).toInt) ∧ ∀ j f, j < 2 ^ B → Wp S who P j f → kyT U C f ≤ (gkey S B P who fl).toInt := by
  have hw := wy_G (S := S) (B := B) (who := who) (fl := fl) hU hC hB7 ek ec P hP7
  have gen : ∀ m, m ≤ 2 ^ B → 0 ≤ (mxF (wyT S B who fl P) m).toInt ∧ ((mxF (wyT S B who fl P) m).toInt = 0 ∨ ∃ j f, j < m ∧ Wp S who P j f ∧ kyT U C f = (mxF (wyT S B who fl P) m).toInt) ∧ ∀ j f, j < m → Wp S who P j f → kyT U C f ≤ (mxF (wyT S B who fl P) m).toInt := by
    intro m
    induction m with
    | zero => exact fun _ => ⟨(show (0 : Int) ≤ (0 : Int64).toInt by decide), Or.inl rfl, fun j f hj => absurd hj (by omega)⟩
    | succ m ih =>
      intro hm
      obtain ⟨i1, i2, i3⟩ := ih (by omega)
      have h9 := hw m (by omega)
      have hp := pc_le m 7
      have e : mxF (wyT S B who fl P) (m + 1) = mx (mxF (wyT S B who fl P) m) (wyT S B who fl P m) := rfl
      rw [e]
      generalize mxF (wyT S B who fl P) m = x at *
      generalize wyT S B who fl P m = y at *
      unfold mx
      by_cases q : x < y
      · rw [if_pos q]
        rw [Int64.lt_iff_toInt_lt] at q
        refine ⟨by omega, Or.inr ?_, fun j f hj hf => ?_⟩
        · rcases h9.2 with ⟨f, hf, e⟩ | z
          · exact ⟨m, f, by omega, hf, e⟩
          · have := z.2
            omega
        · by_cases z : j = m
          · exact h9.1 f (z ▸ hf)
          · have := i3 j f (by omega) hf
            omega
      · rw [if_neg q]
        rw [Int64.lt_iff_toInt_lt] at q
        refine ⟨i1, i2.imp id (fun ⟨j, f, hj, hf, e⟩ => ⟨j, f, by omega, hf, e⟩), fun j f hj hf => ?_⟩
        by_cases z : j = m
        · have := h9.1 f (z ▸ hf)
          omega
        · exact i3 j f (by omega) hf
  obtain ⟨g1, g2, g3⟩ := gen (2 ^ B) (Nat.le_refl _)
  refine ⟨?_, g3⟩
  rcases g2 with g2 | g2
  · have h0 : Wp S who P 0 (fun _ => 0) := ⟨fun i => ⟨fun _ => Nat.zero_testBit i, fun _ => rfl⟩, apS_0, fun i hi => absurd rfl hi, Or.inr (fun i k hi _ => absurd rfl hi)⟩
    have h1 := g3 0 _ (Nat.pow_pos (by decide)) h0
    have h2 := hw 0 (Nat.pow_pos (by decide))
    have h3 : (0 : Int) ≤ kyT U C (fun _ => 0) := by
      have hz : ∀ m, kyI U (fun _ => 0) m = 0 := by
        intro m
        induction m with
        | zero => rfl
        | succ m ih =>
          show kyI U (fun _ => 0) m + (if (0 : Nat) = 0 then 0 else U (0 - 1) m) = 0
          rw [ih, if_pos rfl]
          rfl
      have hz2 : ∀ m, coI C (fun _ => 0) m = 0 := by
        intro m
        induction m with
        | zero => rfl
        | succ m ih =>
          have hu : usdN (fun _ => 0) m 7 = false := by
            cases z : usdN (fun _ => 0) m 7
            · rfl
            · obtain ⟨b, _, e⟩ := (usd_iff 7).mp z
              omega
          show coI C (fun _ => 0) m + (if usdN (fun _ => 0) m 7 = true then C m else 0) = 0
          rw [ih, hu, if_neg (by decide)]
          rfl
      show (0 : Int) ≤ kyI U (fun _ => 0) 7 - coI C (fun _ => 0) 7
      rw [hz, hz2]
      decide
    unfold gkey
    exact ⟨0, _, Nat.pow_pos (by decide), h0, by omega⟩
  · exact g2
end SRCT
