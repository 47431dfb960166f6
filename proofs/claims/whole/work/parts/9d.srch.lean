-- SEARCH: the greatest key is the greatest over all weeks
def upn (f : Nat → Nat) (b x : Nat) : Nat → Nat := fun i => if i = b then x else f i
def usdN (f : Nat → Nat) (c : Nat) : Nat → Bool
  | 0 => false
  | b + 1 => usdN f c b || decide (f b = c + 1)
def kyI (U : Nat → Nat → Int) (f : Nat → Nat) : Nat → Int
  | 0 => 0
  | b + 1 => kyI U f b + (if f b = 0 then 0 else U (f b - 1) b)
def coI (C : Nat → Int) (f : Nat → Nat) : Nat → Int
  | 0 => 0
  | c + 1 => coI C f c + (if usdN f c 7 = true then C c else 0)
def kyT (U : Nat → Nat → Int) (C : Nat → Int) (f : Nat → Nat) : Int := kyI U f 7 - coI C f 7
def pcN (j : Nat) : Nat → Nat
  | 0 => 0
  | b + 1 => pcN j b + (if j.testBit b then 1 else 0)
def dd (x : Int64) (n : Nat) : Prop := -4611686018427387904 - 4398046511104 * (n : Int) ≤ x.toInt ∧ x.toInt ≤ -4611686018427387904 + 4398046511104 * (n : Int)
def Gk (k : (Nat → Nat) → Int) (x : Int64) (F : (Nat → Nat) → Prop) (n : Nat) : Prop := (∀ f, F f → k f ≤ x.toInt) ∧ ((∃ f, F f ∧ k f = x.toInt) ∨ dd x n)
theorem usd_iff {f : Nat → Nat} {c : Nat} : ∀ m, usdN f c m = true ↔ ∃ b, b < m ∧ f b = c + 1
  | 0 => ⟨fun h => absurd (show false = true from h) (by decide), fun ⟨b, hb, _⟩ => absurd hb (by omega)⟩
  | m + 1 => by
    show (usdN f c m || decide (f m = c + 1)) = true ↔ _
    rw [Bool.or_eq_true, usd_iff m, decide_eq_true_iff]
    constructor
    · rintro (⟨b, hb, e⟩ | e)
      · exact ⟨b, by omega, e⟩
      · exact ⟨m, by omega, e⟩
    · rintro ⟨b, hb, e⟩
      by_cases q : b = m
      · exact Or.inr (q ▸ e)
      · exact Or.inl ⟨b, by omega, e⟩
theorem pc_le (j : Nat) : ∀ m, pcN j m ≤ m
  | 0 => Nat.le_refl _
  | m + 1 => by
    have := pc_le j m
    show pcN j m + _ ≤ _
    split <;> omega
theorem pc_clr : ∀ j, j < 128 → ∀ b, b < 7 → j.testBit b = true → pcN (clrB j b) 7 + 1 = pcN j 7 := by decide +kernel
theorem clr_tb : ∀ j, j < 128 → ∀ b, b < 7 → ∀ i, i < 7 → (clrB j b).testBit i = (j.testBit i && !decide (i = b)) := by decide +kernel
theorem ky_up {U : Nat → Nat → Int} {f : Nat → Nat} {b c : Nat} (h0 : f b = 0) : ∀ m, kyI U (upn f b (c + 1)) m = kyI U f m + (if b < m then U c b else 0)
  | 0 => by rw [if_neg (by omega)]; rfl
  | m + 1 => by
    show kyI U (upn f b (c + 1)) m + (if upn f b (c + 1) m = 0 then 0 else U (upn f b (c + 1) m - 1) m) = kyI U f m + (if f m = 0 then 0 else U (f m - 1) m) + _
    rw [ky_up h0 m]
    unfold upn
    by_cases e : m = b
    · subst e
      rw [if_pos rfl, if_neg (Nat.succ_ne_zero c), if_neg (Nat.lt_irrefl m), h0, if_pos rfl, if_pos (Nat.lt_succ_self m), Nat.add_sub_cancel] <;> omega
    · rw [if_neg e]
      by_cases q : b < m
      · rw [if_pos q, if_pos (show b < m + 1 by omega)]
        omega
      · rw [if_neg q, if_neg (show ¬ b < m + 1 by omega)]
        omega
theorem usd_up {f : Nat → Nat} {b c c' : Nat} (h0 : f b = 0) (hb : b < 7) : usdN (upn f b (c + 1)) c' 7 = (usdN f c' 7 || decide (c' = c)) := by
  have : usdN (upn f b (c + 1)) c' 7 = true ↔ (usdN f c' 7 || decide (c' = c)) = true := by
    rw [usd_iff, Bool.or_eq_true, usd_iff, decide_eq_true_iff]
    unfold upn
    constructor
    · rintro ⟨i, hi, e⟩
      by_cases q : i = b
      · rw [if_pos q] at e
        exact Or.inr (by omega)
      · rw [if_neg q] at e
        exact Or.inl ⟨i, hi, e⟩
    · rintro (⟨i, hi, e⟩ | e)
      · refine ⟨i, hi, ?_⟩
        rw [if_neg (fun q => by rw [q, h0] at e; omega)]
        exact e
      · exact ⟨b, hb, by rw [if_pos rfl, e]⟩
  cases h1 : usdN (upn f b (c + 1)) c' 7 <;> cases h2 : (usdN f c' 7 || decide (c' = c)) <;> first | rfl | (rw [h1, h2] at this; simp at this)
theorem co_up {C : Nat → Int} {f : Nat → Nat} {b c : Nat} (h0 : f b = 0) (hb : b < 7) : ∀ m, coI C (upn f b (c + 1)) m = coI C f m + (if c < m ∧ usdN f c 7 = false then C c else 0)
  | 0 => by rw [if_neg (fun z => absurd z.1 (by omega))]; rfl
  | m + 1 => by
    show coI C (upn f b (c + 1)) m + (if usdN (upn f b (c + 1)) m 7 = true then C m else 0) = coI C f m + (if usdN f m 7 = true then C m else 0) + _
    rw [co_up h0 hb m, usd_up h0 hb]
    by_cases e : m = c
    · subst e
      rw [decide_eq_true rfl, Bool.or_true, if_pos rfl, if_neg (fun z => absurd z.1 (Nat.lt_irrefl m))]
      cases q : usdN f m 7
      · rw [if_neg (show ¬ false = true by decide), if_pos (show m < m + 1 ∧ false = false from ⟨Nat.lt_succ_self m, rfl⟩)] <;> omega
      · rw [if_pos (show true = true from rfl), if_neg (show ¬ (m < m + 1 ∧ true = false) from fun z => absurd z.2 (by decide))] <;> omega
    · rw [decide_eq_false e, Bool.or_false]
      by_cases q : c < m ∧ usdN f c 7 = false
      · rw [if_pos q, if_pos (show c < m + 1 ∧ usdN f c 7 = false from ⟨by omega, q.2⟩)]
        omega
      · rw [if_neg q, if_neg (show ¬ (c < m + 1 ∧ usdN f c 7 = false) from fun z => q ⟨by omega, z.2⟩)]
        omega
theorem key_up {U : Nat → Nat → Int} {C : Nat → Int} {f : Nat → Nat} {b c : Nat} (h0 : f b = 0) (hb : b < 7) (hc : c < 7) : kyT U C (upn f b (c + 1)) = kyT U C f + U c b - (if usdN f c 7 = true then 0 else C c) := by
  unfold kyT
  rw [ky_up h0 7, co_up h0 hb 7, if_pos hb]
  cases q : usdN f c 7
  · rw [if_pos ⟨hc, rfl⟩, if_neg (by decide)]
    omega
  · rw [if_neg (fun z => absurd z.2 (by decide)), if_pos rfl]
    omega
theorem ky_bd {U : Nat → Nat → Int} {f : Nat → Nat} (hU : ∀ c b, -2199023255552 ≤ U c b ∧ U c b ≤ 2199023255552) : ∀ m : Nat, -2199023255552 * (m : Int) ≤ kyI U f m ∧ kyI U f m ≤ 2199023255552 * (m : Int)
  | 0 => ⟨by show _ ≤ (0 : Int); omega, by show (0 : Int) ≤ _; omega⟩
  | m + 1 => by
    have ih := ky_bd (f := f) hU m
    have h := hU (f m - 1) m
    show _ ≤ kyI U f m + (if f m = 0 then 0 else U (f m - 1) m) ∧ kyI U f m + (if f m = 0 then 0 else U (f m - 1) m) ≤ _
    split <;> omega
theorem co_bd {C : Nat → Int} {f : Nat → Nat} (hC : ∀ c, 0 ≤ C c ∧ C c ≤ 1024) : ∀ m : Nat, 0 ≤ coI C f m ∧ coI C f m ≤ 1024 * (m : Int)
  | 0 => ⟨Int.le_refl _, by show (0 : Int) ≤ _; omega⟩
  | m + 1 => by
    have ih := co_bd (f := f) hC m
    have h := hC m
    show _ ≤ coI C f m + (if usdN f m 7 = true then C m else 0) ∧ coI C f m + (if usdN f m 7 = true then C m else 0) ≤ _
    split <;> omega
-- what a cell of the table tells
theorem Gk.un {k : (Nat → Nat) → Int} {x y : Int64} {F H E : (Nat → Nat) → Prop} {n : Nat} (h1 : Gk k x F n) (h2 : Gk k y H n) (hE : ∀ f, E f ↔ F f ∨ H f) : Gk k (mx x y) E n := by
  unfold mx
  by_cases q : x < y
  · rw [if_pos q]
    rw [Int64.lt_iff_toInt_lt] at q
    refine ⟨fun f hf => ?_, ?_⟩
    · rcases (hE f).mp hf with z | z
      · have := h1.1 f z
        omega
      · exact h2.1 f z
    · rcases h2.2 with ⟨f, z, e⟩ | z
      · exact Or.inl ⟨f, (hE f).mpr (Or.inr z), e⟩
      · exact Or.inr z
  · rw [if_neg q]
    rw [Int64.lt_iff_toInt_lt] at q
    refine ⟨fun f hf => ?_, ?_⟩
    · rcases (hE f).mp hf with z | z
      · exact h1.1 f z
      · have := h2.1 f z
        omega
    · rcases h1.2 with ⟨f, z, e⟩ | z
      · exact Or.inl ⟨f, (hE f).mpr (Or.inl z), e⟩
      · exact Or.inr z
theorem Gk.no {k : (Nat → Nat) → Int} {n : Nat} : Gk k NOW (fun _ => False) n := ⟨fun _ h => h.elim, Or.inr ⟨by show _ ≤ (-4611686018427387904 : Int); omega, by show (-4611686018427387904 : Int) ≤ _; omega⟩⟩
theorem Gk.mono {k : (Nat → Nat) → Int} {x : Int64} {F : (Nat → Nat) → Prop} {n m : Nat} (h : Gk k x F n) (hm : n ≤ m) : Gk k x F m := ⟨h.1, h.2.elim Or.inl (fun z => Or.inr ⟨by have := z.1; omega, by have := z.2; omega⟩)⟩
theorem Gk.sh {k k' : (Nat → Nat) → Int} {x d : Int64} {F E : (Nat → Nat) → Prop} {n : Nat} (h : Gk k x F n) (hn : n < 15) (hd : -4398046511104 ≤ d.toInt ∧ d.toInt ≤ 4398046511104) (hk : ∀ f, F f → -70368744177664 ≤ k f ∧ k f ≤ 70368744177664) (h1 : ∀ f, E f → ∃ g, F g ∧ k' f = k g + d.toInt) (h2 : ∀ g, F g → ∃ f, E f ∧ k' f = k g + d.toInt) : Gk k' (x + d) E (n + 1) := by
  have e : (x + d).toInt = x.toInt + d.toInt := by
    rw [Int64.toInt_add]
    rcases h.2 with ⟨f, z, e⟩ | z
    · have := hk f z
      rw [Int.bmod_eq_of_le (by omega) (by omega)]
    · have z1 := z.1
      have z2 := z.2
      rw [Int.bmod_eq_of_le (by omega) (by omega)]
  refine ⟨fun f hf => ?_, ?_⟩
  · obtain ⟨g, hg, eg⟩ := h1 f hf
    have := h.1 g hg
    omega
  · rcases h.2 with ⟨f, z, e2⟩ | z
    · obtain ⟨f', hf', e3⟩ := h2 f z
      exact Or.inl ⟨f', hf', by omega⟩
    · have z1 := z.1
      have z2 := z.2
      exact Or.inr ⟨by omega, by omega⟩
