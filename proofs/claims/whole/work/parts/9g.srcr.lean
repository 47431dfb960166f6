-- SEARCH: the reference's walk through the weeks
def enc (x : Nat) : Int32 := if x = 0 then -1 else nI (x - 1)
def vlU (S : aS) : Nat → Nat → Int := fun c b => if c < 7 ∧ b < 7 then (valN S b c).toInt else 0
def cdU : Nat → Nat → Int := fun c b => ((c : Int) + 1) * 16 ^ (6 - b)
def vl (S : aS) (f : Nat → Nat) : Int := kyI (vlU S) f 7
def cd (f : Nat → Nat) : Int := kyI cdU f 7
def Bst (S : aS) (B : Nat) (F : (Nat → Nat) → Prop) (X Y : aT) : Prop := X.1.toInt ≤ Y.1.toInt ∧ (∀ f, F f → vl S f ≤ Y.1.toInt) ∧ ((Y.1 = X.1 ∧ Y.2.2 = X.2.2) ∨ ∃ f, F f ∧ vl S f = Y.1.toInt ∧ X.1.toInt < Y.1.toInt ∧ (∀ i, i < B → Y.2.2 i = enc (f i)) ∧ ∀ g, F g → vl S g = Y.1.toInt → cd f ≤ cd g)
theorem Bst.seq {S : aS} {B : Nat} {F H E : (Nat → Nat) → Prop} {X Y Z : aT} (h1 : Bst S B F X Y) (h2 : Bst S B H Y Z) (hE : ∀ f, E f ↔ F f ∨ H f) (hc : ∀ f g, F f → H g → cd f ≤ cd g) : Bst S B E X Z := by
  obtain ⟨a1, a2, a3⟩ := h1
  obtain ⟨b1, b2, b3⟩ := h2
  refine ⟨by omega, fun f hf => ?_, ?_⟩
  · rcases (hE f).mp hf with z | z
    · have := a2 f z
      omega
    · exact b2 f z
  · rcases b3 with ⟨e1, e2⟩ | ⟨f, hf, e1, e2, e3, e4⟩
    · rcases a3 with ⟨g1, g2⟩ | ⟨f, hf, g1, g2, g3, g4⟩
      · exact Or.inl ⟨e1.trans g1, e2.trans g2⟩
      · refine Or.inr ⟨f, (hE f).mpr (Or.inl hf), by rw [e1]; exact g1, by rw [e1]; exact g2, fun i hi => by rw [e2]; exact g3 i hi, fun g hg eg => ?_⟩
        rcases (hE g).mp hg with z | z
        · exact g4 g z (by rw [← e1]; exact eg)
        · exact hc f g hf z
    · refine Or.inr ⟨f, (hE f).mpr (Or.inr hf), e1, by omega, e3, fun g hg eg => ?_⟩
      rcases (hE g).mp hg with z | z
      · have := a2 g z
        omega
      · exact e4 g z eg
theorem Bst.iff {S : aS} {B : Nat} {F H : (Nat → Nat) → Prop} {X Y : aT} (h : Bst S B F X Y) (hE : ∀ f, H f ↔ F f) : Bst S B H X Y := ⟨h.1, fun f hf => h.2.1 f ((hE f).mp hf), h.2.2.imp id (fun ⟨f, hf, e1, e2, e3, e4⟩ => ⟨f, (hE f).mpr hf, e1, e2, e3, fun g hg => e4 g ((hE g).mp hg)⟩)⟩
theorem Bst.no {S : aS} {B : Nat} {X : aT} {F : (Nat → Nat) → Prop} (h : ∀ f, ¬ F f) : Bst S B F X X := ⟨Int.le_refl _, fun f hf => absurd hf (h f), Or.inl ⟨rfl, rfl⟩⟩
theorem cd_lt {f g : Nat → Nat} {b : Nat} (hb : b < 7) (h : ∀ i, i < b → f i = g i) (hlt : f b < g b) (h15 : ∀ i, f i ≤ 15) : cd f < cd g := by
  have eq : ∀ m, m ≤ b → kyI cdU f m = kyI cdU g m := by
    intro m
    induction m with
    | zero => exact fun _ => rfl
    | succ m ih =>
      intro hm
      show kyI cdU f m + (if f m = 0 then 0 else cdU (f m - 1) m) = kyI cdU g m + (if g m = 0 then 0 else cdU (g m - 1) m)
      rw [ih (by omega), h m (by omega)]
  have dig : ∀ (f : Nat → Nat) m, (if f m = 0 then (0 : Int) else cdU (f m - 1) m) = (f m : Int) * 16 ^ (6 - m) := by
    intro f m
    by_cases q : f m = 0
    · rw [if_pos q, q]
      show (0 : Int) = 0 * _
      rw [Int.zero_mul]
    · rw [if_neg q]
      unfold cdU
      rw [show ((f m - 1 : Nat) : Int) + 1 = (f m : Int) by omega]
  have pos : ∀ k : Nat, (0 : Int) < 16 ^ k := fun k => Int.pow_pos (by decide)
  have gen : ∀ m, b + 1 + m ≤ 7 → kyI cdU f (b + 1 + m) + 16 ^ (6 - (b + m)) ≤ kyI cdU g (b + 1 + m) := by
    intro m
    induction m with
    | zero =>
      intro _
      show kyI cdU f b + (if f b = 0 then (0 : Int) else cdU (f b - 1) b) + 16 ^ (6 - b) ≤ kyI cdU g b + (if g b = 0 then (0 : Int) else cdU (g b - 1) b)
      rw [dig, dig, eq b (Nat.le_refl _)]
      have hp := pos (6 - b)
      generalize (16 : Int) ^ (6 - b) = p at *
      have h1 : ((f b : Int) + 1) * p ≤ (g b : Int) * p := Int.mul_le_mul_of_nonneg_right (by omega) (by omega)
      rw [Int.add_mul, Int.one_mul] at h1
      omega
    | succ m ih =>
      intro hm
      have ih := ih (by omega)
      show kyI cdU f (b + 1 + m) + (if f (b + 1 + m) = 0 then (0 : Int) else cdU (f (b + 1 + m) - 1) (b + 1 + m)) + 16 ^ (6 - (b + (m + 1))) ≤ kyI cdU g (b + 1 + m) + (if g (b + 1 + m) = 0 then (0 : Int) else cdU (g (b + 1 + m) - 1) (b + 1 + m))
      rw [dig, dig]
      have hp := pos (6 - (b + 1 + m))
      have e1 : (16 : Int) ^ (6 - (b + m)) = 16 ^ (6 - (b + 1 + m)) * 16 := by
        rw [show 6 - (b + m) = 6 - (b + 1 + m) + 1 by omega, Int.pow_succ]
      rw [show 6 - (b + (m + 1)) = 6 - (b + 1 + m) by omega]
      rw [e1] at ih
      have hf := h15 (b + 1 + m)
      generalize (16 : Int) ^ (6 - (b + 1 + m)) = p at *
      have h1 : (f (b + 1 + m) : Int) * p ≤ 15 * p := Int.mul_le_mul_of_nonneg_right (by omega) (by omega)
      have h2 : (0 : Int) ≤ (g (b + 1 + m) : Int) * p := Int.mul_nonneg (by omega) (by omega)
      omega
  have h9 := gen (6 - b) (by omega)
  rw [show b + 1 + (6 - b) = 7 by omega, show 6 - (b + (6 - b)) = 0 by omega] at h9
  unfold cd
  have : (16 : Int) ^ 0 = 1 := rfl
  omega
theorem vl_bd {S : aS} {f : Nat → Nat} (hv : VOk S) : ∀ m : Nat, -99 * (m : Int) ≤ kyI (vlU S) f m ∧ kyI (vlU S) f m ≤ 297 * (m : Int)
  | 0 => ⟨by show _ ≤ (0 : Int); omega, by show (0 : Int) ≤ _; omega⟩
  | m + 1 => by
    have ih := vl_bd (f := f) hv m
    have h : -99 ≤ vlU S (f m - 1) m ∧ vlU S (f m - 1) m ≤ 297 := by
      unfold vlU
      by_cases q : f m - 1 < 7 ∧ m < 7
      · rw [if_pos q]
        exact (vok_val hv q.2 q.1).2
      · rw [if_neg q]
        omega
    show _ ≤ kyI (vlU S) f m + (if f m = 0 then 0 else vlU S (f m - 1) m) ∧ kyI (vlU S) f m + (if f m = 0 then 0 else vlU S (f m - 1) m) ≤ _
    split <;> omega
/-- the weeks that the reference goes through -/
def alM (M : aM) (P : Nat) (only : Int32) (b t : Nat) : Bool := if M.2.1 36 1 = 0 then decide (nI t = mildO M b only P) else hsB only (nI t) && gd (tM M) b t
def Rd (M : aM) (P B : Nat) (only : Int32) (f : Nat → Nat) : Prop := (∀ i, f i = 0 ∨ (i < B ∧ f i ≤ P ∧ alM M P only i (f i - 1) = true)) ∧ (∀ i k, ¬ f i = 0 → ¬ f k = 0 → i < k → bt (M.2.1 (21 + k) 4) i = false) ∧ (M.2.1 36 1 = 0 ∨ ∀ i k, ¬ f i = 0 → f i = f k → i = k)
theorem ok_al {M : aM} {P b t : Nat} {only set : Int32} (hone : M.2.1 36 1 = 0 ∨ M.2.1 36 1 = 1) : okT M P only b set t = true ↔ alM M P only b t = true ∧ (M.2.1 36 1 = 0 ∨ hsB set (nI t) = false) := by
  unfold okT alM mayM
  rcases hone with h | h
  · rw [if_pos h, if_pos h]
    exact ⟨fun z => ⟨z, Or.inl h⟩, fun z => z.1⟩
  · have hn : ¬ M.2.1 36 1 = 0 := by rw [h]; decide
    rw [if_neg hn, if_neg hn, decide_eq_false hn, Bool.false_or]
    simp only [Bool.and_eq_true, Bool.not_eq_true']
    constructor
    · exact fun z => ⟨⟨z.1, z.2.1⟩, Or.inr z.2.2⟩
    · exact fun z => ⟨z.1.1, z.1.2, z.2.resolve_left hn⟩
