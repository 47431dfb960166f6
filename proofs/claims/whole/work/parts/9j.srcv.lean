-- SEARCH: the class's key decoded
def digA (f : Nat → Nat) : Nat → Nat
  | 0 => 0
  | m + 1 => 16 * digA f m + f m
theorem cd_dig {f : Nat → Nat} {m : Nat} : (if f m = 0 then (0 : Int) else cdU (f m - 1) m) = (f m : Int) * 16 ^ (6 - m) := by
  by_cases q : f m = 0
  · rw [if_pos q, q]
    show (0 : Int) = 0 * _
    rw [Int.zero_mul]
  · rw [if_neg q]
    unfold cdU
    rw [show ((f m - 1 : Nat) : Int) + 1 = (f m : Int) by omega]
theorem cd_A {f : Nat → Nat} : cd f = (digA f 7 : Int) := by
  have e : ∀ m, kyI cdU f (m + 1) = kyI cdU f m + (f m : Int) * 16 ^ (6 - m) := fun m => by
    show kyI cdU f m + (if f m = 0 then (0 : Int) else cdU (f m - 1) m) = _
    rw [cd_dig]
  have a : ∀ m, digA f (m + 1) = 16 * digA f m + f m := fun m => rfl
  unfold cd
  rw [e 6, e 5, e 4, e 3, e 2, e 1, e 0, a 6, a 5, a 4, a 3, a 2, a 1, a 0, show kyI cdU f 0 = 0 from rfl, show digA f 0 = 0 from rfl, show (16 : Int) ^ (6 - 6) = 1 from rfl, show (16 : Int) ^ (6 - 5) = 16 from rfl, show (16 : Int) ^ (6 - 4) = 256 from rfl, show (16 : Int) ^ (6 - 3) = 4096 from rfl, show (16 : Int) ^ (6 - 2) = 65536 from rfl, show (16 : Int) ^ (6 - 1) = 1048576 from rfl, show (16 : Int) ^ (6 - 0) = 16777216 from rfl]
  omega
theorem dig_at {f : Nat → Nat} (h : ∀ i, f i ≤ 7) {b : Nat} (hb : b < 7) : digA f 7 / 16 ^ (6 - b) % 16 = f b ∧ digA f 7 < 268435456 := by
  have a : ∀ m, digA f (m + 1) = 16 * digA f m + f m := fun m => rfl
  have h0 := h 0
  have h1 := h 1
  have h2 := h 2
  have h3 := h 3
  have h4 := h 4
  have h5 := h 5
  have h6 := h 6
  rw [a 6, a 5, a 4, a 3, a 2, a 1, a 0, show digA f 0 = 0 from rfl]
  refine ⟨?_, by omega⟩
  rcases (show b = 0 ∨ b = 1 ∨ b = 2 ∨ b = 3 ∨ b = 4 ∨ b = 5 ∨ b = 6 by omega) with rfl | rfl | rfl | rfl | rfl | rfl | rfl
  · show _ / 16777216 % 16 = _
    omega
  · show _ / 1048576 % 16 = _
    omega
  · show _ / 65536 % 16 = _
    omega
  · show _ / 4096 % 16 = _
    omega
  · show _ / 256 % 16 = _
    omega
  · show _ / 16 % 16 = _
    omega
  · show _ / 1 % 16 = _
    omega
theorem code_tab : ∀ c, c < 7 → ∀ b, b < 7 → (codeT c 1 b).toInt = cdU c b ∧ 0 ≤ cdU c b ∧ cdU c b ≤ 117440512 := by decide +kernel
def ky1 (S : aS) : Nat → Nat → Int := fun c b => if c < 7 ∧ b < 7 then (valN S b c).toInt * 4294967296 - cdU c b else 0
theorem ky1_ok {S : aS} (hv : VOk S) : (∀ c b, -2199023255552 ≤ ky1 S c b ∧ ky1 S c b ≤ 2199023255552) ∧ ∀ c b, c < 7 → b < 7 → (keyF S c 1 b).toInt = ky1 S c b := by
  constructor
  · intro c b
    unfold ky1
    by_cases q : c < 7 ∧ b < 7
    · rw [if_pos q]
      have h1 := (vok_val hv q.2 q.1).2
      have h2 := (code_tab c q.1 b q.2).2
      omega
    · rw [if_neg q]
      omega
  · intro c b hc hb
    have h1 := (vok_val hv hb hc).2
    have h2 := code_tab c hc b hb
    have e1 : ((valN S b c).toInt64 * 4294967296).toInt = (valN S b c).toInt * 4294967296 := by
      rw [Int64.toInt_mul, Int32.toInt_toInt64, show (4294967296 : Int64).toInt = 4294967296 from rfl, Int.bmod_eq_of_le (by omega) (by omega)]
    unfold keyF ky1
    rw [if_pos ⟨hc, hb⟩, Int64.toInt_sub, e1, h2.1, Int.bmod_eq_of_le (by omega) (by omega)]
theorem ky1_sum {S : aS} {f : Nat → Nat} (h : ∀ i, f i ≤ 7) : ∀ m, m ≤ 7 → kyI (ky1 S) f m = kyI (vlU S) f m * 4294967296 - kyI cdU f m
  | 0, _ => rfl
  | m + 1, hm => by
    have ih := ky1_sum (S := S) h m (by omega)
    have hf := h m
    show kyI (ky1 S) f m + (if f m = 0 then 0 else ky1 S (f m - 1) m) = (kyI (vlU S) f m + (if f m = 0 then 0 else vlU S (f m - 1) m)) * 4294967296 - (kyI cdU f m + (if f m = 0 then 0 else cdU (f m - 1) m))
    rw [ih]
    by_cases q : f m = 0
    · rw [if_pos q, if_pos q, if_pos q]
      omega
    · rw [if_neg q, if_neg q, if_neg q]
      unfold ky1 vlU
      rw [if_pos ⟨by omega, by omega⟩, if_pos ⟨by omega, by omega⟩]
      omega
theorem co_0 {f : Nat → Nat} : ∀ m, coI (fun _ => 0) f m = 0
  | 0 => rfl
  | m + 1 => by
    show coI (fun _ => 0) f m + (if usdN f m 7 = true then (0 : Int) else 0) = 0
    rw [co_0 m]
    split <;> rfl
theorem Av.le {S : aS} {P B : Nat} {who : Int32} {f : Nat → Nat} (hP : P ≤ 7) (h : Av S P B who f) (i : Nat) : f i ≤ 7 := by
  obtain ⟨j, -, h⟩ := h
  by_cases q : f i = 0
  · omega
  · have := (h.2.2.1 i q).1
    omega
theorem gk1 {S : aS} {P B : Nat} {who : Int32} (hv : VOk S) (hP7 : P ≤ 7) (hB7 : B ≤ 7) : ∃ f, Av S P B who f ∧ (gkey S B P who 1).toInt = vl S f * 4294967296 - cd f ∧ ∀ g, Av S P B who g → vl S g * 4294967296 - cd g ≤ vl S f * 4294967296 - cd f := by
  obtain ⟨k1, k2⟩ := ky1_ok hv
  have e : ∀ f, Av S P B who f → kyT (ky1 S) (fun _ => 0) f = vl S f * 4294967296 - cd f := fun f hf => by
    unfold kyT
    rw [co_0, ky1_sum (hf.le hP7) 7 (Nat.le_refl _)]
    show _ - (0 : Int) = _
    rw [Int.sub_zero]
    rfl
  obtain ⟨⟨j, f, hj, hf, e1⟩, h2⟩ := gk_spec (S := S) (B := B) (P := P) (who := who) (fl := 1) (U := ky1 S) (C := fun _ => 0) k1 (fun _ => ⟨Int.le_refl _, by decide⟩) hB7 hP7 k2 (fun c _ => rfl)
  refine ⟨f, ⟨j, hj, hf⟩, by rw [← e1, e f ⟨j, hj, hf⟩], fun g hg => ?_⟩
  obtain ⟨j', hj', hg'⟩ := hg
  have := h2 j' g hj' hg'
  rw [← e1, e g ⟨j', hj', hg'⟩, e f ⟨j, hj, hf⟩] at this
  exact this
theorem msb_neg (x : Int64) : x < 0 ↔ x.toBitVec.msb = true := by
  rw [Int64.lt_iff_toInt_lt, BitVec.msb_eq_toInt, decide_eq_true_iff]
  exact Iff.rfl
theorem fdiv_i {x : Int64} (h1 : -4611686018427387904 ≤ x.toInt) (h2 : x.toInt ≤ 4611686018427387904) : (fdiv x 4294967296).toInt = x.toInt / 4294967296 := by
  have ez : (4294967296 : Int64).toInt = 4294967296 := rfl
  have ed : (x / 4294967296).toInt = x.toInt.tdiv 4294967296 := by
    have hb : -4611686018427387904 ≤ x.toInt.tdiv 4294967296 ∧ x.toInt.tdiv 4294967296 ≤ 4611686018427387904 := by
      rcases Int.lt_or_le x.toInt 0 with q | q
      · obtain ⟨n, hn⟩ : ∃ n : Int, x.toInt = -n := ⟨-x.toInt, by omega⟩
        rw [hn, Int.neg_tdiv, Int.tdiv_eq_ediv_of_nonneg (by omega)]
        omega
      · rw [Int.tdiv_eq_ediv_of_nonneg q]
        omega
    rw [Int64.toInt_div, ez, Int.bmod_eq_of_le (by omega) (by omega)]
  have hx : x ^^^ 4294967296 < 0 ↔ x.toInt < 0 := by
    rw [msb_neg, Int64.toBitVec_xor, BitVec.msb_xor, show (4294967296 : Int64).toBitVec.msb = false from rfl, Bool.xor_false, ← msb_neg, Int64.lt_iff_toInt_lt]
    exact Iff.rfl
  have em : (x / 4294967296 * 4294967296).toInt = x.toInt.tdiv 4294967296 * 4294967296 := by
    have hb : -4611686018427387904 ≤ x.toInt.tdiv 4294967296 * 4294967296 ∧ x.toInt.tdiv 4294967296 * 4294967296 ≤ 4611686018427387904 := by
      rcases Int.lt_or_le x.toInt 0 with q | q
      · obtain ⟨n, hn⟩ : ∃ n : Int, x.toInt = -n := ⟨-x.toInt, by omega⟩
        rw [hn, Int.neg_tdiv, Int.tdiv_eq_ediv_of_nonneg (by omega)]
        omega
      · rw [Int.tdiv_eq_ediv_of_nonneg q]
        omega
    rw [Int64.toInt_mul, ed, ez, Int.bmod_eq_of_le (by omega) (by omega)]
  unfold fdiv
  rcases Int.lt_or_le x.toInt 0 with q | q
  · obtain ⟨n, hn⟩ : ∃ n : Int, x.toInt = -n := ⟨-x.toInt, by omega⟩
    have et : x.toInt.tdiv 4294967296 = -(n / 4294967296) := by
      rw [hn, Int.neg_tdiv, Int.tdiv_eq_ediv_of_nonneg (by omega)]
    by_cases z : x / 4294967296 * 4294967296 = x
    · rw [if_neg (fun y => y.2 z), ed, et]
      have := congrArg Int64.toInt z
      rw [em, et] at this
      omega
    · rw [if_pos ⟨hx.mpr q, z⟩]
      have hn2 : ¬ -(n / 4294967296) * 4294967296 = -n := fun y => z (Int64.toInt_inj.mp (by rw [em, et, hn]; exact y))
      rw [Int64.toInt_sub, ed, et, show (1 : Int64).toInt = 1 from rfl, Int.bmod_eq_of_le (by omega) (by omega)]
      omega
  · rw [if_neg (fun y => by have := hx.mp y.1; omega), ed, Int.tdiv_eq_ediv_of_nonneg q]
theorem key_dec {k : Int64} {V : Int} {N : Nat} (hk : k.toInt = V * 4294967296 - N) (hV : -10000 ≤ V ∧ V ≤ 10000) (hN : N < 268435456) : (valK k).toInt = V ∧ (codK k).toInt = N := by
  have en : (-k).toInt = -(V * 4294967296 - N) := by
    rw [Int64.toInt_neg, hk, Int.bmod_eq_of_le (by omega) (by omega)]
  have ef := fdiv_i (x := -k) (by rw [en]; omega) (by rw [en]; omega)
  rw [en] at ef
  have ef2 : (fdiv (-k) 4294967296).toInt = -V := by
    rw [ef]
    omega
  have ev : (valK k).toInt = V := by
    unfold valK
    rw [Int64.toInt_toInt32, Int64.toInt_neg, ef2]
    rw [Int.bmod_eq_of_le (n := -(-V)) (by omega) (by omega)]
    rw [Int.bmod_eq_of_le (by omega) (by omega)]
    omega
  refine ⟨ev, ?_⟩
  unfold codK
  have em : ((valK k).toInt64 * 4294967296).toInt = V * 4294967296 := by
    rw [Int64.toInt_mul, Int32.toInt_toInt64, ev, show (4294967296 : Int64).toInt = 4294967296 from rfl, Int.bmod_eq_of_le (by omega) (by omega)]
  rw [Int64.toInt_sub, em, hk, Int.bmod_eq_of_le (by omega) (by omega)]
  omega
