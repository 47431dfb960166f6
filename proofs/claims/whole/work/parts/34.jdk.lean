-- THE JDK's OWN METHODS
section JDK
variable {G : gE} {w : aW} {n : Nat}
theorem c_JM_min {x z : Int32} : Fn G 0 y_JM_min [.int x, .int z] w n (some (.int (if z < x then z else x))) w := by
  refine Fn.of k_JM_min l_JM_min rfl rfl ?_
  refine r_iload_n (i := 0) i_JM_min_0 rfl rfl ?_
  refine r_iload_n (i := 1) i_JM_min_1 rfl rfl ?_
  refine r_icmp_gt 9 i_JM_min_2 (by decide) (fun h2 => ?_) (fun h2 => ?_)
  · skip
    refine r_iload_n (i := 1) i_JM_min_9 rfl rfl ?_
    refine r_ireturn i_JM_min_10 t_JM_min rfl ?_
    exact ⟨by simp [*], rfl, rfl⟩
  · skip
    refine r_iload_n (i := 0) i_JM_min_5 rfl rfl ?_
    refine r_goto 10 i_JM_min_6 (by decide) ?_
    refine r_ireturn i_JM_min_10 t_JM_min rfl ?_
    exact ⟨by simp [*], rfl, rfl⟩
theorem c_JM_max2 {x z : Int32} : Fn G 0 y_JM_max2 [.int x, .int z] w n (some (.int (if x < z then z else x))) w := by
  refine Fn.of k_JM_max2 l_JM_max2 rfl rfl ?_
  refine r_iload_n (i := 0) i_JM_max2_0 rfl rfl ?_
  refine r_iload_n (i := 1) i_JM_max2_1 rfl rfl ?_
  refine r_icmp_lt 9 i_JM_max2_2 (by decide) (fun h2 => ?_) (fun h2 => ?_)
  · skip
    refine r_iload_n (i := 1) i_JM_max2_9 rfl rfl ?_
    refine r_ireturn i_JM_max2_10 t_JM_max2 rfl ?_
    exact ⟨by simp [*], rfl, rfl⟩
  · skip
    refine r_iload_n (i := 0) i_JM_max2_5 rfl rfl ?_
    refine r_goto 10 i_JM_max2_6 (by decide) ?_
    refine r_ireturn i_JM_max2_10 t_JM_max2 rfl ?_
    exact ⟨by simp [*], rfl, rfl⟩
theorem lcmp_lt {x z : Int64} : lg_cmp x z < 0 ↔ x < z := by
  unfold lg_cmp
  by_cases h1 : x > z
  · rw [if_pos h1]
    exact ⟨fun h => absurd h (by decide), fun h => absurd h (Int64.not_lt.mpr (Int64.le_of_lt h1))⟩
  · rw [if_neg h1]
    by_cases h2 : x = z
    · rw [if_pos h2]
      exact ⟨fun h => absurd h (by decide), fun h => absurd h (by rw [h2]; exact Int64.lt_irrefl)⟩
    · rw [if_neg h2]
      refine ⟨fun _ => ?_, fun _ => by decide⟩
      rcases Int64.lt_or_eq_of_le (Int64.not_lt.mp h1) with h | h
      · exact h
      · exact absurd h h2
theorem lcmp_eq {x z : Int64} : lg_cmp x z = 0 ↔ x = z := by
  unfold lg_cmp
  by_cases h1 : x > z
  · rw [if_pos h1]
    exact ⟨fun h => absurd h (by decide), fun h => absurd h1 (by rw [h]; exact Int64.lt_irrefl)⟩
  · rw [if_neg h1]
    by_cases h2 : x = z
    · rw [if_pos h2]; exact ⟨fun _ => h2, fun _ => rfl⟩
    · rw [if_neg h2]; exact ⟨fun h => absurd h (by decide), fun h => absurd h h2⟩
theorem lcmp_ge {x z : Int64} : 0 ≤ lg_cmp x z ↔ z ≤ x := by rw [← Int32.not_lt, lcmp_lt, Int64.not_lt]
theorem c_JM_max {x z : Int64} : Fn G 0 y_JM_max [.long x, .long z] w n (some (.long (if x < z then z else x))) w := by
  refine Fn.of k_JM_max l_JM_max rfl rfl ?_
  refine r_lload_n (i := 0) i_JM_max_0 rfl rfl ?_
  refine r_lload_n (i := 2) i_JM_max_1 rfl rfl ?_
  refine r_lcmp i_JM_max_2 ?_
  refine r_if_lt 10 i_JM_max_3 (by decide) (fun h3 => ?_) (fun h3 => ?_)
  · skip
    have h3 := lcmp_lt.mp h3
    refine r_lload_n (i := 2) i_JM_max_10 rfl rfl ?_
    refine r_lreturn i_JM_max_11 t_JM_max ?_
    exact ⟨by first | rw [if_pos h3] | rw [if_neg h3], rfl, rfl⟩
  · skip
    have h3 : ¬ x < z := fun h => h3 (lcmp_lt.mpr h)
    refine r_lload_n (i := 0) i_JM_max_6 rfl rfl ?_
    refine r_goto 11 i_JM_max_7 (by decide) ?_
    refine r_lreturn i_JM_max_11 t_JM_max ?_
    exact ⟨by first | rw [if_pos h3] | rw [if_neg h3], rfl, rfl⟩
def fmod (x z : Int32) : Int32 := if x ^^^ z < 0 ∧ ¬ x - x / z * z = 0 then x - x / z * z + z else x - x / z * z
theorem c_JM_floorMod {x z : Int32} (hz : ¬ z = 0) : Fn G 0 y_JM_floorMod [.int x, .int z] w n (some (.int (fmod x z))) w := by
  refine Fn.of k_JM_floorMod l_JM_floorMod rfl rfl ?_
  refine r_iload_n (i := 0) i_JM_floorMod_0 rfl rfl ?_
  refine r_iload_n (i := 1) i_JM_floorMod_1 rfl rfl ?_
  refine r_irem i_JM_floorMod_2 hz ?_
  refine r_istore_2 i_JM_floorMod_3 (by rw [l_JM_floorMod]; decide) rfl ?_
  refine r_iload_n (i := 0) i_JM_floorMod_4 rfl rfl ?_
  refine r_iload_n (i := 1) i_JM_floorMod_5 rfl rfl ?_
  refine r_ixor i_JM_floorMod_6 ?_
  refine r_if_ge 18 i_JM_floorMod_7 (by decide) (fun h7 => ?_) (fun h7 => ?_)
  · skip
    have h7 := Int32.not_lt.mpr h7
    refine r_iload_n (i := 2) i_JM_floorMod_18 rfl rfl ?_
    refine r_ireturn i_JM_floorMod_19 t_JM_floorMod rfl ?_
    exact ⟨by first | (simp [fmod, h7, h11]; done) | (simp [fmod, h7]; done), rfl, rfl⟩
  · skip
    have h7 := Int32.not_le.mp h7
    refine r_iload_n (i := 2) i_JM_floorMod_10 rfl rfl ?_
    refine r_if_eq 18 i_JM_floorMod_11 (by decide) (fun h11 => ?_) (fun h11 => ?_)
    · skip
      refine r_iload_n (i := 2) i_JM_floorMod_18 rfl rfl ?_
      refine r_ireturn i_JM_floorMod_19 t_JM_floorMod rfl ?_
      exact ⟨by first | (simp [fmod, h7, h11]; done) | (simp [fmod, h7]; done), rfl, rfl⟩
    · skip
      refine r_iload_n (i := 2) i_JM_floorMod_14 rfl rfl ?_
      refine r_iload_n (i := 1) i_JM_floorMod_15 rfl rfl ?_
      refine r_iadd i_JM_floorMod_16 ?_
      refine r_ireturn i_JM_floorMod_17 t_JM_floorMod rfl ?_
      exact ⟨by first | (simp [fmod, h7, h11]; done) | (simp [fmod, h7]; done), rfl, rfl⟩
def fdiv (x z : Int64) : Int64 := if x ^^^ z < 0 ∧ ¬ x / z * z = x then x / z - 1 else x / z
theorem c_JM_floorDiv {x z : Int64} (hz : ¬ z = 0) : Fn G 0 y_JM_floorDiv [.long x, .long z] w n (some (.long (fdiv x z))) w := by
  refine Fn.of k_JM_floorDiv l_JM_floorDiv rfl rfl ?_
  refine r_lload_n (i := 0) i_JM_floorDiv_0 rfl rfl ?_
  refine r_lload_n (i := 2) i_JM_floorDiv_1 rfl rfl ?_
  refine r_ldiv i_JM_floorDiv_2 hz ?_
  refine r_lstore_4 i_JM_floorDiv_3 (by rw [l_JM_floorDiv]; decide) rfl ?_
  refine r_lload_n (i := 0) i_JM_floorDiv_5 rfl rfl ?_
  refine r_lload_n (i := 2) i_JM_floorDiv_6 rfl rfl ?_
  refine r_lxor i_JM_floorDiv_7 ?_
  refine r_lconst (v := (0 : Int64)) i_JM_floorDiv_8 rfl ?_
  refine r_lcmp i_JM_floorDiv_9 ?_
  refine r_if_ge 27 i_JM_floorDiv_10 (by decide) (fun h10 => ?_) (fun h10 => ?_)
  · skip
    have h10 := Int64.not_lt.mpr (lcmp_ge.mp h10)
    refine r_lload (i := 4) i_JM_floorDiv_27 rfl ?_
    refine r_lreturn i_JM_floorDiv_29 t_JM_floorDiv ?_
    exact ⟨by first | (simp [fdiv, h10, h19]; done) | (simp [fdiv, h10]; done), rfl, rfl⟩
  · skip
    have h10 := Int64.not_le.mp (fun h => h10 (lcmp_ge.mpr h))
    refine r_lload (i := 4) i_JM_floorDiv_13 rfl ?_
    refine r_lload_n (i := 2) i_JM_floorDiv_15 rfl rfl ?_
    refine r_lmul i_JM_floorDiv_16 ?_
    refine r_lload_n (i := 0) i_JM_floorDiv_17 rfl rfl ?_
    refine r_lcmp i_JM_floorDiv_18 ?_
    refine r_if_eq 27 i_JM_floorDiv_19 (by decide) (fun h19 => ?_) (fun h19 => ?_)
    · skip
      have h19 := lcmp_eq.mp h19
      refine r_lload (i := 4) i_JM_floorDiv_27 rfl ?_
      refine r_lreturn i_JM_floorDiv_29 t_JM_floorDiv ?_
      exact ⟨by first | (simp [fdiv, h10, h19]; done) | (simp [fdiv, h10]; done), rfl, rfl⟩
    · skip
      have h19 : ¬ x / z * z = x := fun h => h19 (lcmp_eq.mpr h)
      refine r_lload (i := 4) i_JM_floorDiv_22 rfl ?_
      refine r_lconst (v := (1 : Int64)) i_JM_floorDiv_24 rfl ?_
      refine r_lsub i_JM_floorDiv_25 ?_
      refine r_lreturn i_JM_floorDiv_26 t_JM_floorDiv ?_
      exact ⟨by first | (simp [fdiv, h10, h19]; done) | (simp [fdiv, h10]; done), rfl, rfl⟩
def us (x k : Int32) : Int32 := (x.toUInt32 >>> (k.toUInt32 &&& Int32.toUInt32 31)).toInt32
def bc1 (x : Int32) : Int32 := x - (us x 1 &&& 1431655765)
def bc2 (x : Int32) : Int32 := (x &&& 858993459) + (us x 2 &&& 858993459)
def bc3 (x : Int32) : Int32 := (x + us x 4) &&& 252645135
def bc4 (x : Int32) : Int32 := x + us x 8
def bcount (x : Int32) : Int32 := (bc4 (bc3 (bc2 (bc1 x))) + us (bc4 (bc3 (bc2 (bc1 x)))) 16) &&& 63
theorem c_JI_bitCount {x : Int32} : Fn G 0 y_JI_bitCount [.int x] w n (some (.int (bcount x))) w := by
  refine Fn.of k_JI_bitCount l_JI_bitCount rfl rfl ?_
  refine r_iload_n (i := 0) i_JI_bitCount_0 rfl rfl ?_
  refine r_iload_n (i := 0) i_JI_bitCount_1 rfl rfl ?_
  refine r_iconst (v := (1 : Int32)) i_JI_bitCount_2 rfl ?_
  refine r_iushr i_JI_bitCount_3 ?_
  refine r_ldcw o_JI_bitCount i_JI_bitCount_4 x_JI_265 ?_
  refine r_iand i_JI_bitCount_7 ?_
  refine r_isub i_JI_bitCount_8 ?_
  refine r_istore_0 i_JI_bitCount_9 (by rw [l_JI_bitCount]; decide) ?_
  refine r_iload_n (i := 0) i_JI_bitCount_10 rfl rfl ?_
  refine r_ldcw o_JI_bitCount i_JI_bitCount_11 x_JI_266 ?_
  refine r_iand i_JI_bitCount_14 ?_
  refine r_iload_n (i := 0) i_JI_bitCount_15 rfl rfl ?_
  refine r_iconst (v := (2 : Int32)) i_JI_bitCount_16 rfl ?_
  refine r_iushr i_JI_bitCount_17 ?_
  refine r_ldcw o_JI_bitCount i_JI_bitCount_18 x_JI_266 ?_
  refine r_iand i_JI_bitCount_21 ?_
  refine r_iadd i_JI_bitCount_22 ?_
  refine r_istore_0 i_JI_bitCount_23 (by rw [l_JI_bitCount]; decide) ?_
  refine r_iload_n (i := 0) i_JI_bitCount_24 rfl rfl ?_
  refine r_iload_n (i := 0) i_JI_bitCount_25 rfl rfl ?_
  refine r_iconst (v := (4 : Int32)) i_JI_bitCount_26 rfl ?_
  refine r_iushr i_JI_bitCount_27 ?_
  refine r_iadd i_JI_bitCount_28 ?_
  refine r_ldcw o_JI_bitCount i_JI_bitCount_29 x_JI_267 ?_
  refine r_iand i_JI_bitCount_32 ?_
  refine r_istore_0 i_JI_bitCount_33 (by rw [l_JI_bitCount]; decide) ?_
  refine r_iload_n (i := 0) i_JI_bitCount_34 rfl rfl ?_
  refine r_iload_n (i := 0) i_JI_bitCount_35 rfl rfl ?_
  refine r_bipush (v := (8 : Int32)) i_JI_bitCount_36 (by decide) ?_
  refine r_iushr i_JI_bitCount_38 ?_
  refine r_iadd i_JI_bitCount_39 ?_
  refine r_istore_0 i_JI_bitCount_40 (by rw [l_JI_bitCount]; decide) ?_
  refine r_iload_n (i := 0) i_JI_bitCount_41 rfl rfl ?_
  refine r_iload_n (i := 0) i_JI_bitCount_42 rfl rfl ?_
  refine r_bipush (v := (16 : Int32)) i_JI_bitCount_43 (by decide) ?_
  refine r_iushr i_JI_bitCount_45 ?_
  refine r_iadd i_JI_bitCount_46 ?_
  refine r_istore_0 i_JI_bitCount_47 (by rw [l_JI_bitCount]; decide) ?_
  refine r_iload_n (i := 0) i_JI_bitCount_48 rfl rfl ?_
  refine r_bipush (v := (63 : Int32)) i_JI_bitCount_49 (by decide) ?_
  refine r_iand i_JI_bitCount_51 ?_
  refine r_ireturn i_JI_bitCount_52 t_JI_bitCount rfl ?_
  exact ⟨rfl, rfl, rfl⟩
def ntz (x : Int32) : Nat → Int32
  | 0 => 0
  | k + 1 => if x &&& 1 = 1 then 0 else 1 + ntz (x >>> (1 : Int32)) k
def nz0 (x : Int32) : Int32 := (x ^^^ (-1)) &&& (x - 1)
def nzE (z : Int32) : Int32 := if 16 < z then (if 4 < us z 4 then 1 + 4 + 2 + us (us (us z 4) 2) 1 else 1 + 4 + us (us z 4) 1) else if 4 < z then 1 + 2 + us (us z 2) 1 else 1 + us z 1
def ntzE (x : Int32) : Int32 := if 0 < nz0 x then nzE (nz0 x) else nz0 x &&& 32
theorem c_JI_numberOfTrailingZeros {x : Int32} (h256 : nz0 x ≤ 256) : Fn G 0 y_JI_numberOfTrailingZeros [.int x] w n (some (.int (ntzE x))) w := by
  have h65 : nz0 x ≤ 65536 := Int32.le_trans h256 (by decide)
  refine Fn.of k_JI_numberOfTrailingZeros l_JI_numberOfTrailingZeros rfl rfl ?_
  refine r_iload_n (i := 0) i_JI_numberOfTrailingZeros_0 rfl rfl ?_
  refine r_iconst (v := (-1 : Int32)) i_JI_numberOfTrailingZeros_1 rfl ?_
  refine r_ixor i_JI_numberOfTrailingZeros_2 ?_
  refine r_iload_n (i := 0) i_JI_numberOfTrailingZeros_3 rfl rfl ?_
  refine r_iconst (v := (1 : Int32)) i_JI_numberOfTrailingZeros_4 rfl ?_
  refine r_isub i_JI_numberOfTrailingZeros_5 ?_
  refine r_iand i_JI_numberOfTrailingZeros_6 ?_
  rw [show (x ^^^ (-1)) &&& (x - 1) = nz0 x from rfl]
  refine r_istore_0 i_JI_numberOfTrailingZeros_7 (by rw [l_JI_numberOfTrailingZeros]; decide) ?_
  refine r_iload_n (i := 0) i_JI_numberOfTrailingZeros_8 rfl rfl ?_
  refine r_if_gt 17 i_JI_numberOfTrailingZeros_9 (by decide) (fun h9 => ?_) (fun h9 => ?_)
  · skip
    refine r_iconst (v := (1 : Int32)) i_JI_numberOfTrailingZeros_17 rfl ?_
    refine r_istore_1 i_JI_numberOfTrailingZeros_18 (by rw [l_JI_numberOfTrailingZeros]; decide) rfl ?_
    refine r_iload_n (i := 0) i_JI_numberOfTrailingZeros_19 rfl rfl ?_
    refine r_ldcw o_JI_numberOfTrailingZeros i_JI_numberOfTrailingZeros_20 x_JI_264 ?_
    refine r_icmp_le 34 i_JI_numberOfTrailingZeros_23 (by decide) (fun h23 => ?_) (fun h23 => (absurd h65 h23))
    refine r_iload_n (i := 0) i_JI_numberOfTrailingZeros_34 rfl rfl ?_
    refine r_sipush (v := (256 : Int32)) i_JI_numberOfTrailingZeros_35 (by decide) ?_
    refine r_icmp_le 49 i_JI_numberOfTrailingZeros_38 (by decide) (fun h38 => ?_) (fun h38 => (absurd h256 h38))
    refine r_iload_n (i := 0) i_JI_numberOfTrailingZeros_49 rfl rfl ?_
    refine r_bipush (v := (16 : Int32)) i_JI_numberOfTrailingZeros_50 (by decide) ?_
    refine r_icmp_le 62 i_JI_numberOfTrailingZeros_52 (by decide) (fun h52 => ?_) (fun h52 => ?_)
    · skip
      have h52 := Int32.not_lt.mpr h52
      refine r_iload_n (i := 0) i_JI_numberOfTrailingZeros_62 rfl rfl ?_
      refine r_iconst (v := (4 : Int32)) i_JI_numberOfTrailingZeros_63 rfl ?_
      refine r_icmp_le 74 i_JI_numberOfTrailingZeros_64 (by decide) (fun h64 => ?_) (fun h64 => ?_)
      · skip
        have h64 := Int32.not_lt.mpr h64
        refine r_iload_n (i := 1) i_JI_numberOfTrailingZeros_74 rfl rfl ?_
        refine r_iload_n (i := 0) i_JI_numberOfTrailingZeros_75 rfl rfl ?_
        refine r_iconst (v := (1 : Int32)) i_JI_numberOfTrailingZeros_76 rfl ?_
        refine r_iushr i_JI_numberOfTrailingZeros_77 ?_
        refine r_iadd i_JI_numberOfTrailingZeros_78 ?_
        refine r_ireturn i_JI_numberOfTrailingZeros_79 t_JI_numberOfTrailingZeros rfl ?_
        exact ⟨by unfold ntzE nzE us; first | rw [if_neg h9] | rw [if_pos h9, if_pos h52, if_pos h64] | rw [if_pos h9, if_pos h52, if_neg h64] | rw [if_pos h9, if_neg h52, if_pos h64] | rw [if_pos h9, if_neg h52, if_neg h64], rfl, rfl⟩
      · skip
        have h64 := Int32.not_le.mp h64
        refine r_iinc_1 (v := (2 : Int32)) i_JI_numberOfTrailingZeros_67 rfl (by rw [l_JI_numberOfTrailingZeros]; decide) rfl ?_
        refine r_iload_n (i := 0) i_JI_numberOfTrailingZeros_70 rfl rfl ?_
        refine r_iconst (v := (2 : Int32)) i_JI_numberOfTrailingZeros_71 rfl ?_
        refine r_iushr i_JI_numberOfTrailingZeros_72 ?_
        refine r_istore_0 i_JI_numberOfTrailingZeros_73 (by rw [l_JI_numberOfTrailingZeros]; decide) ?_
        refine r_iload_n (i := 1) i_JI_numberOfTrailingZeros_74 rfl rfl ?_
        refine r_iload_n (i := 0) i_JI_numberOfTrailingZeros_75 rfl rfl ?_
        refine r_iconst (v := (1 : Int32)) i_JI_numberOfTrailingZeros_76 rfl ?_
        refine r_iushr i_JI_numberOfTrailingZeros_77 ?_
        refine r_iadd i_JI_numberOfTrailingZeros_78 ?_
        refine r_ireturn i_JI_numberOfTrailingZeros_79 t_JI_numberOfTrailingZeros rfl ?_
        exact ⟨by unfold ntzE nzE us; first | rw [if_neg h9] | rw [if_pos h9, if_pos h52, if_pos h64] | rw [if_pos h9, if_pos h52, if_neg h64] | rw [if_pos h9, if_neg h52, if_pos h64] | rw [if_pos h9, if_neg h52, if_neg h64], rfl, rfl⟩
    · skip
      have h52 := Int32.not_le.mp h52
      refine r_iinc_1 (v := (4 : Int32)) i_JI_numberOfTrailingZeros_55 rfl (by rw [l_JI_numberOfTrailingZeros]; decide) rfl ?_
      refine r_iload_n (i := 0) i_JI_numberOfTrailingZeros_58 rfl rfl ?_
      refine r_iconst (v := (4 : Int32)) i_JI_numberOfTrailingZeros_59 rfl ?_
      refine r_iushr i_JI_numberOfTrailingZeros_60 ?_
      refine r_istore_0 i_JI_numberOfTrailingZeros_61 (by rw [l_JI_numberOfTrailingZeros]; decide) ?_
      refine r_iload_n (i := 0) i_JI_numberOfTrailingZeros_62 rfl rfl ?_
      refine r_iconst (v := (4 : Int32)) i_JI_numberOfTrailingZeros_63 rfl ?_
      refine r_icmp_le 74 i_JI_numberOfTrailingZeros_64 (by decide) (fun h64 => ?_) (fun h64 => ?_)
      · skip
        have h64 := Int32.not_lt.mpr h64
        refine r_iload_n (i := 1) i_JI_numberOfTrailingZeros_74 rfl rfl ?_
        refine r_iload_n (i := 0) i_JI_numberOfTrailingZeros_75 rfl rfl ?_
        refine r_iconst (v := (1 : Int32)) i_JI_numberOfTrailingZeros_76 rfl ?_
        refine r_iushr i_JI_numberOfTrailingZeros_77 ?_
        refine r_iadd i_JI_numberOfTrailingZeros_78 ?_
        refine r_ireturn i_JI_numberOfTrailingZeros_79 t_JI_numberOfTrailingZeros rfl ?_
        exact ⟨by unfold ntzE nzE us; first | rw [if_neg h9] | rw [if_pos h9, if_pos h52, if_pos h64] | rw [if_pos h9, if_pos h52, if_neg h64] | rw [if_pos h9, if_neg h52, if_pos h64] | rw [if_pos h9, if_neg h52, if_neg h64], rfl, rfl⟩
      · skip
        have h64 := Int32.not_le.mp h64
        refine r_iinc_1 (v := (2 : Int32)) i_JI_numberOfTrailingZeros_67 rfl (by rw [l_JI_numberOfTrailingZeros]; decide) rfl ?_
        refine r_iload_n (i := 0) i_JI_numberOfTrailingZeros_70 rfl rfl ?_
        refine r_iconst (v := (2 : Int32)) i_JI_numberOfTrailingZeros_71 rfl ?_
        refine r_iushr i_JI_numberOfTrailingZeros_72 ?_
        refine r_istore_0 i_JI_numberOfTrailingZeros_73 (by rw [l_JI_numberOfTrailingZeros]; decide) ?_
        refine r_iload_n (i := 1) i_JI_numberOfTrailingZeros_74 rfl rfl ?_
        refine r_iload_n (i := 0) i_JI_numberOfTrailingZeros_75 rfl rfl ?_
        refine r_iconst (v := (1 : Int32)) i_JI_numberOfTrailingZeros_76 rfl ?_
        refine r_iushr i_JI_numberOfTrailingZeros_77 ?_
        refine r_iadd i_JI_numberOfTrailingZeros_78 ?_
        refine r_ireturn i_JI_numberOfTrailingZeros_79 t_JI_numberOfTrailingZeros rfl ?_
        exact ⟨by unfold ntzE nzE us; first | rw [if_neg h9] | rw [if_pos h9, if_pos h52, if_pos h64] | rw [if_pos h9, if_pos h52, if_neg h64] | rw [if_pos h9, if_neg h52, if_pos h64] | rw [if_pos h9, if_neg h52, if_neg h64], rfl, rfl⟩
  · skip
    refine r_iload_n (i := 0) i_JI_numberOfTrailingZeros_12 rfl rfl ?_
    refine r_bipush (v := (32 : Int32)) i_JI_numberOfTrailingZeros_13 (by decide) ?_
    refine r_iand i_JI_numberOfTrailingZeros_15 ?_
    refine r_ireturn i_JI_numberOfTrailingZeros_16 t_JI_numberOfTrailingZeros rfl ?_
    exact ⟨by unfold ntzE nzE us; first | rw [if_neg h9] | rw [if_pos h9, if_pos h52, if_pos h64] | rw [if_pos h9, if_pos h52, if_neg h64] | rw [if_pos h9, if_neg h52, if_pos h64] | rw [if_pos h9, if_neg h52, if_neg h64], rfl, rfl⟩
-- texts
theorem c_JS_coder {j : Nat} (hj : j < 9) : Fn G 0 y_JS_coder [.ref (gB + j)] w n (some (.int 0)) w := by
  refine Fn.of k_JS_coder l_JS_coder rfl rfl ?_
  refine r_getsCompact o_JS_coder i_JS_coder_0 x_JS_38 ?_
  refine r_if_eq 13 i_JS_coder_3 (by decide) (fun h3 => (absurd h3 (by decide))) (fun h3 => ?_)
  refine r_aload_n (i := 0) i_JS_coder_6 rfl rfl ?_
  refine r_strCoder o_JS_coder i_JS_coder_7 x_JS_15 hj ?_
  refine r_goto 14 i_JS_coder_10 (by decide) ?_
  refine r_ireturn i_JS_coder_14 t_JS_coder rfl ?_
  exact ⟨rfl, rfl, rfl⟩
theorem c_JS_isLatin1 {j : Nat} (hj : j < 9) : Fn G 0 y_JS_isLatin1 [.ref (gB + j)] w n (some (.int 1)) w := by
  refine Fn.of k_JS_isLatin1 l_JS_isLatin1 rfl rfl ?_
  refine r_getsCompact o_JS_isLatin1 i_JS_isLatin1_0 x_JS_38 ?_
  refine r_if_eq 17 i_JS_isLatin1_3 (by decide) (fun h3 => (absurd h3 (by decide))) (fun h3 => ?_)
  refine r_aload_n (i := 0) i_JS_isLatin1_6 rfl rfl ?_
  refine r_strCoder o_JS_isLatin1 i_JS_isLatin1_7 x_JS_15 hj ?_
  refine r_if_ne 17 i_JS_isLatin1_10 (by decide) (fun h10 => (absurd rfl h10)) (fun h10 => ?_)
  refine r_iconst (v := (1 : Int32)) i_JS_isLatin1_13 rfl ?_
  refine r_goto 18 i_JS_isLatin1_14 (by decide) ?_
  refine r_ireturn i_JS_isLatin1_18 t_JS_isLatin1 (by first | rfl | exact nar_bI _) ?_
  exact ⟨rfl, rfl, rfl⟩
theorem c_JS_length {j : Nat} (hj : j < 9) : Fn G 1 y_JS_length [.ref (gB + j)] w n (some (.int (nI (strL.getD j 0)))) w := by
  refine Fn.of k_JS_length l_JS_length rfl rfl ?_
  refine r_aload_n (i := 0) i_JS_length_0 rfl rfl ?_
  refine r_strVal o_JS_length i_JS_length_1 x_JS_9 hj ?_
  refine r_strLen i_JS_length_4 hj ?_
  refine r_aload_n (i := 0) i_JS_length_5 rfl rfl ?_
  refine f_virtual o_JS_length k_JS_coder v_JS_coder x_JS_335 i_JS_length_6 o_JS_coder (c_JS_coder hj) rfl (rcv_str hj) rfl (by decide) (Nat.le_of_ble_eq_true rfl) ?_
  refine r_ishr i_JS_length_9 ?_
  refine r_ireturn i_JS_length_10 t_JS_length rfl ?_
  exact ⟨by rw [sb_shr0]; rfl, rfl, rfl⟩
theorem ent3 {a b c : Value} (ha : a.category = 1) (hb : b.category = 1) (hc : c.category = 1) : ent [a, b, c] = [some a, some b, some c] := by simp [ent, ha, hb, hc]
theorem c_JP_checkIndex {i l : Int32} (hfm : (gfm G).category = 1) (h1 : ¬ i < 0) (h2 : i < l) : Fn G 0 y_JP_checkIndex [.int i, .int l, gfm G] w n (some (.int i)) w := by
  refine Fn.of (ls := [some (.int i), some (.int l), some (gfm G)]) k_JP_checkIndex l_JP_checkIndex (by rw [ent3 rfl rfl hfm]; rfl) (by rw [ent3 rfl rfl hfm]; rfl) ?_
  refine r_iload_n (i := 0) i_JP_checkIndex_0 rfl rfl ?_
  refine r_if_lt 9 i_JP_checkIndex_1 (by decide) (fun q1 => (absurd q1 h1)) (fun q1 => ?_)
  refine r_iload_n (i := 0) i_JP_checkIndex_4 rfl rfl ?_
  refine r_iload_n (i := 1) i_JP_checkIndex_5 rfl rfl ?_
  refine r_icmp_lt 16 i_JP_checkIndex_6 (by decide) (fun q6 => ?_) (fun q6 => (absurd h2 q6))
  refine r_iload_n (i := 0) i_JP_checkIndex_16 rfl rfl ?_
  refine r_ireturn i_JP_checkIndex_17 t_JP_checkIndex rfl ?_
  exact ⟨rfl, rfl, rfl⟩
theorem c_JS_checkIndex {i l : Int32} (hfm : (gfm G).category = 1) (h1 : ¬ i < 0) (h2 : i < l) : Fn G 1 y_JS_checkIndex [.int i, .int l] w n none w := by
  refine Fn.of k_JS_checkIndex l_JS_checkIndex rfl rfl ?_
  refine r_iload_n (i := 0) i_JS_checkIndex_0 rfl rfl ?_
  refine r_iload_n (i := 1) i_JS_checkIndex_1 rfl rfl ?_
  refine r_getsFmt o_JS_checkIndex i_JS_checkIndex_2 x_JS_1053 ?_
  refine f_static o_JS_checkIndex k_JP_checkIndex s_JP_checkIndex x_JS_1059 i_JS_checkIndex_5 (c_JP_checkIndex hfm h1 h2) rfl rfl (by decide) (Nat.le_of_ble_eq_true rfl) ?_
  refine r_pop i_JS_checkIndex_8 rfl ?_
  refine r_return i_JS_checkIndex_9 t_JS_checkIndex ?_
  exact ⟨rfl, rfl, rfl⟩
def chN (j k : Nat) : Int32 := (((strB.getD j []).getD k 0 &&& 255).toUInt32 % 65536).toInt32
theorem c_JL_charAt {j k : Nat} (hfm : (gfm G).category = 1) (hj : j < 9) (hk : k < strL.getD j 0) : Fn G 2 y_JL_charAt [.ref (gB + (100 + j)), .int (nI k)] w n (some (.int (chN j k))) w := by
  have hl : strL.getD j 0 < 10 := by
    have : ∀ j, j < 9 → strL.getD j 0 < 10 := by decide
    exact this j hj
  refine Fn.of k_JL_charAt l_JL_charAt rfl rfl ?_
  refine r_iload_n (i := 1) i_JL_charAt_0 rfl rfl ?_
  refine r_aload_n (i := 0) i_JL_charAt_1 rfl rfl ?_
  refine r_strLen i_JL_charAt_2 hj ?_
  refine f_static o_JL_charAt k_JS_checkIndex s_JS_checkIndex x_JL_9 i_JL_charAt_3 (c_JS_checkIndex hfm (nI_pos (by omega)) (nI_lt hk (by omega))) rfl rfl (by decide) (Nat.le_of_ble_eq_true rfl) ?_
  refine r_aload_n (i := 0) i_JL_charAt_6 rfl rfl ?_
  refine r_iload_n (i := 1) i_JL_charAt_7 rfl rfl ?_
  refine r_strAt i_JL_charAt_8 hj (vp_in_nI hk (by omega)) ?_
  refine r_sipush (v := (255 : Int32)) i_JL_charAt_9 (by decide) ?_
  refine r_iand i_JL_charAt_12 ?_
  refine r_i2c i_JL_charAt_13 ?_
  exact r_ireturn i_JL_charAt_14 t_JL_charAt (pk_nc _) ⟨by rw [nI_clamp (by omega)]; rfl, rfl, rfl⟩
  skip
theorem c_JS_charAt {j k : Nat} (hfm : (gfm G).category = 1) (hj : j < 9) (hk : k < strL.getD j 0) : Fn G 3 y_JS_charAt [.ref (gB + j), .int (nI k)] w n (some (.int (chN j k))) w := by
  refine Fn.of k_JS_charAt l_JS_charAt rfl rfl ?_
  refine r_aload_n (i := 0) i_JS_charAt_0 rfl rfl ?_
  refine f_virtual o_JS_charAt k_JS_isLatin1 v_JS_isLatin1 x_JS_492 i_JS_charAt_1 o_JS_isLatin1 (c_JS_isLatin1 hj) rfl (rcv_str hj) rfl (by decide) (Nat.le_of_ble_eq_true rfl) ?_
  refine r_if_eq 16 i_JS_charAt_4 (by decide) (fun h4 => (absurd h4 (by decide))) (fun h4 => ?_)
  refine r_aload_n (i := 0) i_JS_charAt_7 rfl rfl ?_
  refine r_strVal o_JS_charAt i_JS_charAt_8 x_JS_9 hj ?_
  refine r_iload_n (i := 1) i_JS_charAt_11 rfl rfl ?_
  refine f_static o_JS_charAt k_JL_charAt s_JL_charAt x_JS_495 i_JS_charAt_12 (c_JL_charAt hfm hj hk) rfl rfl (by decide) (Nat.le_of_ble_eq_true rfl) ?_
  exact r_ireturn i_JS_charAt_15 t_JS_charAt (pk_nc _) ⟨rfl, rfl, rfl⟩
  skip
end JDK
