-- THE TWO SIDES: the fewest thirds
theorem bitF_pc : ∀ a, a < 128 → bitF (nI a) 8 = nI (pcN a 7) := by decide +kernel
theorem allw_tab : ∀ P, P < 8 → allW P = nI (2 ^ P - 1) := by decide +kernel
theorem cost_tab : ∀ c, c < 7 → (costT 0 c).toInt64.toInt = 128 + 2 ^ c ∧ (128 : Int) + 2 ^ c ≤ 1024 := by decide +kernel
def co0 : Nat → Int := fun c => if c < 7 then 128 + 2 ^ c else 0
def ky0 (S : aS) : Nat → Nat → Int := fun c b => vlU S c b * 4294967296
theorem pc_sub {a c : Nat} (h : ∀ b, a.testBit b = true → c.testBit b = true) : ∀ m, pcN a m ≤ pcN c m ∧ (pcN a m = pcN c m → ∀ b, b < m → a.testBit b = c.testBit b)
  | 0 => ⟨Nat.le_refl _, fun _ b hb => absurd hb (by omega)⟩
  | m + 1 => by
    obtain ⟨i1, i2⟩ := pc_sub h m
    have hm := h m
    show pcN a m + (if a.testBit m then 1 else 0) ≤ pcN c m + (if c.testBit m then 1 else 0) ∧ (pcN a m + (if a.testBit m then 1 else 0) = pcN c m + (if c.testBit m then 1 else 0) → _)
    cases q : a.testBit m
    · cases q2 : c.testBit m
      · rw [if_neg (by decide)]
        refine ⟨i1, fun e b hb => ?_⟩
        by_cases z : b = m
        · rw [z, q, q2]
        · exact i2 e b (by omega)
      · rw [if_neg (by decide), if_pos rfl]
        exact ⟨by omega, fun e => absurd e (by omega)⟩
    · rw [hm q, if_pos rfl]
      refine ⟨by omega, fun e b hb => ?_⟩
      by_cases z : b = m
      · rw [z, q, hm q]
      · exact i2 (by omega) b (by omega)
theorem mod_s {m n : Nat} : m % 2 ^ (n + 1) = m % 2 ^ n + (if m.testBit n = true then 2 ^ n else 0) := by
  rw [Nat.mod_pow_succ, Nat.testBit_eq_decide_div_mod_eq]
  have h : m / 2 ^ n % 2 < 2 := Nat.mod_lt _ (by decide)
  by_cases q : m / 2 ^ n % 2 = 1
  · rw [q, decide_eq_true rfl, if_pos rfl, Nat.mul_one]
  · rw [show m / 2 ^ n % 2 = 0 by omega, Nat.mul_zero, if_neg (by decide)]
theorem co_mask {f : Nat → Nat} {m : Nat} (h : ∀ c, c < 7 → m.testBit c = usdN f c 7) : ∀ n, n ≤ 7 → coI co0 f n = ((128 * pcN m n + m % 2 ^ n : Nat) : Int)
  | 0, _ => by
    show (0 : Int) = _
    rw [Nat.pow_zero, Nat.mod_one]
    rfl
  | n + 1, hn => by
    have ih := co_mask h n (by omega)
    have e1 : coI co0 f (n + 1) = coI co0 f n + (if usdN f n 7 = true then co0 n else 0) := rfl
    have e2 : pcN m (n + 1) = pcN m n + (if m.testBit n then 1 else 0) := rfl
    have e3 : co0 n = 128 + 2 ^ n := if_pos (by omega)
    rw [e1, e2, ih, ← h n (by omega), mod_s, e3]
    cases q : m.testBit n
    · rw [if_neg (by decide), if_neg (by decide), if_neg (by decide)]
      omega
    · rw [if_pos rfl, if_pos rfl, if_pos rfl]
      have : ((2 ^ n : Nat) : Int) = (2 : Int) ^ n := by simp
      rw [← this]
      generalize 2 ^ n = k
      omega
theorem ky0_sum {S : aS} {f : Nat → Nat} : ∀ m, kyI (ky0 S) f m = kyI (vlU S) f m * 4294967296
  | 0 => rfl
  | m + 1 => by
    show kyI (ky0 S) f m + (if f m = 0 then 0 else ky0 S (f m - 1) m) = (kyI (vlU S) f m + (if f m = 0 then 0 else vlU S (f m - 1) m)) * 4294967296
    rw [ky0_sum m]
    by_cases q : f m = 0
    · rw [if_pos q, if_pos q]
      omega
    · rw [if_neg q, if_neg q]
      unfold ky0
      omega
theorem gk0 {S : aS} {P B : Nat} {who : Int32} (hv : VOk S) (hP7 : P ≤ 7) (hB7 : B ≤ 7) : ∃ f, Av S P B who f ∧ (gkey S B P who 0).toInt = vl S f * 4294967296 - coI co0 f 7 ∧ ∀ g, Av S P B who g → vl S g * 4294967296 - coI co0 g 7 ≤ vl S f * 4294967296 - coI co0 f 7 := by
  have hU : ∀ c b, -2199023255552 ≤ ky0 S c b ∧ ky0 S c b ≤ 2199023255552 := by
    intro c b
    unfold ky0 vlU
    by_cases q : c < 7 ∧ b < 7
    · rw [if_pos q]
      have := (vok_val hv q.2 q.1).2
      omega
    · rw [if_neg q]
      omega
  have hC : ∀ c, 0 ≤ co0 c ∧ co0 c ≤ 1024 := by
    intro c
    unfold co0
    by_cases q : c < 7
    · rw [if_pos q]
      have h1 := (cost_tab c q).2
      have h2 : (0 : Int) < 2 ^ c := Int.pow_pos (by decide)
      omega
    · rw [if_neg q]
      omega
  have ek : ∀ c b, c < 7 → b < 7 → (keyF S c 0 b).toInt = ky0 S c b := by
    intro c b hc hb
    have h1 := (vok_val hv hb hc).2
    have e1 : ((valN S b c).toInt64 * 4294967296).toInt = (valN S b c).toInt * 4294967296 := by
      rw [Int64.toInt_mul, Int32.toInt_toInt64, show (4294967296 : Int64).toInt = 4294967296 from rfl, Int.bmod_eq_of_le (by omega) (by omega)]
    have e2 : codeT c 0 b = 0 := if_pos rfl
    unfold keyF ky0 vlU
    rw [if_pos ⟨hc, hb⟩, e2, Int64.toInt_sub, e1, show (0 : Int64).toInt = 0 from rfl, Int.bmod_eq_of_le (by omega) (by omega)]
    omega
  have e : ∀ f, kyT (ky0 S) co0 f = vl S f * 4294967296 - coI co0 f 7 := fun f => by
    unfold kyT
    rw [ky0_sum 7]
    rfl
  obtain ⟨⟨j, f, hj, hf, e1⟩, h2⟩ := gk_spec (S := S) (B := B) (P := P) (who := who) (fl := 0) hU hC hB7 hP7 ek (fun c hc => by rw [(cost_tab c hc).1]; exact (if_pos hc).symm)
  refine ⟨f, ⟨j, hj, hf⟩, by rw [← e1, e f], fun g hg => ?_⟩
  obtain ⟨j', hj', hg'⟩ := hg
  have := h2 j' g hj' hg'
  rw [← e1, e g, e f] at this
  exact this
theorem and127 {x : Int64} {N : Nat} (h : x.toInt = N) (hN : N < 268435456) : (x &&& 127).toInt32 = nI (N % 128) := by
  have e2 := i64_nat h (by omega)
  have e3 : (x &&& 127).toBitVec.toNat = N % 128 := by
    rw [Int64.toBitVec_and, BitVec.toNat_and, e2, show (127 : Int64).toBitVec.toNat = 2 ^ 7 - 1 from rfl, Nat.and_two_pow_sub_one_eq_mod]
  have e4 : (x &&& 127).toInt = (N % 128 : Nat) := by
    show (x &&& 127).toBitVec.toInt = _
    rw [BitVec.toInt_eq_toNat_cond, e3, if_pos (by omega)]
  refine Int32.toInt_inj.mp ?_
  rw [Int64.toInt_toInt32, e4, toInt_nI (by omega), Int.bmod_eq_of_le (by omega) (by omega)]
theorem Av_who {S : aS} {P B : Nat} {who who2 : Int32} {f : Nat → Nat} (h : Av S P B who f) (hw : ∀ i, ¬ f i = 0 → f i ≤ P → hbI who (nI (f i - 1)) = true → hbI who2 (nI (f i - 1)) = true) : Av S P B who2 f := by
  obtain ⟨j, hj, w1, w2, w3, w4⟩ := h
  exact ⟨j, hj, w1, w2, fun i hi => ⟨(w3 i hi).1, hw i hi (w3 i hi).1 (w3 i hi).2.1, (w3 i hi).2.2⟩, w4⟩
section EQVF
variable {Q : aQ} {M K : aM} {P B : Nat}
/-- the walk through the sets of thirds -/
theorem fw_spec {v : Int32} {T : Nat → Prop} (hP7 : P ≤ 7) (hT : ∀ k X, k < 128 → ((bbX M P B (nI k) X).1 = v ↔ T k)) : ∀ k β X, k ≤ 2 ^ P → β < 2 ^ P → k ≤ β + 1 → T β → (∀ k', k ≤ k' → k' < 2 ^ P → T k' → pcN β 7 < pcN k' 7 ∨ (pcN β 7 = pcN k' 7 ∧ β ≤ k')) → ∃ γ, (fwX M P B v k (nI β) X).1 = nI γ ∧ γ < 2 ^ P ∧ T γ ∧ ∀ k', k' < 2 ^ P → T k' → pcN γ 7 < pcN k' 7 ∨ (pcN γ 7 = pcN k' 7 ∧ γ ≤ k')
  | 0, β, X, _, hβ, _, ht, h => ⟨β, rfl, hβ, ht, fun k' hk' => h k' (Nat.zero_le _) hk'⟩
  | k + 1, β, X, hk, hβ, hkβ, ht, h => by
    have h128 := pow7 hP7
    have e : fwX M P B v (k + 1) (nI β) X = if bitF (nI β) 8 < bitF (nI k) 8 then fwX M P B v k (nI β) X else if (bbX M P B (nI k) X).1 = v then fwX M P B v k (nI k) (bbX M P B (nI k) X) else fwX M P B v k (nI β) (bbX M P B (nI k) X) := rfl
    have p1 := pc_le β 7
    have p2 := pc_le k 7
    have hlt : bitF (nI β) 8 < bitF (nI k) 8 ↔ pcN β 7 < pcN k 7 := by
      rw [bitF_pc β (by omega), bitF_pc k (by omega), Int32.lt_iff_toInt_lt, toInt_nI (by omega), toInt_nI (by omega)]
      omega
    rw [e]
    by_cases q : pcN β 7 < pcN k 7
    · rw [if_pos (hlt.mpr q)]
      refine fw_spec hP7 hT k β X (by omega) hβ (by omega) ht (fun k' h1 h2 h3 => ?_)
      by_cases z : k' = k
      · rw [z]
        exact Or.inl q
      · exact h k' (by omega) h2 h3
    · rw [if_neg (fun z => q (hlt.mp z))]
      by_cases q2 : (bbX M P B (nI k) X).1 = v
      · rw [if_pos q2]
        refine fw_spec hP7 hT k k _ (by omega) (by omega) (by omega) ((hT k X (by omega)).mp q2) (fun k' h1 h2 h3 => ?_)
        by_cases z : k' = k
        · rw [z]
          exact Or.inr ⟨rfl, Nat.le_refl _⟩
        · rcases h k' (by omega) h2 h3 with y | y
          · exact Or.inl (by omega)
          · by_cases w : pcN k 7 = pcN k' 7
            · exact Or.inr ⟨w, by omega⟩
            · exact Or.inl (by omega)
      · rw [if_neg q2]
        refine fw_spec hP7 hT k β _ (by omega) hβ (by omega) ht (fun k' h1 h2 h3 => ?_)
        by_cases z : k' = k
        · rw [z] at h3
          exact absurd ((hT k X (by omega)).mpr h3) q2
        · exact h k' (by omega) h2 h3
theorem eqv_fewest (h : Rl Q M K) (hC : Cnt Q M P B) : Eqv (m_fewest Q) (m2_fewest M P B) M K := by
  have hv := h.2.2.2.2.2.2
  obtain ⟨hP7, hB7, hP, hB, hPM, hBM, hI, eP, eB⟩ := hC
  have hp2 : 0 < 2 ^ P := Nat.pow_pos (by decide)
  have h128 := pow7 hP7
  unfold m_fewest m2_fewest
  rw [eP, eB]
  refine eqv_mx h ?_
  have be : ∀ who X, bestV Q.1 B P who = (bbX M P B who X).1 := fun who X => (best_eq (X := X) (who := who) h.1 hv hP7 hB7).1
  have bx := fun who => (best_eq (X := xT M) (who := who) (P := P) (B := B) h.1 hv hP7 hB7).2.2
  have eV : (bbM M P B (allW P)).1 = bestV Q.1 B P (allW P) := (be (allW P) (xT M)).symm
  have eA := allw_tab P (by omega)
  have hwA : ∀ c, c < P → hbI (allW P) (nI c) = true := fun c hc => by
    rw [hb_bt (by omega), eA, bt_nI (by omega), Nat.testBit_two_pow_sub_one]
    exact decide_eq_true hc
  obtain ⟨γ, g1, g2, g3, g4⟩ := fw_spec (M := M) (B := B) (v := (bbM M P B (allW P)).1) (T := fun k => bestV Q.1 B P (nI k) = bestV Q.1 B P (allW P)) hP7 (fun k X hk => by rw [eV, ← be (nI k) X]) (2 ^ P) (2 ^ P - 1) (bbM M P B (allW P)) (Nat.le_refl _) (by omega) (by omega) (by rw [eA]) (fun k' h1 h2 => absurd h2 (by omega))
  rw [eA] at eV
  rw [eA] at g1 ⊢
  rw [g1]
  have g3 : bestV Q.1 B P (nI γ) = bestV Q.1 B P (nI (2 ^ P - 1)) := by
    rw [← eA]
    exact g3
  obtain ⟨f, f1, f2, f3⟩ := gk0 (P := P) (B := B) (who := allW P) hv hP7 hB7
  obtain ⟨-, fa, fa1, fa2, fa3⟩ := bx (allW P)
  obtain ⟨m, m1, m2⟩ := tb_mask (g := fun c => usdN f c 7) 7 (Nat.le_refl _)
  have m3 : ∀ c, c < 7 → m.testBit c = usdN f c 7 := fun c hc => by rw [m2, decide_eq_true hc, Bool.true_and]
  have cf := co_mask m3 7 (Nat.le_refl _)
  rw [Nat.mod_eq_of_lt (show m < 2 ^ 7 from m1)] at cf
  have m1 : m < 128 := m1
  have pm := pc_le m 7
  have fb := vl_bd (f := f) hv 7
  have fbe : vl Q.1 f = kyI (vlU Q.1) f 7 := rfl
  -- the class's own answer
  have ans : fewB Q.1 B P = nI m := by
    unfold fewB
    rw [cf] at f2
    rw [and127 (key_dec f2 (by omega) (by omega)).2 (by omega)]
    rw [show (128 * pcN m 7 + m) % 128 = m by omega]
  rw [ans]
  -- its week is among the best
  have hfV : vl Q.1 f = (bbX M P B (allW P) (xT M)).1.toInt := by
    have h1 := fa3 f f1
    have h2 := f3 fa fa1
    obtain ⟨ma, ma1, ma2⟩ := tb_mask (g := fun c => usdN fa c 7) 7 (Nat.le_refl _)
    have ca := co_mask (fun c hc => by rw [ma2, decide_eq_true hc, Bool.true_and]) (f := fa) 7 (Nat.le_refl _)
    rw [Nat.mod_eq_of_lt (show ma < 2 ^ 7 from ma1)] at ca
    have ma1 : ma < 128 := ma1
    have pa := pc_le ma 7
    rw [cf, ca] at h2
    omega
  have used : ∀ c, m.testBit c = true ↔ c < 7 ∧ ∃ b, b < 7 ∧ f b = c + 1 := fun c => by
    rw [m2, Bool.and_eq_true, decide_eq_true_iff, usd_iff]
  have f7 : ∀ (g : Nat → Nat) who, Av Q.1 P B who g → ∀ i, ¬ g i = 0 → i < 7 := by
    rintro g who ⟨j, hj, w1, -⟩ i hi
    refine Nat.lt_of_not_le (fun z => hi ((w1 i).mpr (test_big hj (Nat.le_trans hB7 z))))
  have fm : Av Q.1 P B (nI m) f := Av_who f1 (fun i hi hle _ => by
    rw [hb_bt (by omega), bt_nI (by omega)]
    exact (used _).mpr ⟨by omega, i, f7 f _ f1 i hi, by omega⟩)
  have mP : m < 2 ^ P := by
    refine Nat.lt_of_not_le (fun z => ?_)
    obtain ⟨i, hi, hb⟩ := Nat.exists_ge_and_testBit_of_ge_two_pow z
    obtain ⟨-, b, hb7, e⟩ := (used i).mp hb
    obtain ⟨j, hj, w1, w2, w3, w4⟩ := f1
    have := (w3 b (by omega)).1
    omega
  have up : ∀ k, k < 128 → ∀ g, Av Q.1 P B (nI k) g → Av Q.1 P B (allW P) g := fun k _ g hg => Av_who hg (fun i hi hle _ => hwA _ (by omega))
  have tm : bestV Q.1 B P (nI m) = bestV Q.1 B P (allW P) := by
    obtain ⟨-, k, k1, k2, k3⟩ := bx (nI m)
    have h1 := k3 f fm
    have h2 := fa3 k (up m m1 k k1)
    rw [be (nI m) (xT M), be (allW P) (xT M)]
    exact Int32.toInt_inj.mp (by omega)
  have r1 := g4 m mP tm
  -- the walk's own set has a week that is among the best
  obtain ⟨-, k, k1, k2, k3⟩ := bx (nI γ)
  have hk := up γ (by omega) k k1
  have kV : vl Q.1 k = vl Q.1 f := by
    rw [k2, hfV, ← be (nI γ) (xT M), ← be (allW P) (xT M), g3, eA]
  have h5 := f3 k hk
  obtain ⟨mk, mk1, mk2⟩ := tb_mask (g := fun c => usdN k c 7) 7 (Nat.le_refl _)
  have ck := co_mask (fun c hc => by rw [mk2, decide_eq_true hc, Bool.true_and]) (f := k) 7 (Nat.le_refl _)
  rw [Nat.mod_eq_of_lt (show mk < 2 ^ 7 from mk1)] at ck
  have mk1 : mk < 128 := mk1
  have sub : ∀ c, mk.testBit c = true → γ.testBit c = true := by
    intro c hc
    rw [mk2, Bool.and_eq_true, decide_eq_true_iff, usd_iff] at hc
    obtain ⟨hc7, b, hb, e⟩ := hc
    obtain ⟨j, hj, w1, w2, w3, w4⟩ := k1
    have := (w3 b (by omega)).2.1
    rw [e, Nat.add_sub_cancel, hb_bt (by omega), bt_nI (by omega)] at this
    exact this
  obtain ⟨s1, s2⟩ := pc_sub sub 7
  have s3 : pcN mk 7 = pcN γ 7 → mk = γ := fun e => Nat.eq_of_testBit_eq (fun i => by
    rcases Nat.lt_or_ge i 7 with z | z
    · exact s2 e i z
    · rw [test_big (B := 7) mk1 z, test_big (B := 7) (show γ < 2 ^ 7 by show γ < 128; omega) z])
  rw [cf, ck, kV] at h5
  have fin : m = γ := by
    rcases r1 with r1 | ⟨r1, r2⟩
    · omega
    · by_cases e : pcN mk 7 = pcN γ 7
      · have := s3 e
        omega
      · omega
  rw [fin]
end EQVF
