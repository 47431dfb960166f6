-- new T[N][K]
def mnaW (w : aW) (n N : Nat) (out inn : aC) : aW := fun k => if k = n then out else if n < k ∧ k ≤ n + N then inn else w k
theorem mna_outer (c : ClassId) (N h0 : Nat) : ∀ i : Nat, Jvm.Free.Multi.outerC c N h0 i = arrV c N (fun j => va_rf (if j < i then some (h0 + 1 + j) else none))
  | 0 => by
    show ({ cls := c, slots := Array.replicate N .null, vm := .none } : Cell) = _
    rw [arrV_new]
    refine congrArg (arrV c N) (funext fun j => ?_)
    simp [va_rf]
  | i + 1 => by
    show (Jvm.Free.Multi.outerC c N h0 i).setSlot i (.ref (h0 + 1 + i)) = _
    rw [mna_outer c N h0 i, arrV_store]
    refine congrArg (arrV c N) (funext fun j => ?_)
    by_cases e : j = i
    · subst e
      simp [updV, va_rf]
    · by_cases h : j < i
      · simp [updV, e, h, Nat.lt_succ_of_lt h]
      · simp [updV, e, h, show ¬ j < i + 1 by omega]
section MNA
variable {G : gE} {d y pc : Nat} {ls : List (Option Value)} {st : List Value} {w : aW} {n bc bs : Nat} {post : Option Value → aW → Nat → Prop}
set_option maxHeartbeats 2000000 in
theorem r_mna {own : String} {idx N K t : Nat} {ty : FieldType} {inn : vp_A} (ho : (mn y).cls = own) (hd : decode (mb y) pc = .ok (.multianewarray idx 2, 4)) (hx : Cond.classLink own idx ("[" ++ (FieldType.array ty).toString) ∈ WALL)
    (ht : (ty = .int ∧ t = 0 ∧ inn = (K, .inl (fun _ => 0))) ∨ (ty = .long ∧ t = 1 ∧ inn = (K, .inr (.inl (fun _ => 0))))) (hN : N ≤ 100) (hK9 : K ≤ 100) (hn : n + 1 + N < gB) (hbc : 1 + N ≤ bc) (hbs : N + N * K ≤ bs)
    (kk : Go G d y (pc + 4) ls (.ref n :: st) (mnaW w n N (.inl (t + 3, (N, .inr (.inr (.inr (.inr (fun i => if i < N then some (n + 1 + i) else none))))))) (.inl (t, inn))) (n + 1 + N) (bc - (1 + N)) (bs - (N + N * K)) post) : Go G d y pc ls (.int (nI K) :: .int (nI N) :: st) w n bc bs post := by
  intro p e R s m args below meth c C9 H locs cells slots Q la hH hS hl h1 h2 hk9
  obtain ⟨hx9, hb9, hm9, hc9, hw9, hi9, hf9, hl9, hK0, hO9⟩ := id C9
  have hsz := hH.1
  have e9 : H.size = gad G n := by rw [gad_lt (by omega)]; exact hsz
  have cN : (nI N).toNatClampNeg = N := nI_clamp (by omega)
  have cK : (nI K).toNatClampNeg = K := nI_clamp (by omega)
  have hover : (Cond.arrayOver (.array ty)).before args s = true := by
    rcases ht with ⟨rfl, -, -⟩ | ⟨rfl, -, -⟩
    · exact hK0.2.2.1
    · exact hK0.2.2.2
  have harr : (Cond.arrayClass ty).before args s = true := by
    rcases ht with ⟨rfl, -, -⟩ | ⟨rfl, -, -⟩
    · exact hw9 _ ac_int
    · exact hw9 _ ac_long
  have hcb : componentBytes ty ≤ 8 := by rcases ht with ⟨rfl, -, -⟩ | ⟨rfl, -, -⟩ <;> decide
  have hb2 : (nI K).toNatClampNeg * componentBytes ty ≤ 536870912 := by
    rw [cK]
    calc K * componentBytes ty ≤ 100 * 8 := Nat.mul_le_mul hK9 hcb
      _ ≤ 536870912 := by decide
  have hNK : N * K ≤ 10000 := Nat.mul_le_mul hN hK9
  have hdf : fits ty (defaultValue ty) = true := by rcases ht with ⟨rfl, -, -⟩ | ⟨rfl, -, -⟩ <;> rfl
  have hdd : (defaultValue ty).isDefault = true := by rcases ht with ⟨rfl, -, -⟩ | ⟨rfl, -, -⟩ <;> rfl
  intro T hT Xs
  obtain ⟨vm₁, cA, comp, -, fA, fC, hO, -, X', step⟩ := Xs.multianewarray2F hx9 (ho ▸ hc9) (hw9 _ hx) hover harr (g := F0 m pc la (.int (nI K) :: .int (nI N) :: st.map (cv G))) rfl (by rw [hb9]; exact hd) rfl (nI_pos (by omega)) (nI_pos (by omega)) (by rw [cN]; omega) hb2 (by rw [cK]; omega) hdf hdd (by rw [cN]; omega) (by rw [cN, cK]; omega)
  rw [cN, cK] at X' step
  generalize hF : Jvm.Free.Multi.fill (T.setVm vm₁) cA comp N K (defaultValue ty) N = F at X' step
  have hTh : (T.setVm vm₁).heap = H := hT
  obtain ⟨f1, f2, -, -⟩ := Jvm.Free.Multi.fill_facts (T.setVm vm₁) cA comp N K (defaultValue ty) N
  rw [hF, hTh] at f1 f2
  have hold : ∀ x : Nat, x < H.size → F.heap[x]? = H[x]? := fun x hx => by
    have := Jvm.Free.Multi.fill_old (T.setVm vm₁) cA comp N K (defaultValue ty) (a := x) (by rw [hTh]; exact hx) N
    rw [hF, hTh] at this
    exact this
  have hrow : ∀ j : Nat, j < N → F.heap[H.size + 1 + j]? = some (Jvm.Free.Multi.innerC comp K (defaultValue ty)) := fun j hj => by
    have := Jvm.Free.Multi.fill_inner (T.setVm vm₁) cA comp N K (defaultValue ty) N j hj
    rw [hF, hTh] at this
    exact this
  rw [mna_outer] at f2
  have hKt := hK0.1.2
  have ecA : cA = gtc G (t + 3) := by
    rcases ht with ⟨rfl, rfl, -⟩ | ⟨rfl, rfl, -⟩
    · exact Option.some.inj (fA.symm.trans (hKt 3 _ rfl).2)
    · exact Option.some.inj (fA.symm.trans (hKt 4 _ rfl).2)
  have ecp : comp = gtc G t := by
    rcases ht with ⟨rfl, rfl, -⟩ | ⟨rfl, rfl, -⟩
    · exact Option.some.inj (fC.symm.trans (hKt 0 _ rfl).2)
    · exact Option.some.inj (fC.symm.trans (hKt 1 _ rfl).2)
  have hin : Jvm.Free.Multi.innerC comp K (defaultValue ty) = vp_cell (gtc G t) (cx G inn) := by
    rw [ecp]
    rcases ht with ⟨rfl, rfl, rfl⟩ | ⟨rfl, rfl, rfl⟩
    · exact arrV_new _ _ _
    · exact arrV_new _ _ _
  have hHR : HR G (mnaW w n N (.inl (t + 3, (N, .inr (.inr (.inr (.inr (fun i => if i < N then some (n + 1 + i) else none))))))) (.inl (t, inn))) (n + 1 + N) F.heap := by
    refine ⟨by rw [f1]; omega, by omega, fun k hk => ?_⟩
    unfold mnaW
    by_cases e1 : k = n
    · rw [if_pos e1, e1]
      show F.heap[gad G n]? = some (arrV (gtc G (t + 3)) N (fun j => va_rf ((if j < N then some (n + 1 + j) else none).map (gad G))))
      rw [← e9, f2, ecA]
      refine congrArg (fun z => some (arrV (gtc G (t + 3)) N z)) (funext fun j => ?_)
      by_cases e2 : j < N
      · rw [if_pos e2, if_pos e2]
        show Value.ref (H.size + 1 + j) = Value.ref (gad G (n + 1 + j))
        rw [gad_lt (by omega), hsz]
        have e5 : gb G + n + 1 + j = gb G + (n + 1 + j) := by omega
        exact congrArg Value.ref e5
      · rw [if_neg e2, if_neg e2]
        rfl
    · rw [if_neg e1]
      by_cases e2 : n < k ∧ k ≤ n + N
      · rw [if_pos e2]
        show F.heap[gad G k]? = some (vp_cell (gtc G t) (cx G inn))
        rw [← hin, ← hrow (k - n - 1) (by omega), gad_lt (by omega)]
        exact congrArg (fun z => F.heap[z]?) (by omega)
      · rw [if_neg e2]
        refine (hH.2.2 k (by omega)).kept (hold _ ?_)
        show gad G k < H.size
        rw [gad_lt (by omega)]
        omega
  obtain ⟨t9, a1, b1⟩ := kk p e R s m args below meth c C9 F.heap locs (cells + 1 + N) (slots + N + N * K) Q la hHR ⟨by rw [f1]; have := hS.1; omega, fun x q1 q2 => (hold x (by have := hS.1; omega)).trans (hS.2.1 x q1 q2), hS.2.2⟩ hl (by omega) (by omega) hk9 F rfl X'
  refine ⟨t9, step t9 ?_, b1⟩
  have eT : T.heap.size = gad G n := by rw [hT]; exact e9
  rw [eT]
  exact a1
end MNA
