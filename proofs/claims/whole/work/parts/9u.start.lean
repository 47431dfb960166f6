-- THE CLAIM'S OWN NAMES (the skeleton's) AND THE START
def R_law : String := "NeedsALoserLaw"
def lw_P (b : Addr) (xs : List Int32) (args : Array Value) (s : State) : Prop := args = #[.ref b] ∧ s.IntsAt b xs ∧ xs.length ≤ 384 ∧ (Jvm.Cond.and given_1 narrow_1).before args s = true
def lw_Q (_ : Array Value) (s : State) (o : Outcome) (t : State) : Prop := o = .returned (some (.int 1)) ∧ Framed s o t [] 600000 7302250
def lw_Z (below : List Frame) (a : Array Value) (s : State) : State → Prop := fun t => ∃ o, t.status = .running ∧ Ended t below o ∧ lw_Q a s o t
/-- the law's own end, with 1 on the stack, nothing written that was there before, its room as the claim has it -/
theorem lw_ret {p : Program} {l : Launch} {e : Env} {s : State} {m : MethodId} {below : List Frame} {meth : Method} {c : Code} {b : Nat} (hx : p.tables.exec = Jvm.exec) (hb : c.code = code) (hr : meth.sig.returnType = ret) (hlocks : meth.locks = false) {pc : Nat} {H : Heap} {ls : Array Slot} (hdg : decode code pc = .ok (.ireturn, 1)) : W p l e room_1 s m #[Value.ref b] below meth c H [] 600000 7302250 (lw_Z below #[Value.ref b] s) (F0 m pc ls [.int 1]) := by
  intro T hT X
  obtain ⟨fs, hret, hrun, hended, hW, hframe⟩ := X.leave (v := some (.int 1)) (hlocks := hlocks) (fun h => by rw [hr] at h; cases h)
  have hmeth' : T.vm.method? m = some meth := X.method'
  refine ⟨T.setFrames fs, ?_, .returned (some (.int 1)), hrun, hended, rfl, ⟨_, rfl⟩, hW, hframe⟩
  jvm_step X.here [X.here.top, hx, hb, hdg, hmeth', hr, ret, narrow_b1]
  (try refine ⟨rfl, ?_⟩); (try refine ⟨rfl, ?_⟩)
  first | (intro acts; rw [hret _ acts rfl rfl rfl]) | rw [hret _ _ rfl rfl rfl]
  exact Steps.refl _
def lw_At (p : Program) (s : State) (m : MethodId) (meth : Method) (c : Code) (b L : Nat) (xs : Nat → Int32) : Prop :=
  p.tables.exec = Jvm.exec ∧ c.code = code ∧ meth.sig.returnType = ret ∧ c.maxLocals = 4 ∧ s.vm.findClass R_law = some m.cls ∧ (∀ w ∈ lw_tbl, w.before #[Value.ref b] s = true) ∧ va_X b L xs s s.heap ∧ b < s.heap.size ∧ meth.locks = false ∧ (Jvm.Cond.and given_1 narrow_1).before #[Value.ref b] s = true
-- what the Statement gives of the start
def FL : List Cond := flatC (Jvm.Cond.and given_1 narrow_1)
def sidx (i : Nat) : Nat := [45, 54, 101, 59, 64, 69, 77, 79, 81].getD i 0
def tmS (i : Nat) : Term := .string "NeedsALoser$Reader" (sidx i)
theorem fl_ex : ∀ i, i < 9 → Cond.exactly (tmS i) "java/lang/String" ∈ FL := by decide +kernel
theorem fl_co : ∀ i, i < 9 → Cond.eq (.field (tmS i) "java/lang/String" "coder" "B") (.int 0) ∈ FL := by decide +kernel
theorem fl_ar : ∀ i, i < 9 → Cond.arrayOf (.field (tmS i) "java/lang/String" "value" "[B") .byte ∈ FL := by decide +kernel
theorem fl_le : ∀ i, i < 9 → Cond.eq (.length (.field (tmS i) "java/lang/String" "value" "[B")) (.int (Int32.ofNat (strL.getD i 0))) ∈ FL := by decide +kernel
theorem fl_el : ∀ i, i < 9 → ∀ j, j < strL.getD i 0 → Cond.eq (.elem (.field (tmS i) "java/lang/String" "value" "[B") (.int (Int32.ofNat j))) (.int ((strB.getD i []).getD j 0)) ∈ FL := by decide +kernel
theorem fl_ne : ∀ i, i < 9 → ∀ j, j < 9 → i ≠ j → Cond.not (Cond.eq (tmS i) (tmS j)) ∈ FL ∨ Cond.not (Cond.eq (tmS j) (tmS i)) ∈ FL := by decide +kernel
theorem fl_si : ∀ e ∈ sites, e.2.2.1 < 9 ∧ Cond.stringRef e.1 e.2.1 e.2.2.2 ∈ lw_tbl ∧ ((e.1 = "NeedsALoser$Reader" ∧ e.2.1 = sidx e.2.2.1) ∨ Cond.eq (tmS e.2.2.1) (.string e.1 e.2.1) ∈ FL ∨ Cond.eq (.string e.1 e.2.1) (tmS e.2.2.1) ∈ FL) := by decide +kernel
def tmA : Term := .static "NeedsALoser$Rules" "ABOVE" "[I"
theorem fl_ab : Cond.arrayOf tmA .int ∈ FL ∧ Cond.eq (.length tmA) (.int (Int32.ofNat 7)) ∈ FL ∧ (∀ j, j < 7 → Cond.eq (.elem tmA (.int (Int32.ofNat j))) (.int (aboveL.getD j 0)) ∈ FL) ∧ Cond.eq (.static "java/lang/String" "COMPACT_STRINGS" "Z") (.int 1) ∈ FL ∧ Cond.isRef (.static "jdk/internal/util/Preconditions" "SIOOBE_FORMATTER" "Ljava/util/function/BiFunction;") ∈ FL := by decide +kernel
theorem tb_ls : (Cond.laysStatic "NeedsALoser$Rules" "ABOVE" "[I" ∈ lw_tbl ∧ Cond.initialized "NeedsALoser$Rules" ∈ lw_tbl) ∧ (Cond.laysStatic "java/lang/String" "COMPACT_STRINGS" "Z" ∈ lw_tbl ∧ Cond.initialized "java/lang/String" ∈ lw_tbl) ∧ (Cond.laysStatic "jdk/internal/util/Preconditions" "SIOOBE_FORMATTER" "Ljava/util/function/BiFunction;" ∈ lw_tbl ∧ Cond.initialized "jdk/internal/util/Preconditions" ∈ lw_tbl) ∧ Cond.arrayOver (.array .int) ∈ lw_tbl ∧ Cond.arrayOver (.array .long) ∈ lw_tbl := by decide +kernel
theorem wall_tbl {w : Cond} (h : w ∈ WALL) : w ∈ lw_tbl := (List.mem_filter.mp h).1
