-- THE ABSTRACT WORLD: cells by number, addresses base + number; what is older than the law by numbers from gB on
abbrev gE : Type := Launch × Nat × va_G × (Nat → ClassId) × (Nat → Nat) × Value × Nat × (Nat → Int32)
abbrev gl (G : gE) : Launch := G.1
abbrev gb (G : gE) : Nat := G.2.1
abbrev gD (G : gE) : va_G := G.2.2.1
abbrev gtc (G : gE) : Nat → ClassId := G.2.2.2.1
abbrev gao (G : gE) : Nat → Nat := G.2.2.2.2.1
abbrev gfm (G : gE) : Value := G.2.2.2.2.2.1
abbrev gL (G : gE) : Nat := G.2.2.2.2.2.2.1
abbrev gxs (G : gE) : Nat → Int32 := G.2.2.2.2.2.2.2
def gB : Nat := 1000000000
def gad (G : gE) (k : Nat) : Nat := if k < gB then gb G + k else gao G (k - gB)
def cv (G : gE) (v : Value) : Value := match v with
  | .ref k => .ref (gad G k)
  | v => v
abbrev aC : Type := (Nat × vp_A) ⊕ (Nat × List Value)
abbrev aW : Type := Nat → aC
def cx (G : gE) (a : vp_A) : vp_A := (a.1, match a.2 with
  | .inr (.inr (.inr (.inr f))) => .inr (.inr (.inr (.inr (fun i => (f i).map (gad G)))))
  | x => x)
def ce (G : gE) (c : aC) : va_E := match c with
  | .inl (t, a) => .inl (gtc G t, cx G a)
  | .inr (ci, fs) => .inr (ci, fs.map (cv G))
def tyf (t : Nat) : FieldType := match t with
  | 0 => .int
  | 1 => .long
  | 2 => .boolean
  | 3 => .array .int
  | _ => .array .long
def gtys (G : gE) : List (ClassId × FieldType) := [(gtc G 0, .int), (gtc G 1, .long), (gtc G 2, .boolean), (gtc G 3, .array .int), (gtc G 4, .array .long)]
def upw (w : aW) (a : Nat) (c : aC) : aW := fun k => if k = a then c else w k
theorem upw_s {w : aW} {a : Nat} {c : aC} : upw w a c a = c := if_pos rfl
theorem upw_n {w : aW} {a k : Nat} {c : aC} (h : k ≠ a) : upw w a c k = w k := if_neg h
def HR (G : gE) (w : aW) (n : Nat) (H : Heap) : Prop := H.size = gb G + n ∧ n ≤ gB ∧ ∀ k, k < n → va_at (gD G) classes (gad G k, ce G (w k)) H
def Af (G : gE) : Nat → Prop := fun q => gb G ≤ q
theorem gad_lt {G : gE} {k : Nat} (h : k < gB) : gad G k = gb G + k := if_pos h
theorem HR.set {G : gE} {w : aW} {n a : Nat} {c : aC} {H H1 : Heap} (h : HR G w n H) (ha : a < n) (h1 : va_at (gD G) classes (gad G a, ce G c) H1) (hz : H1.size = H.size) (ho : ∀ q, q ≠ gad G a → H1[q]? = H[q]?) : HR G (upw w a c) n H1 := by
  refine ⟨hz.trans h.1, h.2.1, fun k hk => ?_⟩
  by_cases e : k = a
  · rw [e, upw_s]
    exact h1
  · rw [upw_n e]
    refine (h.2.2 k hk).kept (ho _ ?_)
    have := h.2.1
    rw [gad_lt (by omega), gad_lt (by omega)]
    omega
theorem HR.push {G : gE} {w : aW} {n : Nat} {c : aC} {H H1 : Heap} (h : HR G w n H) (hn : n < gB) (h1 : va_at (gD G) classes (gad G n, ce G c) H1) (hz : H1.size = H.size + 1) (ho : ∀ q, q < H.size → H1[q]? = H[q]?) : HR G (upw w n c) (n + 1) H1 := by
  refine ⟨by rw [hz, h.1, Nat.add_assoc], hn, fun k hk => ?_⟩
  by_cases e : k = n
  · rw [e, upw_s]
    exact h1
  · rw [upw_n e]
    refine (h.2.2 k (by omega)).kept (ho _ ?_)
    have := h.1
    show gad G k < H.size
    rw [gad_lt (by omega)]
    omega
-- what every state of the launch says
def strB : List (List Int32) := [[111, 110, 101], [100, 101, 97, 108], [104, 117, 114, 116, 115], [103, 97, 105, 110, 115], [98, 97, 114, 115], [108, 97, 119], [111, 110, 99, 101], [99, 111, 117, 114, 116], [102, 105, 110, 101]]
def strL : List Nat := [3, 4, 5, 5, 4, 3, 4, 5, 4]
def sites : List (String × Nat × Nat × String) := [("NeedsALoser$Reader", 45, 0, "one"), ("NeedsALoser$Reader", 54, 1, "deal"), ("NeedsALoser$Reader", 101, 2, "hurts"), ("NeedsALoser$Reader", 59, 3, "gains"), ("NeedsALoser$Reader", 64, 4, "bars"), ("NeedsALoser$Reader", 69, 5, "law"), ("NeedsALoser$Reader", 77, 6, "once"), ("NeedsALoser$Reader", 79, 7, "court"), ("NeedsALoser$Reader", 81, 8, "fine"), ("NeedsALoserModel", 196, 0, "one"), ("NeedsALoserModel", 182, 1, "deal"), ("NeedsALoserModel", 194, 2, "hurts"), ("NeedsALoserModel", 203, 3, "gains"), ("NeedsALoserModel", 217, 4, "bars"), ("NeedsALoserModel", 205, 5, "law"), ("NeedsALoserModel", 211, 6, "once"), ("NeedsALoserModel", 213, 7, "court"), ("NeedsALoserModel", 215, 8, "fine")]
def aboveL : List Int32 := [-1, 0, 1, 1, 0, 1, 0]
def Kst (G : gE) (U : State) : Prop := va_K (gD G) classes (gtys G) U ∧ (∀ w ∈ NST, va_Nw w U) ∧ (Cond.arrayOver (.array .int)).before #[] U = true ∧ (Cond.arrayOver (.array .long)).before #[] U = true
def Old (G : gE) (U : State) : Prop :=
  vk_S 9 strL strB (fun i => gao G i) (fun i => gao G (100 + i)) (Af G) U U.heap ∧
  (∀ e ∈ sites, vk_R e.1 e.2.1 e.2.2.2 (gao G e.2.2.1) U) ∧
  va_Z "NeedsALoser$Rules" "ABOVE" "[I" (.ref (gao G 200)) (Af G) U U.heap ∧
  va_T .int (gao G 200) 7 (fun j => .int (aboveL.getD j 0)) (Af G) U U.heap ∧
  va_Z "java/lang/String" "COMPACT_STRINGS" "Z" (.int 1) (Af G) U U.heap ∧
  va_Z "jdk/internal/util/Preconditions" "SIOOBE_FORMATTER" "Ljava/util/function/BiFunction;" (cv G (gfm G)) (Af G) U U.heap ∧
  va_X (gao G 201) (gL G) (gxs G) U U.heap ∧ gao G 201 < gb G ∧ gb G ≤ U.heap.size
theorem nst_warm {w : Cond} (hw : isNest w = true) {s U : State} (hW : s.WarmedH U.vm) (h : va_Nw w s) : va_Nw w U := by
  cases w with
  | methodLinkNest a i x hst => exact va_Nw.warmM hW h
  | fieldLinkNest a i b nn dd hst => exact va_Nw.warmF hW h
  | _ => cases hw
theorem over_warm {ty : FieldType} {s U : State} (hW : s.WarmedH U.vm) (h : (Cond.arrayOver ty).before #[] s = true) : (Cond.arrayOver ty).before #[] U = true := by
  have h1 := (Cond.arrayOver_setVmC (args := #[]) hW.alike ty).trans h
  exact h1
theorem Kst.warm {G : gE} {s U : State} (hW : s.WarmedH U.vm) (h : Kst G s) : Kst G U :=
  ⟨va_K.moved hW.alike h.1, fun w hw => nst_warm (List.mem_filter.mp hw).2 hW (h.2.1 w hw), over_warm hW h.2.2.1, over_warm hW h.2.2.2⟩
theorem Old.warm {G : gE} {s U : State} (hW : s.WarmedH U.vm) (hq : ∀ a : Nat, a < s.heap.size → ¬ Af G a → U.heap[a]? = s.heap[a]?) (hz : s.heap.size ≤ U.heap.size) (h : Old G s) : Old G U := by
  obtain ⟨h1, h2, h3, h4, h5, h6, h7, h8, h9⟩ := h
  refine ⟨(h1.moved hW.alike).kept hq, fun e he => (h2 e he).warm hW, (h3.moved hW.alike).kept hq, (h4.moved hW.alike).kept hq, (h5.moved hW.alike).kept hq, (h6.moved hW.alike).kept hq, (h7.moved hW.alike).kept (hq _ (Nat.lt_of_lt_of_le h8 h9) (Nat.not_le.mpr h8)), h8, Nat.le_trans h9 hz⟩
-- locals
def asc (G : gE) (ls : List (Option Value)) : List (Nat × Value) := ls.zipIdx.filterMap (fun p => p.1.map (fun v => (p.2, cv G v)))
theorem asc_mem {G : gE} {ls : List (Option Value)} {q : Nat × Value} : q ∈ asc G ls ↔ ∃ v, ls[q.1]? = some (some v) ∧ q.2 = cv G v := by
  obtain ⟨i, u⟩ := q
  unfold asc
  rw [List.mem_filterMap]
  constructor
  · rintro ⟨⟨o, j⟩, h1, h2⟩
    rw [List.mem_zipIdx_iff_getElem?] at h1
    cases o with
    | none => cases h2
    | some v =>
      simp only [Option.map_some, Option.some.injEq, Prod.mk.injEq] at h2
      obtain ⟨rfl, rfl⟩ := h2
      exact ⟨v, h1, rfl⟩
  · rintro ⟨v, h1, h2⟩
    refine ⟨(some v, i), ?_, ?_⟩
    · rw [List.mem_zipIdx_iff_getElem?]
      exact h1
    · simp only [Option.map_some, Option.some.injEq, Prod.mk.injEq]
      exact ⟨trivial, h2.symm⟩
def lvs (G : gE) (la : Array Slot) (nL : Nat) (ls : List (Option Value)) : Prop := lv_has la nL (asc G ls)
theorem lvs.at {G : gE} {la : Array Slot} {nL i : Nat} {ls : List (Option Value)} {v : Value} (h : lvs G la nL ls) (hv : ls[i]? = some (some v)) : la[i]? = some (.val (cv G v)) := h.2.2 (i, cv G v) (asc_mem.mpr ⟨v, hv, rfl⟩)
theorem lvs.mono {G : gE} {la : Array Slot} {nL : Nat} {ls ls' : List (Option Value)} (h : lvs G la nL ls) (hs : ∀ (i : Nat) (v : Value), ls'[i]? = some (some v) → ls[i]? = some (some v)) : lvs G la nL ls' := by
  refine ⟨h.1, h.2.1, fun q hq => ?_⟩
  obtain ⟨v, h1, h2⟩ := asc_mem.mp hq
  rw [h2]
  exact h.at (hs _ _ h1)
theorem cv_cat {G : gE} {v : Value} : (cv G v).category = v.category := by cases v <;> rfl
/-- a store of a value of one place at i -/
def st1 (ls : List (Option Value)) (i : Nat) (v : Value) (ls' : List (Option Value)) : Prop := ∀ (j : Nat) (u : Value), ls'[j]? = some (some u) → (j = i ∧ u = v) ∨ (j ≠ i ∧ ls[j]? = some (some u) ∧ (j + 1 = i → u.category ≠ 2))
def st2 (ls : List (Option Value)) (i : Nat) (v : Value) (ls' : List (Option Value)) : Prop := ∀ (j : Nat) (u : Value), ls'[j]? = some (some u) → (j = i ∧ u = v) ∨ (j ≠ i ∧ j ≠ i + 1 ∧ ls[j]? = some (some u) ∧ (j + 1 = i → u.category ≠ 2))
theorem lvs.of1 {G : gE} {la : Array Slot} {nL i : Nat} {ls ls' : List (Option Value)} {v : Value} (hs : st1 ls i v ls') (h : lv_has la nL ((i, cv G v) :: (asc G ls).filter (fun q => !(q.1 == i) && !(q.1 + 1 == i && q.2.category == 2)))) : lvs G la nL ls' := by
  refine ⟨h.1, h.2.1, fun q hq => ?_⟩
  obtain ⟨u, h1, h2⟩ := asc_mem.mp hq
  refine h.2.2 q ?_
  obtain ⟨j, z⟩ := q
  cases h2
  rcases hs j u h1 with ⟨rfl, rfl⟩ | ⟨n1, n2, n3⟩
  · exact List.mem_cons_self
  · refine List.mem_cons_of_mem _ (List.mem_filter.mpr ⟨asc_mem.mpr ⟨u, n2, rfl⟩, ?_⟩)
    simp only [Bool.and_eq_true, Bool.not_eq_true', beq_eq_false_iff_ne, Bool.and_eq_false_iff, cv_cat]
    refine ⟨n1, ?_⟩
    by_cases e : j + 1 = i
    · exact Or.inr (by show (cv G u).category ≠ 2; rw [cv_cat]; exact n3 e)
    · exact Or.inl e
theorem lvs.of2 {G : gE} {la : Array Slot} {nL i : Nat} {ls ls' : List (Option Value)} {v : Value} (hs : st2 ls i v ls') (h : lv_has la nL ((i, cv G v) :: (asc G ls).filter (fun q => !(q.1 == i) && (!(q.1 == i + 1) && !(q.1 + 1 == i && q.2.category == 2))))) : lvs G la nL ls' := by
  refine ⟨h.1, h.2.1, fun q hq => ?_⟩
  obtain ⟨u, h1, h2⟩ := asc_mem.mp hq
  refine h.2.2 q ?_
  obtain ⟨j, z⟩ := q
  cases h2
  rcases hs j u h1 with ⟨rfl, rfl⟩ | ⟨n1, n0, n2, n3⟩
  · exact List.mem_cons_self
  · refine List.mem_cons_of_mem _ (List.mem_filter.mpr ⟨asc_mem.mpr ⟨u, n2, rfl⟩, ?_⟩)
    simp only [Bool.and_eq_true, Bool.not_eq_true', beq_eq_false_iff_ne, Bool.and_eq_false_iff, cv_cat]
    refine ⟨n1, n0, ?_⟩
    by_cases e : j + 1 = i
    · exact Or.inr (by show (cv G u).category ≠ 2; rw [cv_cat]; exact n3 e)
    · exact Or.inl e
def ent : List Value → List (Option Value)
  | [] => []
  | v :: vs => if v.category = 2 then some v :: none :: ent vs else some v :: ent vs
theorem ent_args {G : gE} : ∀ (vs : List Value) (o i : Nat) (v : Value), (ent vs)[i]? = some (some v) → (o + i, cv G v) ∈ lv_args o (vs.map (cv G))
  | [], o, i, v, h => by simp [ent] at h
  | u :: vs, o, i, v, h => by
    unfold ent at h
    simp only [List.map_cons, lv_args]
    rw [cv_cat]
    by_cases hu : u.category = 2
    · rw [if_pos hu] at h ⊢
      match i, h with
      | 0, h =>
        simp only [List.getElem?_cons_zero, Option.some.injEq] at h
        rw [h]
        exact List.mem_cons_self
      | 1, h => simp at h
      | i + 2, h =>
        simp only [List.getElem?_cons_succ] at h
        refine List.mem_cons_of_mem _ ?_
        have := ent_args (G := G) vs (o + 2) i v h
        rwa [show o + 2 + i = o + (i + 2) by omega] at this
    · rw [if_neg hu] at h ⊢
      match i, h with
      | 0, h =>
        simp only [List.getElem?_cons_zero, Option.some.injEq] at h
        rw [h]
        exact List.mem_cons_self
      | i + 1, h =>
        simp only [List.getElem?_cons_succ] at h
        refine List.mem_cons_of_mem _ ?_
        have := ent_args (G := G) vs (o + 1) i v h
        rwa [show o + 1 + i = o + (i + 1) by omega] at this
theorem ent_len {G : gE} : ∀ (vs : List Value), (lg_sl (vs.map (cv G))).length = (ent vs).length
  | [] => rfl
  | u :: vs => by
    have ih := ent_len (G := G) vs
    unfold ent
    unfold lg_sl at ih ⊢
    rw [List.map_cons, List.flatMap_cons, List.length_append, ih, cv_cat]
    by_cases hu : u.category = 2
    · rw [if_pos hu, if_pos hu]
      simp only [List.length_cons, List.length_nil]
      omega
    · rw [if_neg hu, if_neg hu]
      simp only [List.length_cons, List.length_nil]
      omega
-- the words, the context
abbrev ws (z : Nat) : List Cond := .code (mn z) (mb z) (ml z) (mr z) :: WALL
theorem wall_good : GoodIn WALL WALL := fun w hw => ⟨hw, good_of_word (List.mem_filter.mp hw).2⟩
theorem wall_good1 {w : Cond} (h : w ∈ WALL) : w ∈ WALL ∧ ((w.onTables && w.keeps) = true ∨ ∃ ty, w = .arrayClass ty) := wall_good w h
theorem wall_z {z na : Nat} (h : okM z na) : GoodIn WALL (ws z) := fun w hw => (List.mem_cons.mp hw).elim (fun e => by rw [e]; exact wall_good1 h.1) (fun e => wall_good1 e)
def Cx (G : gE) (d y : Nat) (p : Program) (R : Room) (s : State) (m : MethodId) (args : Array Value) (meth : Method) (c : Code) : Prop :=
  p.tables.exec = Jvm.exec ∧ c.code = mb y ∧ c.maxLocals = ml y ∧ s.vm.findClass (mn y).cls = some m.cls ∧ (∀ w ∈ WALL, w.before args s = true) ∧ ((mn y).name = "<init>" → meth.name = "<init>") ∧ d ≤ R.frames ∧ 64 * d ≤ R.locals ∧ Kst G s ∧ Old G s
def Rt (y pc : Nat) (r : Option Value) : Prop := match r with
  | none => decode (mb y) pc = .ok (.return_, 1) ∧ mr y = none
  | some (.int x) => decode (mb y) pc = .ok (.ireturn, 1) ∧ ∃ ty, mr y = some ty ∧ narrow ty (.int x) = .int x
  | some (.long _) => decode (mb y) pc = .ok (.lreturn, 1) ∧ mr y = some .long
  | some (.ref _) => decode (mb y) pc = .ok (.areturn, 1) ∧ ∃ c, mr y = some (.object c)
  | _ => False
def Go (G : gE) (d y pc : Nat) (ls : List (Option Value)) (st : List Value) (w : aW) (n bc bs : Nat) (post : Option Value → aW → Nat → Prop) : Prop :=
  ∀ (p : Program) (e : Env) (R : Room) (s : State) (m : MethodId) (args : Array Value) (below : List Frame) (meth : Method) (c : Code), Cx G d y p R s m args meth c →
  ∀ (H : Heap) (locs : List Loc) (cells slots : Nat) (Q : State → Prop) (la : Array Slot), HR G w n H → va_S (Af G) s.heap H locs → lvs G la (ml y) ls → cells + bc ≤ R.cells → slots + bs ≤ R.slots →
  (∀ (r : Option Value) (w' : aW) (n' : Nat) (H' : Heap) (locs' : List Loc) (cells' slots' : Nat) (la' : Array Slot) (pc' : Nat), post r w' n' → HR G w' n' H' → va_S (Af G) s.heap H' locs' → cells' ≤ R.cells → slots' ≤ R.slots → Rt y pc' r → W p (gl G) e R s m args below meth c H' locs' cells' slots' Q (F0 m pc' la' (r.map (cv G)).toList)) →
  W p (gl G) e R s m args below meth c H locs cells slots Q (F0 m pc la (st.map (cv G)))
def MtP (G : gE) (w : aW) (n : Nat) (args : List Value) : Array Value → State → Prop := va_Pc (args.map (cv G)) (fun U => Kst G U ∧ Old G U ∧ HR G w n U.heap)
def MtQ (G : gE) (post : Option Value → aW → Nat → Prop) : Array Value → State → Outcome → State → Prop := fun _ st o t => (∃ (r : Option Value) (w' : aW) (n' : Nat), o = .returned (r.map (cv G)) ∧ post r w' n' ∧ HR G w' n' t.heap) ∧ va_F (Af G) st t
def rmOf (d cc cs : Nat) : Room := { frames := d, cells := cc, slots := cs, locals := 64 * d }
def Mt (G : gE) (d z : Nat) (args : List Value) (w : aW) (n cc cs : Nat) (post : Option Value → aW → Nat → Prop) : Prop :=
  Met (gl G) (mn z) (ws z) (rmOf d cc cs) (MtP G w n args) (MtQ G post) cc cs (Af G)
theorem mt_blind {G : gE} {w : aW} {n : Nat} {args : List Value} : FrameBlind (MtP G w n args) := by
  intro a U g mk h
  obtain ⟨h1, h2, h3, h4⟩ := h
  have hW : U.WarmedH (U.calling g mk a).vm := State.WarmedH.refl U
  exact ⟨h1, h2.warm hW, h3.warm hW (fun _ _ _ => rfl) (Nat.le_refl _), h4⟩
theorem rt_met {G : gE} {p : Program} {l : Launch} {e : Env} {R : Room} {s : State} {m : MethodId} {args : Array Value} {below : List Frame} {meth : Method} {c : Code} {H : Heap} {locs : List Loc} {cells slots cc cs y pc : Nat} {la : Array Slot} {r : Option Value} {Qc : Array Value → State → Outcome → State → Prop} {free : Addr → Prop}
    (hexec : p.tables.exec = Jvm.exec) (hb : c.code = mb y) (hr : meth.sig.returnType = mr y) (hlocks : meth.locks = false) (h : Rt y pc r) (hq : ∀ t : State, t.heap = H → s.WarmedH t.vm → Qc args s (.returned (r.map (cv G))) t) (hf : ∀ q ∈ locs, free q.base) (h1 : cells ≤ cc) (h2 : slots ≤ cs) :
    W p l e R s m args below meth c H locs cells slots (MQ below Qc args s cc cs free) (F0 m pc la (r.map (cv G)).toList) := by
  refine W.widen h1 h2 ?_
  match r, h, hq with
  | none, h, hq => exact W.vret hexec hb (hr.trans h.2) hq hf h.1 hlocks
  | some (.int x), h, hq =>
    obtain ⟨hd, ty, ht, hn⟩ := h
    exact W.zret hexec hb (hr.trans ht) hn hq hf hd hlocks
  | some (.long x), h, hq => exact W.lret hexec hb (hr.trans h.2) hq hf h.1 hlocks
  | some (.ref k), h, hq =>
    obtain ⟨hd, cc9, ht⟩ := h
    exact W.aret hexec hb (hr.trans ht) (Or.inl ⟨_, rfl⟩) (Or.inr ⟨_, rfl⟩) hq hf hd hlocks
set_option maxHeartbeats 1000000 in
/-- a contract out of a walk from the entry -/
theorem Mt.of {G : gE} {d z na nL : Nat} {args : List Value} {w : aW} {n cc cs : Nat} {post : Option Value → aW → Nat → Prop} {ls : List (Option Value)} (hz : okM z na) (hm : ml z = nL) (hfit : (ent args).length ≤ nL) (hls : ent args ++ List.replicate (nL - (ent args).length) none = ls)
    (h : Go G d z 0 ls [] w n cc cs post) : Mt G d z args w n cc cs post := by
  refine va_MetF (cc := mb z) (maxL := ml z) (ret := mr z) (ws' := WALL) hz.2.2.2 rfl ?_
  intro p e s m vs below meth c s₁ B hml hv
  obtain ⟨rfl, hK, hO, hH⟩ := hv
  have hts := atoms_spec (ws := ws z) B.pre
  have hown : s.vm.findClass (mn z).cls = some m.cls := findClass_of_methodNamed B.named
  have hnm : meth.name = (mn z).name := (name_of_methodNamed B.named B.method).1
  have hl := lv_entry (args.map (cv G)) (n := nL) (by rw [ent_len]; exact hfit)
  rw [lg_entry_eq, hm]
  generalize (lg_sl (args.map (cv G)) ++ List.replicate (nL - (lg_sl (args.map (cv G))).length) Slot.unset).toArray = la at hl ⊢
  have hlv : lvs G la (ml z) ls := by
    rw [hm, ← hls]
    refine ⟨hl.1, hl.2.1, fun q hq => ?_⟩
    obtain ⟨v, h1, h2⟩ := asc_mem.mp hq
    have h3 : (ent args)[q.1]? = some (some v) := by
      by_cases e9 : q.1 < (ent args).length
      · rwa [List.getElem?_append_left e9] at h1
      · rw [List.getElem?_append_right (by omega)] at h1
        rw [List.getElem?_replicate] at h1
        split at h1 <;> cases h1
    have h4 := ent_args (G := G) args 0 q.1 v h3
    rw [Nat.zero_add, ← h2] at h4
    exact hl.2.2 q h4
  refine h p e _ s m _ below meth c ⟨B.exec, B.bytes, hml, hown, fun w hw => hts w (List.mem_cons_of_mem _ hw), fun e9 => hnm.trans e9, Nat.le_refl _, Nat.le_refl _, hK, hO⟩ s.heap [] 0 0 _ la hH va_S.rf hlv (Nat.le_of_eq (Nat.zero_add _)) (Nat.le_of_eq (Nat.zero_add _)) ?_
  intro r w' n' H' locs' cells' slots' la' pc' hp hH' hS' h1 h2 hr
  refine rt_met B.exec B.bytes B.returns B.notSynchronized hr ?_ (fun q hq => hS'.2.2 q hq) h1 h2
  intro t ht hW
  exact ⟨⟨r, w', n', rfl, hp, by rw [ht]; exact hH'⟩, hS'.F ht⟩
