-- THE RULES: an instruction each, over the abstract world (written by wip/whole/gen05.py)
theorem ml_le (z : Nat) : ml z ≤ 45 := by
  have h : mtb.all (fun e => decide (e.2.2.1 ≤ 45)) = true := by decide +kernel
  show (mtb.getD z _).2.2.1 ≤ 45
  rw [List.getD_eq_getElem?_getD]
  cases hz : mtb[z]? with
  | none => exact Nat.zero_le _
  | some e9 => exact of_decide_eq_true (List.all_eq_true.mp h e9 (List.mem_of_getElem? hz))
theorem va_P1 {D : va_G} {cl : List vw_C} {q : Nat × va_E} {H : Heap} (h : va_at D cl q H) : va_P D cl [q] H := by
  intro k x hk
  match k, hk with
  | 0, hk => cases hk; exact h
theorem cat_map {G : gE} (l : List Value) : ((l.map (cv G)).map fun v => v.category).sum = (l.map fun v => v.category).sum := by
  rw [List.map_map]
  congr 1
  exact List.map_congr_left (fun v _ => cv_cat)
theorem HR.at {G : gE} {w : aW} {n a : Nat} {c : aC} {H : Heap} (h : HR G w n H) (ha : a < n) (hw : w a = c) : va_at (gD G) classes (gad G a, ce G c) H := by
  rw [← hw]
  exact h.2.2 a ha
theorem HR.a {G : gE} {w : aW} {n a : Nat} {H : Heap} (h : HR G w n H) (ha : a < n) : Af G (gad G a) := by
  have := h.2.1
  show gb G ≤ gad G a
  rw [gad_lt (by omega)]
  omega
def nl (o : Option Value) : Bool := match o with
  | some v => v.category != 2
  | none => true
def nlAt (ls : List (Option Value)) (i : Nat) : Bool := match i with
  | 0 => true
  | i + 1 => nl (ls.getD i none)
theorem st1_set {ls : List (Option Value)} {i : Nat} {v : Value} (hn : nlAt ls i = true) : st1 ls i v (ls.set i (some v)) := by
  intro j u hj
  by_cases e : j = i
  · subst e
    rw [List.getElem?_set] at hj
    rw [if_pos rfl] at hj
    split at hj
    · cases hj
      exact Or.inl ⟨rfl, rfl⟩
    · cases hj
  · rw [List.getElem?_set_ne (Ne.symm e)] at hj
    refine Or.inr ⟨e, hj, fun e2 => ?_⟩
    subst e2
    have h9 : nl (ls.getD j none) = true := hn
    rw [List.getD_eq_getElem?_getD, hj] at h9
    simpa [nl] using h9
theorem st2_set {ls : List (Option Value)} {i : Nat} {v : Value} (hn : nlAt ls i = true) : st2 ls i v ((ls.set i (some v)).set (i + 1) none) := by
  intro j u hj
  by_cases e1 : j = i + 1
  · subst e1
    rw [List.getElem?_set, if_pos rfl] at hj
    split at hj <;> cases hj
  · rw [List.getElem?_set_ne (Ne.symm e1)] at hj
    rcases st1_set hn j u hj with h | ⟨h3, h4, h5⟩
    · exact Or.inl h
    · exact Or.inr ⟨h3, e1, h4, h5⟩
section RULES
variable {G : gE} {d y pc : Nat} {ls : List (Option Value)} {st : List Value} {w : aW} {n bc bs : Nat} {post : Option Value → aW → Nat → Prop}
theorem r_forget {ls' : List (Option Value)} (hs : ∀ (i : Nat) (v : Value), ls'[i]? = some (some v) → ls[i]? = some (some v)) (k : Go G d y pc ls' st w n bc bs post) : Go G d y pc ls st w n bc bs post := by
  intro p e R s m args below meth c C H locs cells slots Q la hH hS hl h1 h2 hk
  exact k p e R s m args below meth c C H locs cells slots Q la hH hS (hl.mono hs) h1 h2 hk
theorem r_post {post' : Option Value → aW → Nat → Prop} (hp : ∀ r w' n', post' r w' n' → post r w' n') (k : Go G d y pc ls st w n bc bs post') : Go G d y pc ls st w n bc bs post := by
  intro p e R s m args below meth c C H locs cells slots Q la hH hS hl h1 h2 hk
  exact k p e R s m args below meth c C H locs cells slots Q la hH hS hl h1 h2 (fun r w' n' H' locs' cells' slots' la' pc' hq => hk r w' n' H' locs' cells' slots' la' pc' (hp r w' n' hq))
theorem r_less {bc' bs' : Nat} (h3 : bc' ≤ bc) (h4 : bs' ≤ bs) (k : Go G d y pc ls st w n bc' bs' post) : Go G d y pc ls st w n bc bs post := by
  intro p e R s m args below meth c C H locs cells slots Q la hH hS hl h1 h2 hk
  exact k p e R s m args below meth c C H locs cells slots Q la hH hS hl (by omega) (by omega) hk
theorem r_ret {r : Option Value} (hr : Rt y pc r) (hst : st = r.toList) (hp : post r w n) : Go G d y pc ls st w n bc bs post := by
  intro p e R s m args below meth c C H locs cells slots Q la hH hS hl h1 h2 hk
  have h := hk r w n H locs cells slots la pc hp hH hS (by omega) (by omega) hr
  subst hst
  cases r <;> exact h
theorem r_ireturn {x : Int32} {ty : FieldType} (hd : decode (mb y) pc = .ok (.ireturn, 1)) (hm : mr y = some ty) (hn : narrow ty (.int x) = .int x) (hp : post (some (.int x)) w n) : Go G d y pc ls [.int x] w n bc bs post := r_ret (r := some (.int x)) ⟨hd, ty, hm, hn⟩ rfl hp
theorem r_lreturn {x : Int64} (hd : decode (mb y) pc = .ok (.lreturn, 1)) (hm : mr y = some .long) (hp : post (some (.long x)) w n) : Go G d y pc ls [.long x] w n bc bs post := r_ret (r := some (.long x)) ⟨hd, hm⟩ rfl hp
theorem r_areturn {k : Nat} {cn : String} (hd : decode (mb y) pc = .ok (.areturn, 1)) (hm : mr y = some (.object cn)) (hp : post (some (.ref k)) w n) : Go G d y pc ls [.ref k] w n bc bs post := r_ret (r := some (.ref k)) ⟨hd, cn, hm⟩ rfl hp
theorem r_return (hd : decode (mb y) pc = .ok (.return_, 1)) (hm : mr y = none) (hp : post none w n) : Go G d y pc ls [] w n bc bs post := r_ret (r := none) ⟨hd, hm⟩ rfl hp
theorem r_iconst {c0 : Int} {v : Int32} (hd : decode (mb y) pc = .ok (.iconst c0, 1)) (hv : Int32.ofInt c0 = v) (k : Go G d y (pc + 1) ls (.int v :: st) w n bc bs post) : Go G d y pc ls st w n bc bs post := by
  intro p e R s m args below meth c C H locs cells slots Q la hH hS hl h1 h2 hk
  exact lv_iconst C.1 C.2.1 hd hv (k p e R s m args below meth c C H locs cells slots Q la hH hS hl h1 h2 hk)
theorem r_bipush {c0 : Int} {v : Int32} (hd : decode (mb y) pc = .ok (.bipush c0, 2)) (hv : (Int8.ofInt c0).toInt32 = v) (k : Go G d y (pc + 2) ls (.int v :: st) w n bc bs post) : Go G d y pc ls st w n bc bs post := by
  intro p e R s m args below meth c C H locs cells slots Q la hH hS hl h1 h2 hk
  exact lv_bipush C.1 C.2.1 hd hv (k p e R s m args below meth c C H locs cells slots Q la hH hS hl h1 h2 hk)
theorem r_sipush {c0 : Int} {v : Int32} (hd : decode (mb y) pc = .ok (.sipush c0, 3)) (hv : (Int16.ofInt c0).toInt32 = v) (k : Go G d y (pc + 3) ls (.int v :: st) w n bc bs post) : Go G d y pc ls st w n bc bs post := by
  intro p e R s m args below meth c C H locs cells slots Q la hH hS hl h1 h2 hk
  exact lv_sipush C.1 C.2.1 hd hv (k p e R s m args below meth c C H locs cells slots Q la hH hS hl h1 h2 hk)
theorem r_lconst {c0 : Fin 2} {v : Int64} (hd : decode (mb y) pc = .ok (.lconst c0, 1)) (hv : Int64.ofNat (c0 : Nat) = v) (k : Go G d y (pc + 1) ls (.long v :: st) w n bc bs post) : Go G d y pc ls st w n bc bs post := by
  intro p e R s m args below meth c C H locs cells slots Q la hH hS hl h1 h2 hk
  exact lv_lconst C.1 C.2.1 hd hv (k p e R s m args below meth c C H locs cells slots Q la hH hS hl h1 h2 hk)
theorem r_aconst_null (hd : decode (mb y) pc = .ok (.aconst_null, 1)) (k : Go G d y (pc + 1) ls (.null :: st) w n bc bs post) : Go G d y pc ls st w n bc bs post := by
  intro p e R s m args below meth c C H locs cells slots Q la hH hS hl h1 h2 hk
  exact lv_null C.1 C.2.1 hd (k p e R s m args below meth c C H locs cells slots Q la hH hS hl h1 h2 hk)
theorem r_ldc {own : String} {idx : Nat} {v : Int32} (ho : (mn y).cls = own) (hd : decode (mb y) pc = .ok (.ldc idx, 2)) (hx : Cond.constant own idx v ∈ WALL) (k : Go G d y (pc + 2) ls (.int v :: st) w n bc bs post) : Go G d y pc ls st w n bc bs post := by
  intro p e R s m args below meth c C H locs cells slots Q la hH hS hl h1 h2 hk
  exact lv_ldc C.1 C.2.1 (ho ▸ C.2.2.2.1) (C.2.2.2.2.1 _ hx) hd (k p e R s m args below meth c C H locs cells slots Q la hH hS hl h1 h2 hk)
theorem r_ldcw {own : String} {idx : Nat} {v : Int32} (ho : (mn y).cls = own) (hd : decode (mb y) pc = .ok (.ldc_w idx, 3)) (hx : Cond.constant own idx v ∈ WALL) (k : Go G d y (pc + 3) ls (.int v :: st) w n bc bs post) : Go G d y pc ls st w n bc bs post := by
  intro p e R s m args below meth c C H locs cells slots Q la hH hS hl h1 h2 hk
  exact lv_ldcw C.1 C.2.1 (ho ▸ C.2.2.2.1) (C.2.2.2.2.1 _ hx) hd (k p e R s m args below meth c C H locs cells slots Q la hH hS hl h1 h2 hk)
theorem r_ldc2 {own : String} {idx : Nat} {v : Int64} (ho : (mn y).cls = own) (hd : decode (mb y) pc = .ok (.ldc2_w idx, 3)) (hx : Cond.constantLong own idx v ∈ WALL) (k : Go G d y (pc + 3) ls (.long v :: st) w n bc bs post) : Go G d y pc ls st w n bc bs post := by
  intro p e R s m args below meth c C H locs cells slots Q la hH hS hl h1 h2 hk
  exact lv_ldc2 C.1 C.2.1 (ho ▸ C.2.2.2.1) (C.2.2.2.2.1 _ hx) hd (k p e R s m args below meth c C H locs cells slots Q la hH hS hl h1 h2 hk)
theorem r_ldcS {own tx : String} {idx j : Nat} (ho : (mn y).cls = own) (hd : decode (mb y) pc = .ok (.ldc idx, 2)) (hx : (own, idx, j, tx) ∈ sites) (k : Go G d y (pc + 2) ls (.ref (gB + j) :: st) w n bc bs post) : Go G d y pc ls st w n bc bs post := by
  intro p e R s m args below meth c C H locs cells slots Q la hH hS hl h1 h2 hk
  have h9 := C.2.2.2.2.2.2.2.2.2.2.1 _ hx
  have e9 : gad G (gB + j) = gao G j := by unfold gad; rw [if_neg (by omega), Nat.add_sub_cancel_left]
  have k9 := k p e R s m args below meth c C H locs cells slots Q la hH hS hl h1 h2 hk
  rw [List.map_cons, show cv G (.ref (gB + j)) = .ref (gao G j) by show Value.ref (gad G _) = _; rw [e9]] at k9
  exact va_ldcS C.1 C.2.1 (ho ▸ C.2.2.2.1) h9 hd k9
theorem r_iload_n {f : Fin 4} {i : Nat} {x : Int32} (hd : decode (mb y) pc = .ok (.iload_n f, 1)) (hi : (f : Nat) = i) (hv : ls[i]? = some (some (.int x))) (k : Go G d y (pc + 1) ls (.int x :: st) w n bc bs post) : Go G d y pc ls st w n bc bs post := by
  intro p e R s m args below meth c C H locs cells slots Q la hH hS hl h1 h2 hk
  exact lv_iload_n C.1 C.2.1 hd hi (hl.at hv) (k p e R s m args below meth c C H locs cells slots Q la hH hS hl h1 h2 hk)
theorem r_iload {i : Nat} {x : Int32} (hd : decode (mb y) pc = .ok (.iload i, 2)) (hv : ls[i]? = some (some (.int x))) (k : Go G d y (pc + 2) ls (.int x :: st) w n bc bs post) : Go G d y pc ls st w n bc bs post := by
  intro p e R s m args below meth c C H locs cells slots Q la hH hS hl h1 h2 hk
  exact lv_iload C.1 C.2.1 hd (hl.at hv) (k p e R s m args below meth c C H locs cells slots Q la hH hS hl h1 h2 hk)
theorem r_lload_n {f : Fin 4} {i : Nat} {x : Int64} (hd : decode (mb y) pc = .ok (.lload_n f, 1)) (hi : (f : Nat) = i) (hv : ls[i]? = some (some (.long x))) (k : Go G d y (pc + 1) ls (.long x :: st) w n bc bs post) : Go G d y pc ls st w n bc bs post := by
  intro p e R s m args below meth c C H locs cells slots Q la hH hS hl h1 h2 hk
  exact lv_lload_n C.1 C.2.1 hd hi (hl.at hv) (k p e R s m args below meth c C H locs cells slots Q la hH hS hl h1 h2 hk)
theorem r_lload {i : Nat} {x : Int64} (hd : decode (mb y) pc = .ok (.lload i, 2)) (hv : ls[i]? = some (some (.long x))) (k : Go G d y (pc + 2) ls (.long x :: st) w n bc bs post) : Go G d y pc ls st w n bc bs post := by
  intro p e R s m args below meth c C H locs cells slots Q la hH hS hl h1 h2 hk
  exact lv_lload C.1 C.2.1 hd (hl.at hv) (k p e R s m args below meth c C H locs cells slots Q la hH hS hl h1 h2 hk)
theorem r_aload_n {f : Fin 4} {i : Nat} {x : Nat} (hd : decode (mb y) pc = .ok (.aload_n f, 1)) (hi : (f : Nat) = i) (hv : ls[i]? = some (some (.ref x))) (k : Go G d y (pc + 1) ls (.ref x :: st) w n bc bs post) : Go G d y pc ls st w n bc bs post := by
  intro p e R s m args below meth c C H locs cells slots Q la hH hS hl h1 h2 hk
  exact lv_aload_n C.1 C.2.1 hd hi (hl.at hv) (k p e R s m args below meth c C H locs cells slots Q la hH hS hl h1 h2 hk)
theorem r_aload {i : Nat} {x : Nat} (hd : decode (mb y) pc = .ok (.aload i, 2)) (hv : ls[i]? = some (some (.ref x))) (k : Go G d y (pc + 2) ls (.ref x :: st) w n bc bs post) : Go G d y pc ls st w n bc bs post := by
  intro p e R s m args below meth c C H locs cells slots Q la hH hS hl h1 h2 hk
  exact lv_aload C.1 C.2.1 hd (hl.at hv) (k p e R s m args below meth c C H locs cells slots Q la hH hS hl h1 h2 hk)
theorem r_istore_nS {f : Fin 4} {i : Nat} {x : Int32} (hd : decode (mb y) pc = .ok (.istore_n f, 1)) (hi : (f : Nat) = i) (hm : i < ml y) (hn : nlAt ls i = true) (k : Go G d y (pc + 1) (ls.set i (some (.int x))) st w n bc bs post) : Go G d y pc ls (.int x :: st) w n bc bs post := by
  intro p e R s m args below meth c C H locs cells slots Q la hH hS hl h1 h2 hk
  exact lv_istore_n C.1 C.2.1 hd hi hl hm rfl (fun la2 hl2 => k p e R s m args below meth c C H locs cells slots Q la2 hH hS (lvs.of1 (st1_set hn) hl2) h1 h2 hk)
theorem r_istoreS {i : Nat} {x : Int32} (hd : decode (mb y) pc = .ok (.istore i, 2)) (hm : i < ml y) (hn : nlAt ls i = true) (k : Go G d y (pc + 2) (ls.set i (some (.int x))) st w n bc bs post) : Go G d y pc ls (.int x :: st) w n bc bs post := by
  intro p e R s m args below meth c C H locs cells slots Q la hH hS hl h1 h2 hk
  exact lv_istore C.1 C.2.1 hd hl hm rfl (fun la2 hl2 => k p e R s m args below meth c C H locs cells slots Q la2 hH hS (lvs.of1 (st1_set hn) hl2) h1 h2 hk)
theorem r_astore_nS {f : Fin 4} {i : Nat} {x : Nat} (hd : decode (mb y) pc = .ok (.astore_n f, 1)) (hi : (f : Nat) = i) (hm : i < ml y) (hn : nlAt ls i = true) (k : Go G d y (pc + 1) (ls.set i (some (.ref x))) st w n bc bs post) : Go G d y pc ls (.ref x :: st) w n bc bs post := by
  intro p e R s m args below meth c C H locs cells slots Q la hH hS hl h1 h2 hk
  exact lv_astore_n C.1 C.2.1 hd hi hl hm rfl (fun la2 hl2 => k p e R s m args below meth c C H locs cells slots Q la2 hH hS (lvs.of1 (st1_set hn) hl2) h1 h2 hk)
theorem r_astoreS {i : Nat} {x : Nat} (hd : decode (mb y) pc = .ok (.astore i, 2)) (hm : i < ml y) (hn : nlAt ls i = true) (k : Go G d y (pc + 2) (ls.set i (some (.ref x))) st w n bc bs post) : Go G d y pc ls (.ref x :: st) w n bc bs post := by
  intro p e R s m args below meth c C H locs cells slots Q la hH hS hl h1 h2 hk
  exact lv_astore C.1 C.2.1 hd hl hm rfl (fun la2 hl2 => k p e R s m args below meth c C H locs cells slots Q la2 hH hS (lvs.of1 (st1_set hn) hl2) h1 h2 hk)
theorem r_lstore_nS {f : Fin 4} {i : Nat} {x : Int64} (hd : decode (mb y) pc = .ok (.lstore_n f, 1)) (hi : (f : Nat) = i) (hm : i + 1 < ml y) (hn : nlAt ls i = true) (k : Go G d y (pc + 1) ((ls.set i (some (.long x))).set (i + 1) none) st w n bc bs post) : Go G d y pc ls (.long x :: st) w n bc bs post := by
  intro p e R s m args below meth c C H locs cells slots Q la hH hS hl h1 h2 hk
  exact lv_lstore_n C.1 C.2.1 hd hi hl hm rfl (fun la2 hl2 => k p e R s m args below meth c C H locs cells slots Q la2 hH hS (lvs.of2 (st2_set hn) hl2) h1 h2 hk)
theorem r_lstoreS {i : Nat} {x : Int64} (hd : decode (mb y) pc = .ok (.lstore i, 2)) (hm : i + 1 < ml y) (hn : nlAt ls i = true) (k : Go G d y (pc + 2) ((ls.set i (some (.long x))).set (i + 1) none) st w n bc bs post) : Go G d y pc ls (.long x :: st) w n bc bs post := by
  intro p e R s m args below meth c C H locs cells slots Q la hH hS hl h1 h2 hk
  exact lv_lstore C.1 C.2.1 hd hl hm rfl (fun la2 hl2 => k p e R s m args below meth c C H locs cells slots Q la2 hH hS (lvs.of2 (st2_set hn) hl2) h1 h2 hk)
theorem r_iincS {i : Nat} {c0 : Int} {x v : Int32} (hd : decode (mb y) pc = .ok (.iinc i c0, 3)) (hx : ls[i]? = some (some (.int x))) (hv : Int32.ofInt c0 = v) (hm : i < ml y) (hn : nlAt ls i = true) (k : Go G d y (pc + 3) (ls.set i (some (.int (x + v)))) st w n bc bs post) : Go G d y pc ls st w n bc bs post := by
  intro p e R s m args below meth c C H locs cells slots Q la hH hS hl h1 h2 hk
  have hm9 : (i, cv G (.int x)) ∈ asc G ls := asc_mem.mpr ⟨.int x, hx, rfl⟩
  obtain ⟨k9, hk9⟩ := List.getElem?_of_mem hm9
  exact lv_iinc (x := x) (v := x + v) C.1 C.2.1 hd hl hk9 (by rw [hv]) hm rfl (fun la2 hl2 => k p e R s m args below meth c C H locs cells slots Q la2 hH hS (lvs.of1 (st1_set hn) hl2) h1 h2 hk)
theorem r_istore_0 { b : Option Value} {l : List (Option Value)} {x : Int32} (hd : decode (mb y) pc = .ok (.istore_n 0, 1)) (hm : 0 < ml y) (k : Go G d y (pc + 1) (some (.int x) :: l) st w n bc bs post) : Go G d y pc (b :: l) (.int x :: st) w n bc bs post := r_istore_nS hd rfl hm rfl k
theorem r_astore_0 { b : Option Value} {l : List (Option Value)} {x : Nat} (hd : decode (mb y) pc = .ok (.astore_n 0, 1)) (hm : 0 < ml y) (k : Go G d y (pc + 1) (some (.ref x) :: l) st w n bc bs post) : Go G d y pc (b :: l) (.ref x :: st) w n bc bs post := r_astore_nS hd rfl hm rfl k
theorem r_lstore_0 { b b2 : Option Value} {l : List (Option Value)} {x : Int64} (hd : decode (mb y) pc = .ok (.lstore_n 0, 1)) (hm : 0 + 1 < ml y) (k : Go G d y (pc + 1) (some (.long x) :: none :: l) st w n bc bs post) : Go G d y pc (b :: b2 :: l) (.long x :: st) w n bc bs post := r_lstore_nS hd rfl hm rfl k
theorem r_iinc_0 {l : List (Option Value)} {c0 : Int} {x v : Int32} (hd : decode (mb y) pc = .ok (.iinc 0 c0, 3)) (hv : Int32.ofInt c0 = v) (hm : 0 < ml y) (k : Go G d y (pc + 3) (some (.int (x + v)) :: l) st w n bc bs post) : Go G d y pc (some (.int x) :: l) st w n bc bs post := r_iincS hd rfl hv hm rfl k
theorem r_istore_1 {a0 b : Option Value} {l : List (Option Value)} {x : Int32} (hd : decode (mb y) pc = .ok (.istore_n 1, 1)) (hm : 1 < ml y) (hn : nl a0 = true) (k : Go G d y (pc + 1) (a0 :: some (.int x) :: l) st w n bc bs post) : Go G d y pc (a0 :: b :: l) (.int x :: st) w n bc bs post := r_istore_nS hd rfl hm hn k
theorem r_astore_1 {a0 b : Option Value} {l : List (Option Value)} {x : Nat} (hd : decode (mb y) pc = .ok (.astore_n 1, 1)) (hm : 1 < ml y) (hn : nl a0 = true) (k : Go G d y (pc + 1) (a0 :: some (.ref x) :: l) st w n bc bs post) : Go G d y pc (a0 :: b :: l) (.ref x :: st) w n bc bs post := r_astore_nS hd rfl hm hn k
theorem r_lstore_1 {a0 b b2 : Option Value} {l : List (Option Value)} {x : Int64} (hd : decode (mb y) pc = .ok (.lstore_n 1, 1)) (hm : 1 + 1 < ml y) (hn : nl a0 = true) (k : Go G d y (pc + 1) (a0 :: some (.long x) :: none :: l) st w n bc bs post) : Go G d y pc (a0 :: b :: b2 :: l) (.long x :: st) w n bc bs post := r_lstore_nS hd rfl hm hn k
theorem r_iinc_1 {a0 : Option Value} {l : List (Option Value)} {c0 : Int} {x v : Int32} (hd : decode (mb y) pc = .ok (.iinc 1 c0, 3)) (hv : Int32.ofInt c0 = v) (hm : 1 < ml y) (hn : nl a0 = true) (k : Go G d y (pc + 3) (a0 :: some (.int (x + v)) :: l) st w n bc bs post) : Go G d y pc (a0 :: some (.int x) :: l) st w n bc bs post := r_iincS hd rfl hv hm hn k
theorem r_istore_2 {a0 a1 b : Option Value} {l : List (Option Value)} {x : Int32} (hd : decode (mb y) pc = .ok (.istore_n 2, 1)) (hm : 2 < ml y) (hn : nl a1 = true) (k : Go G d y (pc + 1) (a0 :: a1 :: some (.int x) :: l) st w n bc bs post) : Go G d y pc (a0 :: a1 :: b :: l) (.int x :: st) w n bc bs post := r_istore_nS hd rfl hm hn k
theorem r_astore_2 {a0 a1 b : Option Value} {l : List (Option Value)} {x : Nat} (hd : decode (mb y) pc = .ok (.astore_n 2, 1)) (hm : 2 < ml y) (hn : nl a1 = true) (k : Go G d y (pc + 1) (a0 :: a1 :: some (.ref x) :: l) st w n bc bs post) : Go G d y pc (a0 :: a1 :: b :: l) (.ref x :: st) w n bc bs post := r_astore_nS hd rfl hm hn k
theorem r_lstore_2 {a0 a1 b b2 : Option Value} {l : List (Option Value)} {x : Int64} (hd : decode (mb y) pc = .ok (.lstore_n 2, 1)) (hm : 2 + 1 < ml y) (hn : nl a1 = true) (k : Go G d y (pc + 1) (a0 :: a1 :: some (.long x) :: none :: l) st w n bc bs post) : Go G d y pc (a0 :: a1 :: b :: b2 :: l) (.long x :: st) w n bc bs post := r_lstore_nS hd rfl hm hn k
theorem r_iinc_2 {a0 a1 : Option Value} {l : List (Option Value)} {c0 : Int} {x v : Int32} (hd : decode (mb y) pc = .ok (.iinc 2 c0, 3)) (hv : Int32.ofInt c0 = v) (hm : 2 < ml y) (hn : nl a1 = true) (k : Go G d y (pc + 3) (a0 :: a1 :: some (.int (x + v)) :: l) st w n bc bs post) : Go G d y pc (a0 :: a1 :: some (.int x) :: l) st w n bc bs post := r_iincS hd rfl hv hm hn k
theorem r_istore_3 {a0 a1 a2 b : Option Value} {l : List (Option Value)} {x : Int32} (hd : decode (mb y) pc = .ok (.istore_n 3, 1)) (hm : 3 < ml y) (hn : nl a2 = true) (k : Go G d y (pc + 1) (a0 :: a1 :: a2 :: some (.int x) :: l) st w n bc bs post) : Go G d y pc (a0 :: a1 :: a2 :: b :: l) (.int x :: st) w n bc bs post := r_istore_nS hd rfl hm hn k
theorem r_astore_3 {a0 a1 a2 b : Option Value} {l : List (Option Value)} {x : Nat} (hd : decode (mb y) pc = .ok (.astore_n 3, 1)) (hm : 3 < ml y) (hn : nl a2 = true) (k : Go G d y (pc + 1) (a0 :: a1 :: a2 :: some (.ref x) :: l) st w n bc bs post) : Go G d y pc (a0 :: a1 :: a2 :: b :: l) (.ref x :: st) w n bc bs post := r_astore_nS hd rfl hm hn k
theorem r_lstore_3 {a0 a1 a2 b b2 : Option Value} {l : List (Option Value)} {x : Int64} (hd : decode (mb y) pc = .ok (.lstore_n 3, 1)) (hm : 3 + 1 < ml y) (hn : nl a2 = true) (k : Go G d y (pc + 1) (a0 :: a1 :: a2 :: some (.long x) :: none :: l) st w n bc bs post) : Go G d y pc (a0 :: a1 :: a2 :: b :: b2 :: l) (.long x :: st) w n bc bs post := r_lstore_nS hd rfl hm hn k
theorem r_iinc_3 {a0 a1 a2 : Option Value} {l : List (Option Value)} {c0 : Int} {x v : Int32} (hd : decode (mb y) pc = .ok (.iinc 3 c0, 3)) (hv : Int32.ofInt c0 = v) (hm : 3 < ml y) (hn : nl a2 = true) (k : Go G d y (pc + 3) (a0 :: a1 :: a2 :: some (.int (x + v)) :: l) st w n bc bs post) : Go G d y pc (a0 :: a1 :: a2 :: some (.int x) :: l) st w n bc bs post := r_iincS hd rfl hv hm hn k
theorem r_istore_4 {a0 a1 a2 a3 b : Option Value} {l : List (Option Value)} {x : Int32} (hd : decode (mb y) pc = .ok (.istore 4, 2)) (hm : 4 < ml y) (hn : nl a3 = true) (k : Go G d y (pc + 2) (a0 :: a1 :: a2 :: a3 :: some (.int x) :: l) st w n bc bs post) : Go G d y pc (a0 :: a1 :: a2 :: a3 :: b :: l) (.int x :: st) w n bc bs post := r_istoreS hd hm hn k
theorem r_astore_4 {a0 a1 a2 a3 b : Option Value} {l : List (Option Value)} {x : Nat} (hd : decode (mb y) pc = .ok (.astore 4, 2)) (hm : 4 < ml y) (hn : nl a3 = true) (k : Go G d y (pc + 2) (a0 :: a1 :: a2 :: a3 :: some (.ref x) :: l) st w n bc bs post) : Go G d y pc (a0 :: a1 :: a2 :: a3 :: b :: l) (.ref x :: st) w n bc bs post := r_astoreS hd hm hn k
theorem r_lstore_4 {a0 a1 a2 a3 b b2 : Option Value} {l : List (Option Value)} {x : Int64} (hd : decode (mb y) pc = .ok (.lstore 4, 2)) (hm : 4 + 1 < ml y) (hn : nl a3 = true) (k : Go G d y (pc + 2) (a0 :: a1 :: a2 :: a3 :: some (.long x) :: none :: l) st w n bc bs post) : Go G d y pc (a0 :: a1 :: a2 :: a3 :: b :: b2 :: l) (.long x :: st) w n bc bs post := r_lstoreS hd hm hn k
theorem r_iinc_4 {a0 a1 a2 a3 : Option Value} {l : List (Option Value)} {c0 : Int} {x v : Int32} (hd : decode (mb y) pc = .ok (.iinc 4 c0, 3)) (hv : Int32.ofInt c0 = v) (hm : 4 < ml y) (hn : nl a3 = true) (k : Go G d y (pc + 3) (a0 :: a1 :: a2 :: a3 :: some (.int (x + v)) :: l) st w n bc bs post) : Go G d y pc (a0 :: a1 :: a2 :: a3 :: some (.int x) :: l) st w n bc bs post := r_iincS hd rfl hv hm hn k
theorem r_istore_5 {a0 a1 a2 a3 a4 b : Option Value} {l : List (Option Value)} {x : Int32} (hd : decode (mb y) pc = .ok (.istore 5, 2)) (hm : 5 < ml y) (hn : nl a4 = true) (k : Go G d y (pc + 2) (a0 :: a1 :: a2 :: a3 :: a4 :: some (.int x) :: l) st w n bc bs post) : Go G d y pc (a0 :: a1 :: a2 :: a3 :: a4 :: b :: l) (.int x :: st) w n bc bs post := r_istoreS hd hm hn k
theorem r_astore_5 {a0 a1 a2 a3 a4 b : Option Value} {l : List (Option Value)} {x : Nat} (hd : decode (mb y) pc = .ok (.astore 5, 2)) (hm : 5 < ml y) (hn : nl a4 = true) (k : Go G d y (pc + 2) (a0 :: a1 :: a2 :: a3 :: a4 :: some (.ref x) :: l) st w n bc bs post) : Go G d y pc (a0 :: a1 :: a2 :: a3 :: a4 :: b :: l) (.ref x :: st) w n bc bs post := r_astoreS hd hm hn k
theorem r_lstore_5 {a0 a1 a2 a3 a4 b b2 : Option Value} {l : List (Option Value)} {x : Int64} (hd : decode (mb y) pc = .ok (.lstore 5, 2)) (hm : 5 + 1 < ml y) (hn : nl a4 = true) (k : Go G d y (pc + 2) (a0 :: a1 :: a2 :: a3 :: a4 :: some (.long x) :: none :: l) st w n bc bs post) : Go G d y pc (a0 :: a1 :: a2 :: a3 :: a4 :: b :: b2 :: l) (.long x :: st) w n bc bs post := r_lstoreS hd hm hn k
theorem r_iinc_5 {a0 a1 a2 a3 a4 : Option Value} {l : List (Option Value)} {c0 : Int} {x v : Int32} (hd : decode (mb y) pc = .ok (.iinc 5 c0, 3)) (hv : Int32.ofInt c0 = v) (hm : 5 < ml y) (hn : nl a4 = true) (k : Go G d y (pc + 3) (a0 :: a1 :: a2 :: a3 :: a4 :: some (.int (x + v)) :: l) st w n bc bs post) : Go G d y pc (a0 :: a1 :: a2 :: a3 :: a4 :: some (.int x) :: l) st w n bc bs post := r_iincS hd rfl hv hm hn k
theorem r_istore_6 {a0 a1 a2 a3 a4 a5 b : Option Value} {l : List (Option Value)} {x : Int32} (hd : decode (mb y) pc = .ok (.istore 6, 2)) (hm : 6 < ml y) (hn : nl a5 = true) (k : Go G d y (pc + 2) (a0 :: a1 :: a2 :: a3 :: a4 :: a5 :: some (.int x) :: l) st w n bc bs post) : Go G d y pc (a0 :: a1 :: a2 :: a3 :: a4 :: a5 :: b :: l) (.int x :: st) w n bc bs post := r_istoreS hd hm hn k
theorem r_astore_6 {a0 a1 a2 a3 a4 a5 b : Option Value} {l : List (Option Value)} {x : Nat} (hd : decode (mb y) pc = .ok (.astore 6, 2)) (hm : 6 < ml y) (hn : nl a5 = true) (k : Go G d y (pc + 2) (a0 :: a1 :: a2 :: a3 :: a4 :: a5 :: some (.ref x) :: l) st w n bc bs post) : Go G d y pc (a0 :: a1 :: a2 :: a3 :: a4 :: a5 :: b :: l) (.ref x :: st) w n bc bs post := r_astoreS hd hm hn k
theorem r_lstore_6 {a0 a1 a2 a3 a4 a5 b b2 : Option Value} {l : List (Option Value)} {x : Int64} (hd : decode (mb y) pc = .ok (.lstore 6, 2)) (hm : 6 + 1 < ml y) (hn : nl a5 = true) (k : Go G d y (pc + 2) (a0 :: a1 :: a2 :: a3 :: a4 :: a5 :: some (.long x) :: none :: l) st w n bc bs post) : Go G d y pc (a0 :: a1 :: a2 :: a3 :: a4 :: a5 :: b :: b2 :: l) (.long x :: st) w n bc bs post := r_lstoreS hd hm hn k
theorem r_iinc_6 {a0 a1 a2 a3 a4 a5 : Option Value} {l : List (Option Value)} {c0 : Int} {x v : Int32} (hd : decode (mb y) pc = .ok (.iinc 6 c0, 3)) (hv : Int32.ofInt c0 = v) (hm : 6 < ml y) (hn : nl a5 = true) (k : Go G d y (pc + 3) (a0 :: a1 :: a2 :: a3 :: a4 :: a5 :: some (.int (x + v)) :: l) st w n bc bs post) : Go G d y pc (a0 :: a1 :: a2 :: a3 :: a4 :: a5 :: some (.int x) :: l) st w n bc bs post := r_iincS hd rfl hv hm hn k
theorem r_istore_7 {a0 a1 a2 a3 a4 a5 a6 b : Option Value} {l : List (Option Value)} {x : Int32} (hd : decode (mb y) pc = .ok (.istore 7, 2)) (hm : 7 < ml y) (hn : nl a6 = true) (k : Go G d y (pc + 2) (a0 :: a1 :: a2 :: a3 :: a4 :: a5 :: a6 :: some (.int x) :: l) st w n bc bs post) : Go G d y pc (a0 :: a1 :: a2 :: a3 :: a4 :: a5 :: a6 :: b :: l) (.int x :: st) w n bc bs post := r_istoreS hd hm hn k
theorem r_astore_7 {a0 a1 a2 a3 a4 a5 a6 b : Option Value} {l : List (Option Value)} {x : Nat} (hd : decode (mb y) pc = .ok (.astore 7, 2)) (hm : 7 < ml y) (hn : nl a6 = true) (k : Go G d y (pc + 2) (a0 :: a1 :: a2 :: a3 :: a4 :: a5 :: a6 :: some (.ref x) :: l) st w n bc bs post) : Go G d y pc (a0 :: a1 :: a2 :: a3 :: a4 :: a5 :: a6 :: b :: l) (.ref x :: st) w n bc bs post := r_astoreS hd hm hn k
theorem r_lstore_7 {a0 a1 a2 a3 a4 a5 a6 b b2 : Option Value} {l : List (Option Value)} {x : Int64} (hd : decode (mb y) pc = .ok (.lstore 7, 2)) (hm : 7 + 1 < ml y) (hn : nl a6 = true) (k : Go G d y (pc + 2) (a0 :: a1 :: a2 :: a3 :: a4 :: a5 :: a6 :: some (.long x) :: none :: l) st w n bc bs post) : Go G d y pc (a0 :: a1 :: a2 :: a3 :: a4 :: a5 :: a6 :: b :: b2 :: l) (.long x :: st) w n bc bs post := r_lstoreS hd hm hn k
theorem r_iinc_7 {a0 a1 a2 a3 a4 a5 a6 : Option Value} {l : List (Option Value)} {c0 : Int} {x v : Int32} (hd : decode (mb y) pc = .ok (.iinc 7 c0, 3)) (hv : Int32.ofInt c0 = v) (hm : 7 < ml y) (hn : nl a6 = true) (k : Go G d y (pc + 3) (a0 :: a1 :: a2 :: a3 :: a4 :: a5 :: a6 :: some (.int (x + v)) :: l) st w n bc bs post) : Go G d y pc (a0 :: a1 :: a2 :: a3 :: a4 :: a5 :: a6 :: some (.int x) :: l) st w n bc bs post := r_iincS hd rfl hv hm hn k
theorem r_istore_8 {a0 a1 a2 a3 a4 a5 a6 a7 b : Option Value} {l : List (Option Value)} {x : Int32} (hd : decode (mb y) pc = .ok (.istore 8, 2)) (hm : 8 < ml y) (hn : nl a7 = true) (k : Go G d y (pc + 2) (a0 :: a1 :: a2 :: a3 :: a4 :: a5 :: a6 :: a7 :: some (.int x) :: l) st w n bc bs post) : Go G d y pc (a0 :: a1 :: a2 :: a3 :: a4 :: a5 :: a6 :: a7 :: b :: l) (.int x :: st) w n bc bs post := r_istoreS hd hm hn k
theorem r_astore_8 {a0 a1 a2 a3 a4 a5 a6 a7 b : Option Value} {l : List (Option Value)} {x : Nat} (hd : decode (mb y) pc = .ok (.astore 8, 2)) (hm : 8 < ml y) (hn : nl a7 = true) (k : Go G d y (pc + 2) (a0 :: a1 :: a2 :: a3 :: a4 :: a5 :: a6 :: a7 :: some (.ref x) :: l) st w n bc bs post) : Go G d y pc (a0 :: a1 :: a2 :: a3 :: a4 :: a5 :: a6 :: a7 :: b :: l) (.ref x :: st) w n bc bs post := r_astoreS hd hm hn k
theorem r_lstore_8 {a0 a1 a2 a3 a4 a5 a6 a7 b b2 : Option Value} {l : List (Option Value)} {x : Int64} (hd : decode (mb y) pc = .ok (.lstore 8, 2)) (hm : 8 + 1 < ml y) (hn : nl a7 = true) (k : Go G d y (pc + 2) (a0 :: a1 :: a2 :: a3 :: a4 :: a5 :: a6 :: a7 :: some (.long x) :: none :: l) st w n bc bs post) : Go G d y pc (a0 :: a1 :: a2 :: a3 :: a4 :: a5 :: a6 :: a7 :: b :: b2 :: l) (.long x :: st) w n bc bs post := r_lstoreS hd hm hn k
theorem r_iinc_8 {a0 a1 a2 a3 a4 a5 a6 a7 : Option Value} {l : List (Option Value)} {c0 : Int} {x v : Int32} (hd : decode (mb y) pc = .ok (.iinc 8 c0, 3)) (hv : Int32.ofInt c0 = v) (hm : 8 < ml y) (hn : nl a7 = true) (k : Go G d y (pc + 3) (a0 :: a1 :: a2 :: a3 :: a4 :: a5 :: a6 :: a7 :: some (.int (x + v)) :: l) st w n bc bs post) : Go G d y pc (a0 :: a1 :: a2 :: a3 :: a4 :: a5 :: a6 :: a7 :: some (.int x) :: l) st w n bc bs post := r_iincS hd rfl hv hm hn k
theorem r_istore_9 {a0 a1 a2 a3 a4 a5 a6 a7 a8 b : Option Value} {l : List (Option Value)} {x : Int32} (hd : decode (mb y) pc = .ok (.istore 9, 2)) (hm : 9 < ml y) (hn : nl a8 = true) (k : Go G d y (pc + 2) (a0 :: a1 :: a2 :: a3 :: a4 :: a5 :: a6 :: a7 :: a8 :: some (.int x) :: l) st w n bc bs post) : Go G d y pc (a0 :: a1 :: a2 :: a3 :: a4 :: a5 :: a6 :: a7 :: a8 :: b :: l) (.int x :: st) w n bc bs post := r_istoreS hd hm hn k
theorem r_astore_9 {a0 a1 a2 a3 a4 a5 a6 a7 a8 b : Option Value} {l : List (Option Value)} {x : Nat} (hd : decode (mb y) pc = .ok (.astore 9, 2)) (hm : 9 < ml y) (hn : nl a8 = true) (k : Go G d y (pc + 2) (a0 :: a1 :: a2 :: a3 :: a4 :: a5 :: a6 :: a7 :: a8 :: some (.ref x) :: l) st w n bc bs post) : Go G d y pc (a0 :: a1 :: a2 :: a3 :: a4 :: a5 :: a6 :: a7 :: a8 :: b :: l) (.ref x :: st) w n bc bs post := r_astoreS hd hm hn k
theorem r_lstore_9 {a0 a1 a2 a3 a4 a5 a6 a7 a8 b b2 : Option Value} {l : List (Option Value)} {x : Int64} (hd : decode (mb y) pc = .ok (.lstore 9, 2)) (hm : 9 + 1 < ml y) (hn : nl a8 = true) (k : Go G d y (pc + 2) (a0 :: a1 :: a2 :: a3 :: a4 :: a5 :: a6 :: a7 :: a8 :: some (.long x) :: none :: l) st w n bc bs post) : Go G d y pc (a0 :: a1 :: a2 :: a3 :: a4 :: a5 :: a6 :: a7 :: a8 :: b :: b2 :: l) (.long x :: st) w n bc bs post := r_lstoreS hd hm hn k
theorem r_iinc_9 {a0 a1 a2 a3 a4 a5 a6 a7 a8 : Option Value} {l : List (Option Value)} {c0 : Int} {x v : Int32} (hd : decode (mb y) pc = .ok (.iinc 9 c0, 3)) (hv : Int32.ofInt c0 = v) (hm : 9 < ml y) (hn : nl a8 = true) (k : Go G d y (pc + 3) (a0 :: a1 :: a2 :: a3 :: a4 :: a5 :: a6 :: a7 :: a8 :: some (.int (x + v)) :: l) st w n bc bs post) : Go G d y pc (a0 :: a1 :: a2 :: a3 :: a4 :: a5 :: a6 :: a7 :: a8 :: some (.int x) :: l) st w n bc bs post := r_iincS hd rfl hv hm hn k
theorem r_istore_10 {a0 a1 a2 a3 a4 a5 a6 a7 a8 a9 b : Option Value} {l : List (Option Value)} {x : Int32} (hd : decode (mb y) pc = .ok (.istore 10, 2)) (hm : 10 < ml y) (hn : nl a9 = true) (k : Go G d y (pc + 2) (a0 :: a1 :: a2 :: a3 :: a4 :: a5 :: a6 :: a7 :: a8 :: a9 :: some (.int x) :: l) st w n bc bs post) : Go G d y pc (a0 :: a1 :: a2 :: a3 :: a4 :: a5 :: a6 :: a7 :: a8 :: a9 :: b :: l) (.int x :: st) w n bc bs post := r_istoreS hd hm hn k
theorem r_astore_10 {a0 a1 a2 a3 a4 a5 a6 a7 a8 a9 b : Option Value} {l : List (Option Value)} {x : Nat} (hd : decode (mb y) pc = .ok (.astore 10, 2)) (hm : 10 < ml y) (hn : nl a9 = true) (k : Go G d y (pc + 2) (a0 :: a1 :: a2 :: a3 :: a4 :: a5 :: a6 :: a7 :: a8 :: a9 :: some (.ref x) :: l) st w n bc bs post) : Go G d y pc (a0 :: a1 :: a2 :: a3 :: a4 :: a5 :: a6 :: a7 :: a8 :: a9 :: b :: l) (.ref x :: st) w n bc bs post := r_astoreS hd hm hn k
theorem r_lstore_10 {a0 a1 a2 a3 a4 a5 a6 a7 a8 a9 b b2 : Option Value} {l : List (Option Value)} {x : Int64} (hd : decode (mb y) pc = .ok (.lstore 10, 2)) (hm : 10 + 1 < ml y) (hn : nl a9 = true) (k : Go G d y (pc + 2) (a0 :: a1 :: a2 :: a3 :: a4 :: a5 :: a6 :: a7 :: a8 :: a9 :: some (.long x) :: none :: l) st w n bc bs post) : Go G d y pc (a0 :: a1 :: a2 :: a3 :: a4 :: a5 :: a6 :: a7 :: a8 :: a9 :: b :: b2 :: l) (.long x :: st) w n bc bs post := r_lstoreS hd hm hn k
theorem r_iinc_10 {a0 a1 a2 a3 a4 a5 a6 a7 a8 a9 : Option Value} {l : List (Option Value)} {c0 : Int} {x v : Int32} (hd : decode (mb y) pc = .ok (.iinc 10 c0, 3)) (hv : Int32.ofInt c0 = v) (hm : 10 < ml y) (hn : nl a9 = true) (k : Go G d y (pc + 3) (a0 :: a1 :: a2 :: a3 :: a4 :: a5 :: a6 :: a7 :: a8 :: a9 :: some (.int (x + v)) :: l) st w n bc bs post) : Go G d y pc (a0 :: a1 :: a2 :: a3 :: a4 :: a5 :: a6 :: a7 :: a8 :: a9 :: some (.int x) :: l) st w n bc bs post := r_iincS hd rfl hv hm hn k
theorem r_iadd {x z : Int32} (hd : decode (mb y) pc = .ok (.iadd, 1)) (k : Go G d y (pc + 1) ls (.int (x + z) :: st) w n bc bs post) : Go G d y pc ls (.int z :: .int x :: st) w n bc bs post := by
  intro p e R s m args below meth c C H locs cells slots Q la hH hS hl h1 h2 hk
  exact lv_iadd C.1 C.2.1 hd (k p e R s m args below meth c C H locs cells slots Q la hH hS hl h1 h2 hk)
theorem r_isub {x z : Int32} (hd : decode (mb y) pc = .ok (.isub, 1)) (k : Go G d y (pc + 1) ls (.int (x - z) :: st) w n bc bs post) : Go G d y pc ls (.int z :: .int x :: st) w n bc bs post := by
  intro p e R s m args below meth c C H locs cells slots Q la hH hS hl h1 h2 hk
  exact lv_isub C.1 C.2.1 hd (k p e R s m args below meth c C H locs cells slots Q la hH hS hl h1 h2 hk)
theorem r_imul {x z : Int32} (hd : decode (mb y) pc = .ok (.imul, 1)) (k : Go G d y (pc + 1) ls (.int (x * z) :: st) w n bc bs post) : Go G d y pc ls (.int z :: .int x :: st) w n bc bs post := by
  intro p e R s m args below meth c C H locs cells slots Q la hH hS hl h1 h2 hk
  exact lv_imul C.1 C.2.1 hd (k p e R s m args below meth c C H locs cells slots Q la hH hS hl h1 h2 hk)
theorem r_iand {x z : Int32} (hd : decode (mb y) pc = .ok (.iand, 1)) (k : Go G d y (pc + 1) ls (.int (x &&& z) :: st) w n bc bs post) : Go G d y pc ls (.int z :: .int x :: st) w n bc bs post := by
  intro p e R s m args below meth c C H locs cells slots Q la hH hS hl h1 h2 hk
  exact lv_iand C.1 C.2.1 hd (k p e R s m args below meth c C H locs cells slots Q la hH hS hl h1 h2 hk)
theorem r_ior {x z : Int32} (hd : decode (mb y) pc = .ok (.ior, 1)) (k : Go G d y (pc + 1) ls (.int (x ||| z) :: st) w n bc bs post) : Go G d y pc ls (.int z :: .int x :: st) w n bc bs post := by
  intro p e R s m args below meth c C H locs cells slots Q la hH hS hl h1 h2 hk
  exact lv_ior C.1 C.2.1 hd (k p e R s m args below meth c C H locs cells slots Q la hH hS hl h1 h2 hk)
theorem r_ixor {x z : Int32} (hd : decode (mb y) pc = .ok (.ixor, 1)) (k : Go G d y (pc + 1) ls (.int (x ^^^ z) :: st) w n bc bs post) : Go G d y pc ls (.int z :: .int x :: st) w n bc bs post := by
  intro p e R s m args below meth c C H locs cells slots Q la hH hS hl h1 h2 hk
  exact lv_ixor C.1 C.2.1 hd (k p e R s m args below meth c C H locs cells slots Q la hH hS hl h1 h2 hk)
theorem r_ishl {x z : Int32} (hd : decode (mb y) pc = .ok (.ishl, 1)) (k : Go G d y (pc + 1) ls (.int (x <<< (z &&& 31)) :: st) w n bc bs post) : Go G d y pc ls (.int z :: .int x :: st) w n bc bs post := by
  intro p e R s m args below meth c C H locs cells slots Q la hH hS hl h1 h2 hk
  exact lv_ishl C.1 C.2.1 hd (k p e R s m args below meth c C H locs cells slots Q la hH hS hl h1 h2 hk)
theorem r_ishr {x z : Int32} (hd : decode (mb y) pc = .ok (.ishr, 1)) (k : Go G d y (pc + 1) ls (.int (x >>> (z &&& 31)) :: st) w n bc bs post) : Go G d y pc ls (.int z :: .int x :: st) w n bc bs post := by
  intro p e R s m args below meth c C H locs cells slots Q la hH hS hl h1 h2 hk
  exact lv_ishr C.1 C.2.1 hd (k p e R s m args below meth c C H locs cells slots Q la hH hS hl h1 h2 hk)
theorem r_ladd {x z : Int64} (hd : decode (mb y) pc = .ok (.ladd, 1)) (k : Go G d y (pc + 1) ls (.long (x + z) :: st) w n bc bs post) : Go G d y pc ls (.long z :: .long x :: st) w n bc bs post := by
  intro p e R s m args below meth c C H locs cells slots Q la hH hS hl h1 h2 hk
  exact lv_ladd C.1 C.2.1 hd (k p e R s m args below meth c C H locs cells slots Q la hH hS hl h1 h2 hk)
theorem r_lsub {x z : Int64} (hd : decode (mb y) pc = .ok (.lsub, 1)) (k : Go G d y (pc + 1) ls (.long (x - z) :: st) w n bc bs post) : Go G d y pc ls (.long z :: .long x :: st) w n bc bs post := by
  intro p e R s m args below meth c C H locs cells slots Q la hH hS hl h1 h2 hk
  exact lv_lsub C.1 C.2.1 hd (k p e R s m args below meth c C H locs cells slots Q la hH hS hl h1 h2 hk)
theorem r_lmul {x z : Int64} (hd : decode (mb y) pc = .ok (.lmul, 1)) (k : Go G d y (pc + 1) ls (.long (x * z) :: st) w n bc bs post) : Go G d y pc ls (.long z :: .long x :: st) w n bc bs post := by
  intro p e R s m args below meth c C H locs cells slots Q la hH hS hl h1 h2 hk
  exact lv_lmul C.1 C.2.1 hd (k p e R s m args below meth c C H locs cells slots Q la hH hS hl h1 h2 hk)
theorem r_land {x z : Int64} (hd : decode (mb y) pc = .ok (.land, 1)) (k : Go G d y (pc + 1) ls (.long (x &&& z) :: st) w n bc bs post) : Go G d y pc ls (.long z :: .long x :: st) w n bc bs post := by
  intro p e R s m args below meth c C H locs cells slots Q la hH hS hl h1 h2 hk
  exact lv_land C.1 C.2.1 hd (k p e R s m args below meth c C H locs cells slots Q la hH hS hl h1 h2 hk)
theorem r_lor {x z : Int64} (hd : decode (mb y) pc = .ok (.lor, 1)) (k : Go G d y (pc + 1) ls (.long (x ||| z) :: st) w n bc bs post) : Go G d y pc ls (.long z :: .long x :: st) w n bc bs post := by
  intro p e R s m args below meth c C H locs cells slots Q la hH hS hl h1 h2 hk
  exact lv_lor C.1 C.2.1 hd (k p e R s m args below meth c C H locs cells slots Q la hH hS hl h1 h2 hk)
theorem r_lxor {x z : Int64} (hd : decode (mb y) pc = .ok (.lxor, 1)) (k : Go G d y (pc + 1) ls (.long (x ^^^ z) :: st) w n bc bs post) : Go G d y pc ls (.long z :: .long x :: st) w n bc bs post := by
  intro p e R s m args below meth c C H locs cells slots Q la hH hS hl h1 h2 hk
  exact lv_lxor C.1 C.2.1 hd (k p e R s m args below meth c C H locs cells slots Q la hH hS hl h1 h2 hk)
theorem r_idiv {x z : Int32} (hd : decode (mb y) pc = .ok (.idiv, 1)) (hne : ¬ z = 0) (k : Go G d y (pc + 1) ls (.int (x / z) :: st) w n bc bs post) : Go G d y pc ls (.int z :: .int x :: st) w n bc bs post := by
  intro p e R s m args below meth c C H locs cells slots Q la hH hS hl h1 h2 hk
  exact lv_idiv C.1 C.2.1 hd hne (k p e R s m args below meth c C H locs cells slots Q la hH hS hl h1 h2 hk)
theorem r_irem {x z : Int32} (hd : decode (mb y) pc = .ok (.irem, 1)) (hne : ¬ z = 0) (k : Go G d y (pc + 1) ls (.int (x - x / z * z) :: st) w n bc bs post) : Go G d y pc ls (.int z :: .int x :: st) w n bc bs post := by
  intro p e R s m args below meth c C H locs cells slots Q la hH hS hl h1 h2 hk
  exact lv_irem C.1 C.2.1 hd hne (k p e R s m args below meth c C H locs cells slots Q la hH hS hl h1 h2 hk)
theorem r_ldiv {x z : Int64} (hd : decode (mb y) pc = .ok (.ldiv, 1)) (hne : ¬ z = 0) (k : Go G d y (pc + 1) ls (.long (x / z) :: st) w n bc bs post) : Go G d y pc ls (.long z :: .long x :: st) w n bc bs post := by
  intro p e R s m args below meth c C H locs cells slots Q la hH hS hl h1 h2 hk
  exact lv_ldiv C.1 C.2.1 hd hne (k p e R s m args below meth c C H locs cells slots Q la hH hS hl h1 h2 hk)
theorem r_ineg {x : Int32} (hd : decode (mb y) pc = .ok (.ineg, 1)) (k : Go G d y (pc + 1) ls (.int (-x) :: st) w n bc bs post) : Go G d y pc ls (.int x :: st) w n bc bs post := by
  intro p e R s m args below meth c C H locs cells slots Q la hH hS hl h1 h2 hk
  exact lv_ineg C.1 C.2.1 hd (k p e R s m args below meth c C H locs cells slots Q la hH hS hl h1 h2 hk)
theorem r_lneg {x : Int64} (hd : decode (mb y) pc = .ok (.lneg, 1)) (k : Go G d y (pc + 1) ls (.long (-x) :: st) w n bc bs post) : Go G d y pc ls (.long x :: st) w n bc bs post := by
  intro p e R s m args below meth c C H locs cells slots Q la hH hS hl h1 h2 hk
  exact lv_lneg C.1 C.2.1 hd (k p e R s m args below meth c C H locs cells slots Q la hH hS hl h1 h2 hk)
theorem r_i2l {x : Int32} (hd : decode (mb y) pc = .ok (.i2l, 1)) (k : Go G d y (pc + 1) ls (.long (x.toInt64) :: st) w n bc bs post) : Go G d y pc ls (.int x :: st) w n bc bs post := by
  intro p e R s m args below meth c C H locs cells slots Q la hH hS hl h1 h2 hk
  exact lv_i2l C.1 C.2.1 hd rfl (k p e R s m args below meth c C H locs cells slots Q la hH hS hl h1 h2 hk)
theorem r_l2i {x : Int64} (hd : decode (mb y) pc = .ok (.l2i, 1)) (k : Go G d y (pc + 1) ls (.int (x.toInt32) :: st) w n bc bs post) : Go G d y pc ls (.long x :: st) w n bc bs post := by
  intro p e R s m args below meth c C H locs cells slots Q la hH hS hl h1 h2 hk
  exact lv_l2i C.1 C.2.1 hd rfl (k p e R s m args below meth c C H locs cells slots Q la hH hS hl h1 h2 hk)
theorem r_i2b {x : Int32} (hd : decode (mb y) pc = .ok (.i2b, 1)) (k : Go G d y (pc + 1) ls (.int (x.toInt8.toInt32) :: st) w n bc bs post) : Go G d y pc ls (.int x :: st) w n bc bs post := by
  intro p e R s m args below meth c C H locs cells slots Q la hH hS hl h1 h2 hk
  exact lv_i2b C.1 C.2.1 hd rfl (k p e R s m args below meth c C H locs cells slots Q la hH hS hl h1 h2 hk)
theorem r_i2s {x : Int32} (hd : decode (mb y) pc = .ok (.i2s, 1)) (k : Go G d y (pc + 1) ls (.int (x.toInt16.toInt32) :: st) w n bc bs post) : Go G d y pc ls (.int x :: st) w n bc bs post := by
  intro p e R s m args below meth c C H locs cells slots Q la hH hS hl h1 h2 hk
  exact lv_i2s C.1 C.2.1 hd rfl (k p e R s m args below meth c C H locs cells slots Q la hH hS hl h1 h2 hk)
theorem r_i2c {x : Int32} (hd : decode (mb y) pc = .ok (.i2c, 1)) (k : Go G d y (pc + 1) ls (.int ((x.toUInt32 % 65536).toInt32) :: st) w n bc bs post) : Go G d y pc ls (.int x :: st) w n bc bs post := by
  intro p e R s m args below meth c C H locs cells slots Q la hH hS hl h1 h2 hk
  exact lv_i2c C.1 C.2.1 hd rfl (k p e R s m args below meth c C H locs cells slots Q la hH hS hl h1 h2 hk)
theorem r_iushr {x z : Int32} (hd : decode (mb y) pc = .ok (.iushr, 1)) (k : Go G d y (pc + 1) ls (.int ((x.toUInt32 >>> (z.toUInt32 &&& Int32.toUInt32 31)).toInt32) :: st) w n bc bs post) : Go G d y pc ls (.int z :: .int x :: st) w n bc bs post := by
  intro p e R s m args below meth c C H locs cells slots Q la hH hS hl h1 h2 hk
  exact lv_iushr C.1 C.2.1 hd rfl (k p e R s m args below meth c C H locs cells slots Q la hH hS hl h1 h2 hk)
theorem r_lshl {x : Int64} {z : Int32} (hd : decode (mb y) pc = .ok (.lshl, 1)) (k : Go G d y (pc + 1) ls (.long (x <<< (z.toInt64 &&& 63)) :: st) w n bc bs post) : Go G d y pc ls (.int z :: .long x :: st) w n bc bs post := by
  intro p e R s m args below meth c C H locs cells slots Q la hH hS hl h1 h2 hk
  exact lv_lshl C.1 C.2.1 hd rfl (k p e R s m args below meth c C H locs cells slots Q la hH hS hl h1 h2 hk)
theorem r_lshr {x : Int64} {z : Int32} (hd : decode (mb y) pc = .ok (.lshr, 1)) (k : Go G d y (pc + 1) ls (.long (x >>> (z.toInt64 &&& 63)) :: st) w n bc bs post) : Go G d y pc ls (.int z :: .long x :: st) w n bc bs post := by
  intro p e R s m args below meth c C H locs cells slots Q la hH hS hl h1 h2 hk
  exact lv_lshr C.1 C.2.1 hd rfl (k p e R s m args below meth c C H locs cells slots Q la hH hS hl h1 h2 hk)
theorem r_lcmp {x z : Int64} (hd : decode (mb y) pc = .ok (.lcmp, 1)) (k : Go G d y (pc + 1) ls (.int (lg_cmp x z) :: st) w n bc bs post) : Go G d y pc ls (.long z :: .long x :: st) w n bc bs post := by
  intro p e R s m args below meth c C H locs cells slots Q la hH hS hl h1 h2 hk
  exact W.lcmp C.1 C.2.1 hd (k p e R s m args below meth c C H locs cells slots Q la hH hS hl h1 h2 hk)
theorem r_dup {v : Value} (hd : decode (mb y) pc = .ok (.dup, 1)) (hv : v.category = 1) (k : Go G d y (pc + 1) ls (v :: v :: st) w n bc bs post) : Go G d y pc ls (v :: st) w n bc bs post := by
  intro p e R s m args below meth c C H locs cells slots Q la hH hS hl h1 h2 hk
  exact lv_dup C.1 C.2.1 hd (cv_cat.trans hv) (k p e R s m args below meth c C H locs cells slots Q la hH hS hl h1 h2 hk)
theorem r_pop {v : Value} (hd : decode (mb y) pc = .ok (.pop, 1)) (hv : v.category = 1) (k : Go G d y (pc + 1) ls st w n bc bs post) : Go G d y pc ls (v :: st) w n bc bs post := by
  intro p e R s m args below meth c C H locs cells slots Q la hH hS hl h1 h2 hk
  exact lv_pop C.1 C.2.1 hd (cv_cat.trans hv) (k p e R s m args below meth c C H locs cells slots Q la hH hS hl h1 h2 hk)
theorem r_dup_x1 {u v : Value} (hd : decode (mb y) pc = .ok (.dup_x1, 1)) (hu : u.category = 1) (hv : v.category = 1) (k : Go G d y (pc + 1) ls (u :: v :: u :: st) w n bc bs post) : Go G d y pc ls (u :: v :: st) w n bc bs post := by
  intro p e R s m args below meth c C H locs cells slots Q la hH hS hl h1 h2 hk
  exact lv_dup_x1 C.1 C.2.1 hd (cv_cat.trans hu) (cv_cat.trans hv) (k p e R s m args below meth c C H locs cells slots Q la hH hS hl h1 h2 hk)
theorem r_dup2_11 {u v : Value} (hd : decode (mb y) pc = .ok (.dup2, 1)) (hu : u.category = 1) (hv : v.category = 1) (k : Go G d y (pc + 1) ls (u :: v :: u :: v :: st) w n bc bs post) : Go G d y pc ls (u :: v :: st) w n bc bs post := by
  intro p e R s m args below meth c C H locs cells slots Q la hH hS hl h1 h2 hk
  exact lv_dup2_11 C.1 C.2.1 hd (cv_cat.trans hu) (cv_cat.trans hv) (k p e R s m args below meth c C H locs cells slots Q la hH hS hl h1 h2 hk)
theorem r_dup2_2 {v : Value} (hd : decode (mb y) pc = .ok (.dup2, 1)) (hv : v.category = 2) (k : Go G d y (pc + 1) ls (v :: v :: st) w n bc bs post) : Go G d y pc ls (v :: st) w n bc bs post := by
  intro p e R s m args below meth c C H locs cells slots Q la hH hS hl h1 h2 hk
  exact lv_dup2_2 C.1 C.2.1 hd (cv_cat.trans hv) (k p e R s m args below meth c C H locs cells slots Q la hH hS hl h1 h2 hk)
theorem r_if_eq {x : Int32} {off : Int} (tgt : Nat) (hd : decode (mb y) pc = .ok (.ifCond .eq off, 3)) (ht : (pc : Int) + off = (tgt : Int)) (kt : x = 0 → Go G d y tgt ls st w n bc bs post) (kf : ¬ x = 0 → Go G d y (pc + 3) ls st w n bc bs post) : Go G d y pc ls (.int x :: st) w n bc bs post := by
  intro p e R s m args below meth c C H locs cells slots Q la hH hS hl h1 h2 hk
  exact lv_if_eq C.1 C.2.1 hd ht (fun q => kt q p e R s m args below meth c C H locs cells slots Q la hH hS hl h1 h2 hk) (fun q => kf q p e R s m args below meth c C H locs cells slots Q la hH hS hl h1 h2 hk)
theorem r_if_ne {x : Int32} {off : Int} (tgt : Nat) (hd : decode (mb y) pc = .ok (.ifCond .ne off, 3)) (ht : (pc : Int) + off = (tgt : Int)) (kt : ¬ x = 0 → Go G d y tgt ls st w n bc bs post) (kf : x = 0 → Go G d y (pc + 3) ls st w n bc bs post) : Go G d y pc ls (.int x :: st) w n bc bs post := by
  intro p e R s m args below meth c C H locs cells slots Q la hH hS hl h1 h2 hk
  exact lv_if_ne C.1 C.2.1 hd ht (fun q => kt q p e R s m args below meth c C H locs cells slots Q la hH hS hl h1 h2 hk) (fun q => kf q p e R s m args below meth c C H locs cells slots Q la hH hS hl h1 h2 hk)
theorem r_if_lt {x : Int32} {off : Int} (tgt : Nat) (hd : decode (mb y) pc = .ok (.ifCond .lt off, 3)) (ht : (pc : Int) + off = (tgt : Int)) (kt : x < 0 → Go G d y tgt ls st w n bc bs post) (kf : ¬ x < 0 → Go G d y (pc + 3) ls st w n bc bs post) : Go G d y pc ls (.int x :: st) w n bc bs post := by
  intro p e R s m args below meth c C H locs cells slots Q la hH hS hl h1 h2 hk
  exact lv_if_lt C.1 C.2.1 hd ht (fun q => kt q p e R s m args below meth c C H locs cells slots Q la hH hS hl h1 h2 hk) (fun q => kf q p e R s m args below meth c C H locs cells slots Q la hH hS hl h1 h2 hk)
theorem r_if_ge {x : Int32} {off : Int} (tgt : Nat) (hd : decode (mb y) pc = .ok (.ifCond .ge off, 3)) (ht : (pc : Int) + off = (tgt : Int)) (kt : 0 ≤ x → Go G d y tgt ls st w n bc bs post) (kf : ¬ 0 ≤ x → Go G d y (pc + 3) ls st w n bc bs post) : Go G d y pc ls (.int x :: st) w n bc bs post := by
  intro p e R s m args below meth c C H locs cells slots Q la hH hS hl h1 h2 hk
  exact lv_if_ge C.1 C.2.1 hd ht (fun q => kt q p e R s m args below meth c C H locs cells slots Q la hH hS hl h1 h2 hk) (fun q => kf q p e R s m args below meth c C H locs cells slots Q la hH hS hl h1 h2 hk)
theorem r_if_gt {x : Int32} {off : Int} (tgt : Nat) (hd : decode (mb y) pc = .ok (.ifCond .gt off, 3)) (ht : (pc : Int) + off = (tgt : Int)) (kt : 0 < x → Go G d y tgt ls st w n bc bs post) (kf : ¬ 0 < x → Go G d y (pc + 3) ls st w n bc bs post) : Go G d y pc ls (.int x :: st) w n bc bs post := by
  intro p e R s m args below meth c C H locs cells slots Q la hH hS hl h1 h2 hk
  exact lv_if_gt C.1 C.2.1 hd ht (fun q => kt q p e R s m args below meth c C H locs cells slots Q la hH hS hl h1 h2 hk) (fun q => kf q p e R s m args below meth c C H locs cells slots Q la hH hS hl h1 h2 hk)
theorem r_if_le {x : Int32} {off : Int} (tgt : Nat) (hd : decode (mb y) pc = .ok (.ifCond .le off, 3)) (ht : (pc : Int) + off = (tgt : Int)) (kt : x ≤ 0 → Go G d y tgt ls st w n bc bs post) (kf : ¬ x ≤ 0 → Go G d y (pc + 3) ls st w n bc bs post) : Go G d y pc ls (.int x :: st) w n bc bs post := by
  intro p e R s m args below meth c C H locs cells slots Q la hH hS hl h1 h2 hk
  exact lv_if_le C.1 C.2.1 hd ht (fun q => kt q p e R s m args below meth c C H locs cells slots Q la hH hS hl h1 h2 hk) (fun q => kf q p e R s m args below meth c C H locs cells slots Q la hH hS hl h1 h2 hk)
theorem r_icmp_eq {x z : Int32} {off : Int} (tgt : Nat) (hd : decode (mb y) pc = .ok (.if_icmp .eq off, 3)) (ht : (pc : Int) + off = (tgt : Int)) (kt : x = z → Go G d y tgt ls st w n bc bs post) (kf : ¬ x = z → Go G d y (pc + 3) ls st w n bc bs post) : Go G d y pc ls (.int z :: .int x :: st) w n bc bs post := by
  intro p e R s m args below meth c C H locs cells slots Q la hH hS hl h1 h2 hk
  exact lv_icmp_eq C.1 C.2.1 hd ht (fun q => kt q p e R s m args below meth c C H locs cells slots Q la hH hS hl h1 h2 hk) (fun q => kf q p e R s m args below meth c C H locs cells slots Q la hH hS hl h1 h2 hk)
theorem r_icmp_ne {x z : Int32} {off : Int} (tgt : Nat) (hd : decode (mb y) pc = .ok (.if_icmp .ne off, 3)) (ht : (pc : Int) + off = (tgt : Int)) (kt : ¬ x = z → Go G d y tgt ls st w n bc bs post) (kf : x = z → Go G d y (pc + 3) ls st w n bc bs post) : Go G d y pc ls (.int z :: .int x :: st) w n bc bs post := by
  intro p e R s m args below meth c C H locs cells slots Q la hH hS hl h1 h2 hk
  exact lv_icmp_ne C.1 C.2.1 hd ht (fun q => kt q p e R s m args below meth c C H locs cells slots Q la hH hS hl h1 h2 hk) (fun q => kf q p e R s m args below meth c C H locs cells slots Q la hH hS hl h1 h2 hk)
theorem r_icmp_lt {x z : Int32} {off : Int} (tgt : Nat) (hd : decode (mb y) pc = .ok (.if_icmp .lt off, 3)) (ht : (pc : Int) + off = (tgt : Int)) (kt : x < z → Go G d y tgt ls st w n bc bs post) (kf : ¬ x < z → Go G d y (pc + 3) ls st w n bc bs post) : Go G d y pc ls (.int z :: .int x :: st) w n bc bs post := by
  intro p e R s m args below meth c C H locs cells slots Q la hH hS hl h1 h2 hk
  exact lv_icmp_lt C.1 C.2.1 hd ht (fun q => kt q p e R s m args below meth c C H locs cells slots Q la hH hS hl h1 h2 hk) (fun q => kf q p e R s m args below meth c C H locs cells slots Q la hH hS hl h1 h2 hk)
theorem r_icmp_ge {x z : Int32} {off : Int} (tgt : Nat) (hd : decode (mb y) pc = .ok (.if_icmp .ge off, 3)) (ht : (pc : Int) + off = (tgt : Int)) (kt : z ≤ x → Go G d y tgt ls st w n bc bs post) (kf : ¬ z ≤ x → Go G d y (pc + 3) ls st w n bc bs post) : Go G d y pc ls (.int z :: .int x :: st) w n bc bs post := by
  intro p e R s m args below meth c C H locs cells slots Q la hH hS hl h1 h2 hk
  exact lv_icmp_ge C.1 C.2.1 hd ht (fun q => kt q p e R s m args below meth c C H locs cells slots Q la hH hS hl h1 h2 hk) (fun q => kf q p e R s m args below meth c C H locs cells slots Q la hH hS hl h1 h2 hk)
theorem r_icmp_gt {x z : Int32} {off : Int} (tgt : Nat) (hd : decode (mb y) pc = .ok (.if_icmp .gt off, 3)) (ht : (pc : Int) + off = (tgt : Int)) (kt : z < x → Go G d y tgt ls st w n bc bs post) (kf : ¬ z < x → Go G d y (pc + 3) ls st w n bc bs post) : Go G d y pc ls (.int z :: .int x :: st) w n bc bs post := by
  intro p e R s m args below meth c C H locs cells slots Q la hH hS hl h1 h2 hk
  exact lv_icmp_gt C.1 C.2.1 hd ht (fun q => kt q p e R s m args below meth c C H locs cells slots Q la hH hS hl h1 h2 hk) (fun q => kf q p e R s m args below meth c C H locs cells slots Q la hH hS hl h1 h2 hk)
theorem r_icmp_le {x z : Int32} {off : Int} (tgt : Nat) (hd : decode (mb y) pc = .ok (.if_icmp .le off, 3)) (ht : (pc : Int) + off = (tgt : Int)) (kt : x ≤ z → Go G d y tgt ls st w n bc bs post) (kf : ¬ x ≤ z → Go G d y (pc + 3) ls st w n bc bs post) : Go G d y pc ls (.int z :: .int x :: st) w n bc bs post := by
  intro p e R s m args below meth c C H locs cells slots Q la hH hS hl h1 h2 hk
  exact lv_icmp_le C.1 C.2.1 hd ht (fun q => kt q p e R s m args below meth c C H locs cells slots Q la hH hS hl h1 h2 hk) (fun q => kf q p e R s m args below meth c C H locs cells slots Q la hH hS hl h1 h2 hk)
theorem r_goto {off : Int} (tgt : Nat) (hd : decode (mb y) pc = .ok (.goto off, 3)) (ht : (pc : Int) + off = (tgt : Int)) (k : Go G d y tgt ls st w n bc bs post) : Go G d y pc ls st w n bc bs post := by
  intro p e R s m args below meth c C H locs cells slots Q la hH hS hl h1 h2 hk
  exact lv_goto C.1 C.2.1 hd ht (k p e R s m args below meth c C H locs cells slots Q la hH hS hl h1 h2 hk)
theorem r_ifnonnull {x : Nat} {off : Int} (tgt : Nat) (hd : decode (mb y) pc = .ok (.ifnonnull off, 3)) (ht : (pc : Int) + off = (tgt : Int)) (k : Go G d y tgt ls st w n bc bs post) : Go G d y pc ls (.ref x :: st) w n bc bs post := by
  intro p e R s m args below meth c C H locs cells slots Q la hH hS hl h1 h2 hk
  exact lv_ifnonnull C.1 C.2.1 hd ht (k p e R s m args below meth c C H locs cells slots Q la hH hS hl h1 h2 hk)
theorem r_ifnonnullN {off : Int} (hd : decode (mb y) pc = .ok (.ifnonnull off, 3)) (k : Go G d y (pc + 3) ls st w n bc bs post) : Go G d y pc ls (.null :: st) w n bc bs post := by
  intro p e R s m args below meth c C H locs cells slots Q la hH hS hl h1 h2 hk
  exact lv_ifnonnullN C.1 C.2.1 hd (k p e R s m args below meth c C H locs cells slots Q la hH hS hl h1 h2 hk)
theorem r_tableIn {dflt lo hi : Int} {offs : Array Int} {len : Nat} {x : Int32} {off : Int} (tgt : Nat) (hd : decode (mb y) pc = .ok (.tableswitch dflt lo hi offs, len)) (h3 : ¬ x.toInt < lo) (h4 : ¬ hi < x.toInt) (ho : offs[(x.toInt - lo).toNat]? = some off) (ht : (pc : Int) + off = (tgt : Int)) (k : Go G d y tgt ls st w n bc bs post) : Go G d y pc ls (.int x :: st) w n bc bs post := by
  intro p e R s m args below meth c C H locs cells slots Q la hH hS hl h1 h2 hk
  exact lv_tableIn C.1 C.2.1 hd h3 h4 ho ht (k p e R s m args below meth c C H locs cells slots Q la hH hS hl h1 h2 hk)
theorem r_tableOut {dflt lo hi : Int} {offs : Array Int} {len : Nat} {x : Int32} (tgt : Nat) (hd : decode (mb y) pc = .ok (.tableswitch dflt lo hi offs, len)) (h3 : x.toInt < lo ∨ hi < x.toInt) (ht : (pc : Int) + dflt = (tgt : Int)) (k : Go G d y tgt ls st w n bc bs post) : Go G d y pc ls (.int x :: st) w n bc bs post := by
  intro p e R s m args below meth c C H locs cells slots Q la hH hS hl h1 h2 hk
  exact lv_tableOut C.1 C.2.1 hd h3 ht (k p e R s m args below meth c C H locs cells slots Q la hH hS hl h1 h2 hk)
end RULES
