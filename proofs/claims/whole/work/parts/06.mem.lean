-- FIELDS, ARRAYS, MAKING
theorem cls_ok {ci N : Nat} {C : String} {T : u_T} (hc : classes[ci]? = some (C, T, N)) : (∀ w ∈ u_ws C T N, w ∈ WALL) ∧ (∃ ty : Nat → FieldType, tks[ci]? = some ty ∧ ∀ k, k < N → parseFieldDescriptor (T k).2.2.1 = some (ty k)) ∧ (∀ a, a < N → ∀ b, b < N → a ≠ b → (T a).2.1 ≠ (T b).2.1) ∧ (Cond.instantiable C N ∈ WALL ∧ Cond.initialized C ∈ WALL) := by
  match ci, hc with
  | 0, hc => cases hc; exact ⟨lk0, ⟨tk0, rfl, ok0⟩, nk0, ik0⟩
  | 1, hc => cases hc; exact ⟨lk1, ⟨tk1, rfl, ok1⟩, nk1, ik1⟩
  | 2, hc => cases hc; exact ⟨lk2, ⟨tk2, rfl, ok2⟩, nk2, ik2⟩
  | 3, hc => cases hc; exact ⟨lk3, ⟨tk3, rfl, ok3⟩, nk3, ik3⟩
  | 4, hc => cases hc; exact ⟨lk4, ⟨tk4, rfl, ok4⟩, nk4, ik4⟩
  | 5, hc => cases hc; exact ⟨lk5, ⟨tk5, rfl, ok5⟩, nk5, ik5⟩
  | 6, hc => cases hc; exact ⟨lk6, ⟨tk6, rfl, ok6⟩, nk6, ik6⟩
/-- what a field of a type takes -/
def okf (ty : FieldType) (v : Value) : Bool := match ty, v with
  | .int, .int _ => true
  | .long, .long _ => true
  | .boolean, .int x => x == 0 || x == 1
  | .array _, .ref _ => true
  | .array _, .null => true
  | .object _, .ref _ => true
  | .object _, .null => true
  | _, _ => false
theorem okf_cv {G : gE} {ty : FieldType} {v : Value} (h : okf ty v = true) : okf ty (cv G v) = true := by
  cases v <;> first | exact h | (cases ty <;> exact h)
theorem okf_narrow {ty : FieldType} {v : Value} (h : okf ty v = true) : narrow ty v = v ∧ fits ty v = true := by
  cases ty <;> cases v <;> first | exact ⟨rfl, rfl⟩ | (simp [okf] at h; done) | skip
  all_goals (simp [okf] at h; rcases h with rfl | rfl <;> exact ⟨rfl, rfl⟩)
section MEM
variable {G : gE} {d y pc : Nat} {ls : List (Option Value)} {st : List Value} {w : aW} {n bc bs : Nat} {post : Option Value → aW → Nat → Prop}
theorem r_getf {own C : String} {T : u_T} {ci N a idx k : Nat} {fs : List Value} {v : Value} (ho : (mn y).cls = own) (hd : decode (mb y) pc = .ok (.getfield idx, 3)) (hx : Cond.fieldLink own idx C (T k).2.1 (T k).2.2.1 ∈ WALL) (hc : classes[ci]? = some (C, T, N)) (hk : k < N) (hr : (T k).1 = C) (hw : w a = .inr (ci, fs)) (ha : a < n) (hv : fs[k]? = some v)
    (kk : Go G d y (pc + 3) ls (v :: st) w n bc bs post) : Go G d y pc ls (.ref a :: st) w n bc bs post := by
  intro p e R s m args below meth c C9 H locs cells slots Q la hH hS hl h1 h2 hk9
  have hat := hH.at ha hw
  refine va_get (v := cv G v) C9.1 C9.2.1 C9.2.2.2.2.1 (cls_ok hc).1 (ho ▸ C9.2.2.2.1) C9.2.2.2.2.2.2.2.2.1.1 (va_P1 hat) 0 rfl hc k hk (C9.2.2.2.2.1 _ hx) (fun x9 h9 => by rw [hr] at h9; exact h9) (by rw [List.getElem?_map, hv]; rfl) hd ?_
  exact kk p e R s m args below meth c C9 H locs cells slots Q la hH hS hl h1 h2 hk9
theorem r_getfN {own C host : String} {T : u_T} {ci N a idx k : Nat} {fs : List Value} {v : Value} (ho : (mn y).cls = own) (hd : decode (mb y) pc = .ok (.getfield idx, 3)) (hx : Cond.fieldLinkNest own idx C (T k).2.1 (T k).2.2.1 host ∈ NST) (hc : classes[ci]? = some (C, T, N)) (hk : k < N) (hr : (T k).1 = C) (hw : w a = .inr (ci, fs)) (ha : a < n) (hv : fs[k]? = some v)
    (kk : Go G d y (pc + 3) ls (v :: st) w n bc bs post) : Go G d y pc ls (.ref a :: st) w n bc bs post := by
  intro p e R s m args below meth c C9 H locs cells slots Q la hH hS hl h1 h2 hk9
  have hat := hH.at ha hw
  refine va_getN (v := cv G v) C9.1 C9.2.1 C9.2.2.2.2.1 (cls_ok hc).1 (ho ▸ C9.2.2.2.1) C9.2.2.2.2.2.2.2.2.1.1 (va_P1 hat) 0 rfl hc k hk (va_Nw.use rfl (C9.2.2.2.2.2.2.2.2.1.2.1 _ hx)) (fun x9 h9 => by rw [hr] at h9; exact h9) (by rw [List.getElem?_map, hv]; rfl) hd ?_
  exact kk p e R s m args below meth c C9 H locs cells slots Q la hH hS hl h1 h2 hk9
/-- the object behind a store into it -/
theorem ob_put {args : Array Value} {s : State} {H1 : Heap} {C : String} {T : u_T} {ci N a k : Nat} {fs : List Value} {v : Value} {cell : Cell} (hts : ∀ w ∈ WALL, w.before args s = true) (hK : va_K (gD G) classes (gtys G) s) (hc : classes[ci]? = some (C, T, N)) (hk : k < N) (hl : k < fs.length)
    (q2 : cell.cls = (gD G).1 ci) (q3 : cell.vm = .none) (q4 : ∀ j, j < N → cell.slots[(gD G).2 ci j]? = some (vp_V (fs.map (cv G)) j)) (e1 : H1[gad G a]? = some (cell.setSlot ((gD G).2 ci k) (cv G v))) : va_at (gD G) classes (gad G a, ce G (.inr (ci, fs.set k v))) H1 := by
  obtain ⟨hin, ⟨ty, -, hty⟩, hnm, -⟩ := cls_ok hc
  have hap := va_apart (own := C) hts hin ty hty hnm hK hc
  refine ⟨_, hc, ?_⟩
  show t_OB (gad G a) ((gD G).1 ci) N ((gD G).2 ci) H1 (vp_V ((fs.set k v).map (cv G)))
  rw [List.map_set]
  exact t_OB.to (V := updV (vp_V (fs.map (cv G))) k (cv G v)) ⟨_, e1, q2, q3, t_set q4 hap hk (cv G v)⟩ (fun j _ => vp_updV_set (by rw [List.length_map]; exact hl) (cv G v) j)
theorem r_putf {own C : String} {T : u_T} {ci N a idx k : Nat} {fs : List Value} {v : Value} {ty : FieldType} (ho : (mn y).cls = own) (hd : decode (mb y) pc = .ok (.putfield idx, 3)) (hx : Cond.fieldLink own idx C (T k).2.1 (T k).2.2.1 ∈ WALL) (hc : classes[ci]? = some (C, T, N)) (hk : k < N) (hr : (T k).1 = C) (hf : (T k).2.2.2 = false) (ht : parseFieldDescriptor (T k).2.2.1 = some ty) (hv : okf ty v = true) (hw : w a = .inr (ci, fs)) (ha : a < n) (hl : k < fs.length)
    (kk : Go G d y (pc + 3) ls st (upw w a (.inr (ci, fs.set k v))) n bc bs post) : Go G d y pc ls (v :: .ref a :: st) w n bc bs post := by
  intro p e R s m args below meth c C9 H locs cells slots Q la hH hS hl9 h1 h2 hk9
  have hat := hH.at ha hw
  have hts := C9.2.2.2.2.1
  have hK := C9.2.2.2.2.2.2.2.2.1.1
  obtain ⟨r, e0, cell, q1, q2, q3, q4⟩ := hat
  cases e0.symm.trans hc
  obtain ⟨hin, -, -, -⟩ := cls_ok hc
  obtain ⟨hSl, hfc, kC, hkC, hkind⟩ := hK.1 ci _ hc
  obtain ⟨cf, kf, fi, f, hi, hsl⟩ := hSl k hk
  have hlay := hts _ (hin _ (u_in_lay hk))
  unfold u_lay at hlay
  rw [if_neg (by rw [hf]; decide)] at hlay
  have hst := (u_facts hfc hkC (Or.inl hlay) hi).1
  obtain ⟨hn9, hfit9⟩ := okf_narrow (okf_cv (G := G) hv)
  have h6 := u_store hfc hkC hkind hlay hi ht hn9 hfit9
  have hsame : s.fieldFound? C (T k).2.1 (T k).2.2.1 = some (cf, kf, fi, f) := by rw [← hr]; exact hi
  refine W.putK C9.1 C9.2.1 (f := f) ⟨ho ▸ C9.2.2.2.1, hts _ hx, ⟨_, _, _, hsame⟩, hst⟩ (by rw [q2]; exact h6) q1 q3 (by rw [hsl]; exact k2_hasslot (q4 k hk)) rfl rfl hd fun H' e1 e2 e3 => ?_
  rw [hsl] at e1 ⊢
  exact kk p e R s m args below meth c C9 H' _ cells slots Q la (hH.set ha (ob_put hts hK hc hk hl q2 q3 q4 e1) e2 e3) (hS.put e2 e3 (hH.a ha)) hl9 h1 h2 hk9
theorem r_putfN {own C host : String} {T : u_T} {ci N a idx k : Nat} {fs : List Value} {v : Value} {ty : FieldType} (ho : (mn y).cls = own) (hd : decode (mb y) pc = .ok (.putfield idx, 3)) (hx : Cond.fieldLinkNest own idx C (T k).2.1 (T k).2.2.1 host ∈ NST) (hc : classes[ci]? = some (C, T, N)) (hk : k < N) (hr : (T k).1 = C) (hf : (T k).2.2.2 = false) (ht : parseFieldDescriptor (T k).2.2.1 = some ty) (hv : okf ty v = true) (hw : w a = .inr (ci, fs)) (ha : a < n) (hl : k < fs.length)
    (kk : Go G d y (pc + 3) ls st (upw w a (.inr (ci, fs.set k v))) n bc bs post) : Go G d y pc ls (v :: .ref a :: st) w n bc bs post := by
  intro p e R s m args below meth c C9 H locs cells slots Q la hH hS hl9 h1 h2 hk9
  have hat := hH.at ha hw
  have hts := C9.2.2.2.2.1
  have hK := C9.2.2.2.2.2.2.2.2.1.1
  obtain ⟨r, e0, cell, q1, q2, q3, q4⟩ := hat
  cases e0.symm.trans hc
  obtain ⟨hin, -, -, -⟩ := cls_ok hc
  obtain ⟨hSl, hfc, kC, hkC, hkind⟩ := hK.1 ci _ hc
  obtain ⟨cf, kf, fi, f, hi, hsl⟩ := hSl k hk
  have hlay := hts _ (hin _ (u_in_lay hk))
  unfold u_lay at hlay
  rw [if_neg (by rw [hf]; decide)] at hlay
  have hst := (u_facts hfc hkC (Or.inl hlay) hi).1
  obtain ⟨hn9, hfit9⟩ := okf_narrow (okf_cv (G := G) hv)
  have h6 := u_store hfc hkC hkind hlay hi ht hn9 hfit9
  have hsame : s.fieldFound? C (T k).2.1 (T k).2.2.1 = some (cf, kf, fi, f) := by rw [← hr]; exact hi
  refine va_WputK C9.1 C9.2.1 (f := f) (ho ▸ C9.2.2.2.1) (va_Nw.use rfl (C9.2.2.2.2.2.2.2.2.1.2.1 _ hx)) hsame hst (by rw [q2]; exact h6) q1 q3 (by rw [hsl]; exact k2_hasslot (q4 k hk)) rfl rfl hd fun H' e1 e2 e3 => ?_
  rw [hsl] at e1 ⊢
  exact kk p e R s m args below meth c C9 H' _ cells slots Q la (hH.set ha (ob_put hts hK hc hk hl q2 q3 q4 e1) e2 e3) (hS.put e2 e3 (hH.a ha)) hl9 h1 h2 hk9
theorem r_putfF {own C : String} {T : u_T} {ci N a idx k : Nat} {fs : List Value} {v : Value} {ty : FieldType} (ho : (mn y).cls = own) (hi9 : (mn y).name = "<init>") (hd : decode (mb y) pc = .ok (.putfield idx, 3)) (hx : Cond.fieldLink own idx C (T k).2.1 (T k).2.2.1 ∈ WALL) (hc : classes[ci]? = some (C, T, N)) (hk : k < N) (hr : (T k).1 = C) (hoC : C = own) (hf : (T k).2.2.2 = true) (ht : parseFieldDescriptor (T k).2.2.1 = some ty) (hv : okf ty v = true) (hw : w a = .inr (ci, fs)) (ha : a < n) (hl : k < fs.length)
    (kk : Go G d y (pc + 3) ls st (upw w a (.inr (ci, fs.set k v))) n bc bs post) : Go G d y pc ls (v :: .ref a :: st) w n bc bs post := by
  intro p e R s m args below meth c C9 H locs cells slots Q la hH hS hl9 h1 h2 hk9
  have hat := hH.at ha hw
  have hts := C9.2.2.2.2.1
  have hK := C9.2.2.2.2.2.2.2.2.1.1
  have hown : s.vm.findClass own = some m.cls := ho ▸ C9.2.2.2.1
  obtain ⟨r, e0, cell, q1, q2, q3, q4⟩ := hat
  cases e0.symm.trans hc
  obtain ⟨hin, -, -, -⟩ := cls_ok hc
  obtain ⟨hSl, hfc, kC, hkC, hkind⟩ := hK.1 ci _ hc
  obtain ⟨cf, kf, fi, f, hi, hsl⟩ := hSl k hk
  have hlay := hts _ (hin _ (u_in_lay hk))
  unfold u_lay at hlay
  rw [if_pos hf] at hlay
  have hst := (u_facts hfc hkC (Or.inr hlay) hi).1
  have hcf : m.cls = cf := by
    obtain ⟨_, _, c', _, _, _, -, -, hf', -, -, -, hown2, -⟩ := Cond.laysFinal_spec hlay
    have e1 : c' = cf := by have := hi.symm.trans hf'; simp at this; exact this.1.symm
    rw [hr, hoC] at hown2
    rw [← e1]; exact Option.some.inj (hown.symm.trans hown2)
  obtain ⟨hn9, hfit9⟩ := okf_narrow (okf_cv (G := G) hv)
  have h6 := u_fits hfc hkC hkind (Or.inr hlay) hi ht hn9 hfit9
  have hsame : s.fieldFound? C (T k).2.1 (T k).2.2.1 = some (cf, kf, fi, f) := by rw [← hr]; exact hi
  refine W.putFinK C9.1 C9.2.1 hown (hts _ hx) hsame hst hcf (C9.2.2.2.2.2.1 hi9) (by rw [q2]; exact h6) q1 q3 (by rw [hsl]; exact k2_hasslot (q4 k hk)) rfl rfl hd fun H' e1 e2 e3 => ?_
  rw [hsl] at e1 ⊢
  exact kk p e R s m args below meth c C9 H' _ cells slots Q la (hH.set ha (ob_put hts hK hc hk hl q2 q3 q4 e1) e2 e3) (hS.put e2 e3 (hH.a ha)) hl9 h1 h2 hk9
-- arrays
theorem r_iald {a len : Nat} {f : Nat → Int32} {i : Int32} (hd : decode (mb y) pc = .ok (.iaload, 1)) (hw : w a = .inl (0, (len, .inl f))) (ha : a < n) (hin : vp_in i len) (kk : Go G d y (pc + 1) ls (.int (f i.toNatClampNeg) :: st) w n bc bs post) : Go G d y pc ls (.int i :: .ref a :: st) w n bc bs post := by
  intro p e R s m args below meth c C9 H locs cells slots Q la hH hS hl h1 h2 hk9
  exact va_iald (tys := gtys G) C9.1 C9.2.1 C9.2.2.2.2.2.2.2.2.1.1 (va_P1 (hH.at ha hw)) 0 0 rfl rfl hin hd (kk p e R s m args below meth c C9 H locs cells slots Q la hH hS hl h1 h2 hk9)
theorem r_zald {a len : Nat} {f : Nat → Int32} {i : Int32} (hd : decode (mb y) pc = .ok (.baload, 1)) (hw : w a = .inl (2, (len, .inl f))) (ha : a < n) (hin : vp_in i len) (kk : Go G d y (pc + 1) ls (.int (f i.toNatClampNeg) :: st) w n bc bs post) : Go G d y pc ls (.int i :: .ref a :: st) w n bc bs post := by
  intro p e R s m args below meth c C9 H locs cells slots Q la hH hS hl h1 h2 hk9
  exact va_zald (tys := gtys G) C9.1 C9.2.1 C9.2.2.2.2.2.2.2.2.1.1 (va_P1 (hH.at ha hw)) 0 2 rfl rfl hin hd (kk p e R s m args below meth c C9 H locs cells slots Q la hH hS hl h1 h2 hk9)
theorem r_lald {a len : Nat} {f : Nat → Int64} {i : Int32} (hd : decode (mb y) pc = .ok (.laload, 1)) (hw : w a = .inl (1, (len, .inr (.inl f)))) (ha : a < n) (hin : vp_in i len) (kk : Go G d y (pc + 1) ls (.long (f i.toNatClampNeg) :: st) w n bc bs post) : Go G d y pc ls (.int i :: .ref a :: st) w n bc bs post := by
  intro p e R s m args below meth c C9 H locs cells slots Q la hH hS hl h1 h2 hk9
  exact va_lald (tys := gtys G) C9.1 C9.2.1 C9.2.2.2.2.2.2.2.2.1.1 (va_P1 (hH.at ha hw)) 0 1 rfl rfl hin hd (kk p e R s m args below meth c C9 H locs cells slots Q la hH hS hl h1 h2 hk9)
theorem r_aald {a t len b : Nat} {f : Nat → Option Nat} {i : Int32} (hd : decode (mb y) pc = .ok (.aaload, 1)) (hw : w a = .inl (t, (len, .inr (.inr (.inr (.inr f)))))) (ht : t = 3 ∨ t = 4) (ha : a < n) (hin : vp_in i len) (hf : f i.toNatClampNeg = some b) (kk : Go G d y (pc + 1) ls (.ref b :: st) w n bc bs post) : Go G d y pc ls (.int i :: .ref a :: st) w n bc bs post := by
  intro p e R s m args below meth c C9 H locs cells slots Q la hH hS hl h1 h2 hk9
  have hat := hH.at ha hw
  have hlt : i.toNatClampNeg < len := Nat.not_le.mp fun q => hin (Or.inr q)
  have hcell : H[gad G a]? = some (arrV (gtc G t) len (fun j => va_rf ((f j).map (gad G)))) := hat
  have hA : ∃ ty : FieldType, ty.isReference = true ∧ ArrOfT s (gtc G t) ty := by
    rcases ht with rfl | rfl
    · exact ⟨_, rfl, (C9.2.2.2.2.2.2.2.2.1.1.2 3 _ rfl).1⟩
    · exact ⟨_, rfl, (C9.2.2.2.2.2.2.2.2.1.1.2 4 _ rfl).1⟩
  obtain ⟨ty, hty, hAr⟩ := hA
  refine W.aald (v := .ref (gad G b)) (ty := ty) C9.1 C9.2.1 hcell (hAr _ _) hty (fun q => by cases q) (by rw [arrV_size]; exact hin) (by rw [arrV_read _ _ hlt, hf]; rfl) rfl rfl hd ?_
  exact kk p e R s m args below meth c C9 H locs cells slots Q la hH hS hl h1 h2 hk9
theorem r_alen {a t len : Nat} {x : (Nat → Int32) ⊕ (Nat → Int64) ⊕ (Nat → UInt32) ⊕ (Nat → UInt64) ⊕ (Nat → Option Nat)} (hd : decode (mb y) pc = .ok (.arraylength, 1)) (hw : w a = .inl (t, (len, x))) (ht : t < 5) (ha : a < n) (kk : Go G d y (pc + 1) ls (.int (Int32.ofNat len) :: st) w n bc bs post) : Go G d y pc ls (.ref a :: st) w n bc bs post := by
  intro p e R s m args below meth c C9 H locs cells slots Q la hH hS hl h1 h2 hk9
  have hK := C9.2.2.2.2.2.2.2.2.1.1
  have hat := hH.at ha hw
  obtain ⟨ty, h9⟩ : ∃ ty, (gtys G)[t]? = some (gtc G t, ty) := by
    match t, ht with
    | 0, _ => exact ⟨_, rfl⟩
    | 1, _ => exact ⟨_, rfl⟩
    | 2, _ => exact ⟨_, rfl⟩
    | 3, _ => exact ⟨_, rfl⟩
    | 4, _ => exact ⟨_, rfl⟩
  exact va_alen (tys := gtys G) (x := cx G (len, x)) C9.1 C9.2.1 hK (va_P1 hat) 0 t rfl h9 rfl hd (kk p e R s m args below meth c C9 H locs cells slots Q la hH hS hl h1 h2 hk9)
theorem arr_updI {c : ClassId} {N k : Nat} {f : Nat → Int32} {x : Int32} : (arrV c N (fun j => .int (f j))).setSlot k (.int x) = arrV c N (fun j => .int (upd f k x j)) := by
  rw [arrV_store]
  refine congrArg (arrV c N) (funext fun j => ?_)
  by_cases e : j = k <;> simp [updV, upd, e]
theorem arr_updL {c : ClassId} {N k : Nat} {f : Nat → Int64} {x : Int64} : (arrV c N (fun j => .long (f j))).setSlot k (.long x) = arrV c N (fun j => .long (vp_updL f k x j)) := by
  rw [arrV_store]
  refine congrArg (arrV c N) (funext fun j => ?_)
  by_cases e : j = k <;> simp [updV, vp_updL, e]
theorem r_iast {a len : Nat} {f : Nat → Int32} {i x : Int32} (hd : decode (mb y) pc = .ok (.iastore, 1)) (hw : w a = .inl (0, (len, .inl f))) (ha : a < n) (hin : vp_in i len) (kk : Go G d y (pc + 1) ls st (upw w a (.inl (0, (len, .inl (upd f i.toNatClampNeg x))))) n bc bs post) : Go G d y pc ls (.int x :: .int i :: .ref a :: st) w n bc bs post := by
  intro p e R s m args below meth c C9 H locs cells slots Q la hH hS hl h1 h2 hk9
  have hcell : H[gad G a]? = some (arrV (gtc G 0) len (fun j => .int (f j))) := hH.at ha hw
  refine W.iast C9.1 C9.2.1 hcell ((C9.2.2.2.2.2.2.2.2.1.1.2 0 _ rfl).1 _ _) (fun q => by cases q) (by rw [arrV_size]; exact hin) rfl rfl hd fun H' e1 e2 e3 => ?_
  rw [arr_updI] at e1
  exact kk p e R s m args below meth c C9 H' _ cells slots Q la (hH.set ha e1 e2 e3) (hS.put e2 e3 (hH.a ha)) hl h1 h2 hk9
theorem r_zast {a len : Nat} {f : Nat → Int32} {i x : Int32} (hd : decode (mb y) pc = .ok (.bastore, 1)) (hw : w a = .inl (2, (len, .inl f))) (ha : a < n) (hin : vp_in i len) (hx : narrow .boolean (.int x) = .int x) (kk : Go G d y (pc + 1) ls st (upw w a (.inl (2, (len, .inl (upd f i.toNatClampNeg x))))) n bc bs post) : Go G d y pc ls (.int x :: .int i :: .ref a :: st) w n bc bs post := by
  intro p e R s m args below meth c C9 H locs cells slots Q la hH hS hl h1 h2 hk9
  have hcell : H[gad G a]? = some (arrV (gtc G 2) len (fun j => .int (f j))) := hH.at ha hw
  refine W.zast C9.1 C9.2.1 hcell ((C9.2.2.2.2.2.2.2.2.1.1.2 2 _ rfl).1 _ _) (fun q => by cases q) (by rw [arrV_size]; exact hin) rfl rfl hd fun H' e1 e2 e3 => ?_
  rw [hx, arr_updI] at e1
  exact kk p e R s m args below meth c C9 H' _ cells slots Q la (hH.set ha e1 e2 e3) (hS.put e2 e3 (hH.a ha)) hl h1 h2 hk9
theorem r_last {a len : Nat} {f : Nat → Int64} {i : Int32} {x : Int64} (hd : decode (mb y) pc = .ok (.lastore, 1)) (hw : w a = .inl (1, (len, .inr (.inl f)))) (ha : a < n) (hin : vp_in i len) (kk : Go G d y (pc + 1) ls st (upw w a (.inl (1, (len, .inr (.inl (vp_updL f i.toNatClampNeg x)))))) n bc bs post) : Go G d y pc ls (.long x :: .int i :: .ref a :: st) w n bc bs post := by
  intro p e R s m args below meth c C9 H locs cells slots Q la hH hS hl h1 h2 hk9
  have hcell : H[gad G a]? = some (arrV (gtc G 1) len (fun j => .long (f j))) := hH.at ha hw
  refine W.last C9.1 C9.2.1 hcell ((C9.2.2.2.2.2.2.2.2.1.1.2 1 _ rfl).1 _ _) (fun q => by cases q) (by rw [arrV_size]; exact hin) rfl rfl hd fun H' e1 e2 e3 => ?_
  rw [arr_updL] at e1
  exact kk p e R s m args below meth c C9 H' _ cells slots Q la (hH.set ha e1 e2 e3) (hS.put e2 e3 (hH.a ha)) hl h1 h2 hk9
-- making
theorem cv_dflt {G : gE} (t : FieldType) : cv G (defaultValue t) = defaultValue t := by cases t <;> rfl
theorem r_new {own C : String} {T : u_T} {ci N idx : Nat} {ty : Nat → FieldType} (ho : (mn y).cls = own) (hd : decode (mb y) pc = .ok (.new idx, 3)) (hx : Cond.classLink own idx C ∈ WALL) (hc : classes[ci]? = some (C, T, N)) (ht : tks[ci]? = some ty) (hn : n < gB) (hbc : 1 ≤ bc) (hbs : N ≤ bs) (kk : Go G d y (pc + 3) ls (.ref n :: st) (upw w n (.inr (ci, (List.range N).map (fun k => defaultValue (ty k))))) (n + 1) (bc - 1) (bs - N) post) : Go G d y pc ls st w n bc bs post := by
  intro p e R s m args below meth c C9 H locs cells slots Q la hH hS hl h1 h2 hk9
  have hts := C9.2.2.2.2.1
  have hK := C9.2.2.2.2.2.2.2.2.1.1
  obtain ⟨hin, ⟨ty9, ht9, hty⟩, hnm, hins, hini⟩ := cls_ok hc
  cases ht9.symm.trans ht
  have hKn := hK.1 ci _ hc
  refine W.newcK C9.1 C9.2.1 (ho ▸ C9.2.2.2.1) (hts _ hx) (hts _ hins) (hts _ hini) rfl hd (by omega) (by omega) hKn.2.1 rfl fun H1 kC hkC e1 z1 o1 => ?_
  have hsz := hH.1
  have e9 : H.size = gad G n := by rw [gad_lt hn]; exact hsz
  rw [e9] at e1
  have hOB : va_at (gD G) classes (gad G n, ce G (.inr (ci, (List.range N).map (fun k => defaultValue (ty k))))) H1 := by
    refine ⟨_, hc, (u_born ty hts hin hKn hkC e1 hty).to fun j hj => ?_⟩
    simp [vp_V, hj, cv_dflt]
  have k9 := kk p e R s m args below meth c C9 H1 locs (cells + 1) (slots + N) Q la (hH.push hn hOB z1 o1) ⟨by have := hS.1; omega, fun x q1 q2 => (o1 x (by have := hS.1; omega)).trans (hS.2.1 x q1 q2), hS.2.2⟩ hl (by omega) (by omega) hk9
  rw [List.map_cons, show cv G (.ref n) = .ref H.size by rw [e9]; rfl] at k9
  exact k9
def anyOf (t : Nat) : vp_A → Prop := fun a => match t with
  | 0 => a.2 = .inl (fun _ => 0)
  | 1 => a.2 = .inr (.inl (fun _ => 0))
  | _ => a.2 = .inl (fun _ => 0)
theorem r_newa {at9 : ArrayType} {t : Nat} {i : Int32} {len : Nat} {x : vp_A} (hd : decode (mb y) pc = .ok (.newarray at9, 2)) (ht : (at9 = .int ∧ t = 0) ∨ (at9 = .long ∧ t = 1) ∨ (at9 = .boolean ∧ t = 2)) (hi : i = nI len) (hlen : len ≤ 1000) (hx : x.1 = len ∧ anyOf t x) (hn : n < gB) (hbc : 1 ≤ bc) (hbs : len ≤ bs) (kk : Go G d y (pc + 2) ls (.ref n :: st) (upw w n (.inl (t, x))) (n + 1) (bc - 1) (bs - len) post) : Go G d y pc ls (.int i :: st) w n bc bs post := by
  intro p e R s m args below meth c C9 H locs cells slots Q la hH hS hl h1 h2 hk9
  have hts := C9.2.2.2.2.1
  have hK := C9.2.2.2.2.2.2.2.2.1.1
  have hsz := hH.1
  have e9 : H.size = gad G n := by rw [gad_lt hn]; exact hsz
  have harr : (Cond.arrayClass (newarray.typeOf at9)).before args s = true := by
    rcases ht with ⟨rfl, rfl⟩ | ⟨rfl, rfl⟩ | ⟨rfl, rfl⟩
    · exact hts _ ac_int
    · exact hts _ ac_long
    · exact hts _ ac_boolean
  have hcb : len * componentBytes (newarray.typeOf at9) ≤ 536870912 := by
    have : componentBytes (newarray.typeOf at9) ≤ 8 := by rcases ht with ⟨rfl, rfl⟩ | ⟨rfl, rfl⟩ | ⟨rfl, rfl⟩ <;> decide
    calc len * componentBytes (newarray.typeOf at9) ≤ 1000 * 8 := Nat.mul_le_mul hlen this
      _ ≤ 536870912 := by decide
  subst hi
  refine va_newaK C9.1 C9.2.1 harr rfl hd rfl (nI_pos (by omega)) (nI_clamp (by omega)) hcb (by omega) (by omega) rfl fun H1 cA e1 z1 o1 hAr hNm => ?_
  rw [e9] at e1
  have hcell : va_at (gD G) classes (gad G n, ce G (.inl (t, x))) H1 := by
    obtain ⟨xl, xc⟩ := x
    obtain ⟨rfl, hx2⟩ := hx
    show H1[gad G n]? = some (vp_cell (gtc G t) (cx G (xl, xc)))
    rw [e1]
    rcases ht with ⟨rfl, rfl⟩ | ⟨rfl, rfl⟩ | ⟨rfl, rfl⟩
    · have ec : cA = gtc G 0 := Option.some.inj (hNm.symm.trans (hK.2 0 _ rfl).2)
      rw [ec, show xc = _ from hx2]; rfl
    · have ec : cA = gtc G 1 := Option.some.inj (hNm.symm.trans (hK.2 1 _ rfl).2)
      rw [ec, show xc = _ from hx2]; rfl
    · have ec : cA = gtc G 2 := Option.some.inj (hNm.symm.trans (hK.2 2 _ rfl).2)
      rw [ec, show xc = _ from hx2]; rfl
  have k9 := kk p e R s m args below meth c C9 H1 locs (cells + 1) (slots + len) Q la (hH.push hn hcell z1 o1) ⟨by have := hS.1; omega, fun x q1 q2 => (o1 x (by have := hS.1; omega)).trans (hS.2.1 x q1 q2), hS.2.2⟩ hl (by omega) (by omega) hk9
  rw [List.map_cons, show cv G (.ref n) = .ref H.size by rw [e9]; rfl] at k9
  exact k9
end MEM
