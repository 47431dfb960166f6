-- WHAT IS OLDER THAN THE LAW; CALLS
theorem gad_old {G : gE} {j : Nat} : gad G (gB + j) = gao G j := by
  unfold gad
  rw [if_neg (by omega), Nat.add_sub_cancel_left]
theorem cv_old {G : gE} {j : Nat} : cv G (.ref (gB + j)) = .ref (gao G j) := by
  show Value.ref (gad G (gB + j)) = _
  rw [gad_old]
section OLD
variable {G : gE} {d y pc : Nat} {ls : List (Option Value)} {st : List Value} {w : aW} {n bc bs : Nat} {post : Option Value → aW → Nat → Prop}
theorem r_aboveAt {i : Int32} (hd : decode (mb y) pc = .ok (.iaload, 1)) (hin : vp_in i 7) (kk : Go G d y (pc + 1) ls (.int (aboveL.getD i.toNatClampNeg 0) :: st) w n bc bs post) : Go G d y pc ls (.int i :: .ref (gB + 200) :: st) w n bc bs post := by
  intro p e R s m args below meth c C9 H locs cells slots Q la hH hS hl h1 h2 hk9
  have hO := C9.2.2.2.2.2.2.2.2.2
  rw [List.map_cons, List.map_cons, cv_old]
  exact va_ti C9.1 C9.2.1 hO.2.2.2.1 hS hin rfl hd (kk p e R s m args below meth c C9 H locs cells slots Q la hH hS hl h1 h2 hk9)
theorem r_aboveLen (hd : decode (mb y) pc = .ok (.arraylength, 1)) (kk : Go G d y (pc + 1) ls (.int 7 :: st) w n bc bs post) : Go G d y pc ls (.ref (gB + 200) :: st) w n bc bs post := by
  intro p e R s m args below meth c C9 H locs cells slots Q la hH hS hl h1 h2 hk9
  have hO := C9.2.2.2.2.2.2.2.2.2
  rw [List.map_cons, cv_old]
  exact va_tlen C9.1 C9.2.1 hO.2.2.2.1 hS rfl hd (kk p e R s m args below meth c C9 H locs cells slots Q la hH hS hl h1 h2 hk9)
theorem r_scriptAt {i : Int32} (hd : decode (mb y) pc = .ok (.iaload, 1)) (hin : vp_in i (gL G)) (kk : Go G d y (pc + 1) ls (.int (gxs G i.toNatClampNeg) :: st) w n bc bs post) : Go G d y pc ls (.int i :: .ref (gB + 201) :: st) w n bc bs post := by
  intro p e R s m args below meth c C9 H locs cells slots Q la hH hS hl h1 h2 hk9
  have hO := C9.2.2.2.2.2.2.2.2.2
  rw [List.map_cons, List.map_cons, cv_old]
  exact va_sld C9.1 C9.2.1 hO.2.2.2.2.2.2.1 (Nat.lt_of_lt_of_le hO.2.2.2.2.2.2.2.1 hO.2.2.2.2.2.2.2.2) (Nat.not_le.mpr hO.2.2.2.2.2.2.2.1) hS hin hd (kk p e R s m args below meth c C9 H locs cells slots Q la hH hS hl h1 h2 hk9)
theorem r_scriptLen (hd : decode (mb y) pc = .ok (.arraylength, 1)) (kk : Go G d y (pc + 1) ls (.int (Int32.ofNat (gL G)) :: st) w n bc bs post) : Go G d y pc ls (.ref (gB + 201) :: st) w n bc bs post := by
  intro p e R s m args below meth c C9 H locs cells slots Q la hH hS hl h1 h2 hk9
  have hO := C9.2.2.2.2.2.2.2.2.2
  rw [List.map_cons, cv_old]
  exact va_slen C9.1 C9.2.1 hO.2.2.2.2.2.2.1 (Nat.lt_of_lt_of_le hO.2.2.2.2.2.2.2.1 hO.2.2.2.2.2.2.2.2) (Nat.not_le.mpr hO.2.2.2.2.2.2.2.1) hS hd (kk p e R s m args below meth c C9 H locs cells slots Q la hH hS hl h1 h2 hk9)
theorem r_strAt {j : Nat} {i : Int32} (hd : decode (mb y) pc = .ok (.baload, 1)) (hj : j < 9) (hin : vp_in i (strL.getD j 0)) (kk : Go G d y (pc + 1) ls (.int ((strB.getD j []).getD i.toNatClampNeg 0) :: st) w n bc bs post) : Go G d y pc ls (.int i :: .ref (gB + (100 + j)) :: st) w n bc bs post := by
  intro p e R s m args below meth c C9 H locs cells slots Q la hH hS hl h1 h2 hk9
  have hO := C9.2.2.2.2.2.2.2.2.2
  rw [List.map_cons, List.map_cons, cv_old]
  exact va_tb C9.1 C9.2.1 (hO.1.1 j hj).2.2.2 hS hin rfl hd (kk p e R s m args below meth c C9 H locs cells slots Q la hH hS hl h1 h2 hk9)
theorem r_strLen {j : Nat} (hd : decode (mb y) pc = .ok (.arraylength, 1)) (hj : j < 9) (kk : Go G d y (pc + 1) ls (.int (Int32.ofNat (strL.getD j 0)) :: st) w n bc bs post) : Go G d y pc ls (.ref (gB + (100 + j)) :: st) w n bc bs post := by
  intro p e R s m args below meth c C9 H locs cells slots Q la hH hS hl h1 h2 hk9
  have hO := C9.2.2.2.2.2.2.2.2.2
  rw [List.map_cons, cv_old]
  exact va_tlen C9.1 C9.2.1 (hO.1.1 j hj).2.2.2 hS rfl hd (kk p e R s m args below meth c C9 H locs cells slots Q la hH hS hl h1 h2 hk9)
theorem r_strVal {own : String} {j idx : Nat} (ho : (mn y).cls = own) (hd : decode (mb y) pc = .ok (.getfield idx, 3)) (hx : Cond.fieldLink own idx "java/lang/String" "value" "[B" ∈ WALL) (hj : j < 9) (kk : Go G d y (pc + 3) ls (.ref (gB + (100 + j)) :: st) w n bc bs post) : Go G d y pc ls (.ref (gB + j) :: st) w n bc bs post := by
  intro p e R s m args below meth c C9 H locs cells slots Q la hH hS hl h1 h2 hk9
  have hO := C9.2.2.2.2.2.2.2.2.2
  have k9 := kk p e R s m args below meth c C9 H locs cells slots Q la hH hS hl h1 h2 hk9
  rw [List.map_cons, cv_old] at k9 ⊢
  exact vk_getf C9.1 C9.2.1 (hO.1.1 j hj).2.2.1 hS (ho ▸ C9.2.2.2.1) (C9.2.2.2.2.1 _ hx) (fun _ h => h) hd k9
theorem r_strCoder {own : String} {j idx : Nat} (ho : (mn y).cls = own) (hd : decode (mb y) pc = .ok (.getfield idx, 3)) (hx : Cond.fieldLink own idx "java/lang/String" "coder" "B" ∈ WALL) (hj : j < 9) (kk : Go G d y (pc + 3) ls (.int 0 :: st) w n bc bs post) : Go G d y pc ls (.ref (gB + j) :: st) w n bc bs post := by
  intro p e R s m args below meth c C9 H locs cells slots Q la hH hS hl h1 h2 hk9
  have hO := C9.2.2.2.2.2.2.2.2.2
  have k9 := kk p e R s m args below meth c C9 H locs cells slots Q la hH hS hl h1 h2 hk9
  rw [List.map_cons, cv_old]
  exact vk_getf C9.1 C9.2.1 (hO.1.1 j hj).2.1 hS (ho ▸ C9.2.2.2.1) (C9.2.2.2.2.1 _ hx) (fun _ h => h) hd k9
theorem r_getsAbove {own : String} {idx : Nat} (ho : (mn y).cls = own) (hd : decode (mb y) pc = .ok (.getstatic idx, 3)) (hx : Cond.fieldLink own idx "NeedsALoser$Rules" "ABOVE" "[I" ∈ WALL) (kk : Go G d y (pc + 3) ls (.ref (gB + 200) :: st) w n bc bs post) : Go G d y pc ls st w n bc bs post := by
  intro p e R s m args below meth c C9 H locs cells slots Q la hH hS hl h1 h2 hk9
  have hO := C9.2.2.2.2.2.2.2.2.2
  have k9 := kk p e R s m args below meth c C9 H locs cells slots Q la hH hS hl h1 h2 hk9
  rw [List.map_cons, cv_old] at k9
  exact va_gets C9.1 C9.2.1 hO.2.2.1 hS (ho ▸ C9.2.2.2.1) (C9.2.2.2.2.1 _ hx) (fun _ h => h) hd k9
theorem r_getsCompact {own : String} {idx : Nat} (ho : (mn y).cls = own) (hd : decode (mb y) pc = .ok (.getstatic idx, 3)) (hx : Cond.fieldLink own idx "java/lang/String" "COMPACT_STRINGS" "Z" ∈ WALL) (kk : Go G d y (pc + 3) ls (.int 1 :: st) w n bc bs post) : Go G d y pc ls st w n bc bs post := by
  intro p e R s m args below meth c C9 H locs cells slots Q la hH hS hl h1 h2 hk9
  have hO := C9.2.2.2.2.2.2.2.2.2
  exact va_gets C9.1 C9.2.1 hO.2.2.2.2.1 hS (ho ▸ C9.2.2.2.1) (C9.2.2.2.2.1 _ hx) (fun _ h => h) hd (kk p e R s m args below meth c C9 H locs cells slots Q la hH hS hl h1 h2 hk9)
theorem r_getsFmt {own : String} {idx : Nat} (ho : (mn y).cls = own) (hd : decode (mb y) pc = .ok (.getstatic idx, 3)) (hx : Cond.fieldLink own idx "jdk/internal/util/Preconditions" "SIOOBE_FORMATTER" "Ljava/util/function/BiFunction;" ∈ WALL) (kk : Go G d y (pc + 3) ls (gfm G :: st) w n bc bs post) : Go G d y pc ls st w n bc bs post := by
  intro p e R s m args below meth c C9 H locs cells slots Q la hH hS hl h1 h2 hk9
  have hO := C9.2.2.2.2.2.2.2.2.2
  exact va_gets C9.1 C9.2.1 hO.2.2.2.2.2.1 hS (ho ▸ C9.2.2.2.1) (C9.2.2.2.2.1 _ hx) (fun _ h => h) hd (kk p e R s m args below meth c C9 H locs cells slots Q la hH hS hl h1 h2 hk9)
end OLD
-- CALLS
theorem ob_inst : Cond.instanceMethod Lib.objectInit ∈ WALL := w_in 94 (by decide +kernel) (by decide +kernel)
theorem ob_code : Cond.code Lib.objectInit ⟨#[0xb1]⟩ 1 none ∈ WALL := w_in 95 (by decide +kernel) (by decide +kernel)
theorem run_k {G : gE} {p : Program} {l : Launch} {e : Env} {R : Room} {s : State} {m : MethodId} {args : Array Value} {below : List Frame} {meth : Method} {c : Code} {H : Heap} {locs : List Loc} {cells slots mc ms pc : Nat} {ls : Array Slot} {st0 rest : List Value} {post : Option Value → aW → Nat → Prop} {a : Array Value} {Q : State → Prop}
    (hr : va_Run p l e R s m args below meth c H locs cells slots mc ms (F0 m pc ls st0) rest (MtQ G post a) (Af G)) (hS : va_S (Af G) s.heap H locs)
    (kk : ∀ (r : Option Value) (w' : aW) (n' : Nat) (H1 : Heap) (locs1 : List Loc), post r w' n' → HR G w' n' H1 → va_S (Af G) s.heap H1 locs1 → W p l e R s m args below meth c H1 locs1 (cells + mc) (slots + ms) Q (F0 m (pc + 3) ls ((r.map (cv G)).toList ++ rest))) : W p l e R s m args below meth c H locs cells slots Q (F0 m pc ls st0) := by
  intro T hT X
  obtain ⟨v, st₀, t, T', L, h0, X', hL, e1, e2, ⟨⟨r, w', n', hv, hp, hH⟩, hz, hk⟩, st⟩ := hr T hT X
  cases hv
  rw [h0] at hz hk
  obtain ⟨t2, a1, b1⟩ := kk r w' n' T'.heap (locs ++ L) hp (by rw [e1]; exact hH)
    ⟨Nat.le_trans hS.1 (by rw [e1]; exact hz), fun q h1 h2 => by rw [e1, hk q (Nat.lt_of_lt_of_le h1 hS.1) h2]; exact hS.2.1 q h1 h2, fun q hq => by
      rcases List.mem_append.mp hq with h | h
      · exact hS.2.2 q h
      · exact hL q h⟩ T' rfl X'
  exact ⟨t2, st t2 a1, b1⟩
theorem good_S {own : String} {idx z na : Nat} (hz : okM z na) (hs : okS z) (hl : Cond.methodLink own idx (mn z) ∈ WALL) : GoodIn WALL (va_wsS own idx (mn z) (ws z)) := by
  intro w hw
  unfold va_wsS at hw
  rcases List.mem_append.mp hw with h | h
  · simp only [List.mem_cons, List.not_mem_nil, or_false] at h
    rcases h with rfl | rfl | rfl
    · exact wall_good1 hl
    · exact wall_good1 hs
    · exact wall_good1 hz.2.1
  · exact wall_z hz w h
theorem good_V {own : String} {idx z na : Nat} (hz : okM z na) (hv : okV z) (hl : Cond.methodLink own idx (mn z) ∈ WALL) : GoodIn WALL (wsV own idx (mn z).cls (mn z) (ws z)) := by
  intro w hw
  unfold wsV at hw
  rcases List.mem_append.mp hw with h | h
  · simp only [List.mem_cons, List.not_mem_nil, or_false] at h
    rcases h with rfl | rfl | rfl | rfl
    · exact wall_good1 hl
    · exact wall_good1 hv.1
    · exact wall_good1 hv.2
    · exact wall_good1 hz.2.1
  · exact wall_z hz w h
/-- the receiver -/
def Rcv (w : aW) (n : Nat) (C : String) (b : Nat) : Prop := (b < n ∧ ∃ (ci : Nat) (fs : List Value) (q : vw_C), w b = .inr (ci, fs) ∧ classes[ci]? = some q ∧ q.1 = C) ∨ (C = "java/lang/String" ∧ ∃ j : Nat, j < 9 ∧ b = gB + j)
theorem rcv_ob {w : aW} {n b ci N : Nat} {C : String} {T : u_T} {fs : List Value} (hw : w b = .inr (ci, fs)) (hc : classes[ci]? = some (C, T, N)) (hb : b < n) : Rcv w n C b := Or.inl ⟨hb, ci, fs, _, hw, hc, rfl⟩
theorem rcv_str {w : aW} {n j : Nat} (hj : j < 9) : Rcv w n "java/lang/String" (gB + j) := Or.inr ⟨rfl, j, hj, rfl⟩
section CALLS
variable {G : gE} {d y pc : Nat} {ls : List (Option Value)} {st : List Value} {w : aW} {n bc bs : Nat} {post : Option Value → aW → Nat → Prop}
theorem pre_U {s : State} {H : Heap} {locs : List Loc} {As : List Value} (hK : Kst G s) (hO : Old G s) (hS : va_S (Af G) s.heap H locs) (hH : HR G w n H) : ∀ U : State, U.heap = H → s.WarmedH U.vm → MtP G w n As (As.map (cv G)).toArray U := fun U hU hW => ⟨rfl, hK.warm hW, hO.warm hW (fun a h1 h2 => by rw [hU]; exact hS.2.1 a h1 h2) (by rw [hU]; exact hS.1), by rw [hU]; exact hH⟩
theorem args_rev {As rest : List Value} : (As.reverse ++ rest).map (cv G) = (As.map (cv G)).reverse ++ rest.map (cv G) := by rw [List.map_append, List.map_reverse]
set_option maxHeartbeats 1000000 in
theorem r_static {own : String} {z na idx d' cc cs : Nat} {As rest : List Value} {post' : Option Value → aW → Nat → Prop} (ho : (mn y).cls = own) (hz : okM z na) (hs : okS z) (hx : Cond.methodLink own idx (mn z) ∈ WALL) (hd : decode (mb y) pc = .ok (.invokestatic idx, 3)) (hM : Mt G d' z As w n cc cs post') (hst : st = As.reverse ++ rest) (hn : As.length = na) (hdd : d' + 1 ≤ d) (hW : (rest.map fun v => v.category).sum ≤ 8) (hcc : cc ≤ bc) (hcs : cs ≤ bs)
    (kk : ∀ (r : Option Value) (w' : aW) (n' : Nat), post' r w' n' → Go G d y (pc + 3) ls (r.toList ++ rest) w' n' (bc - cc) (bs - cs) post) : Go G d y pc ls st w n bc bs post := by
  intro p e R s m args below meth c C9 H locs cells slots Q la hH hS hl h1 h2 hk9
  subst hst
  have hml := ml_le z
  obtain ⟨hx9, hb9, hm9, hc9, hw9, hi9, hf9, hl9, hK9, hO9⟩ := id C9
  rw [args_rev]
  refine run_k (mc := cc) (ms := cs) (va_runS (Ts := WALL) (own := own) ⟨hx9, hb9, hm9, ho ▸ hc9, hw9⟩ hM (va_cwS (ws' := WALL) na hw9 (good_S hz hs hx) rfl rfl rfl hz.2.2.1 ⟨by show d' + 1 ≤ R.frames; omega, by show 8 + (ml z + 11) + 64 * d' ≤ R.locals; omega⟩) ⟨mt_blind, pre_U hK9 hO9 hS hH⟩ rfl (by rw [List.length_map]; exact hn) hl.1 rfl (lv_room (by rw [cat_map]; exact hW)) hd ⟨by omega, by omega⟩) hS ?_
  intro r w' n' H1 locs1 hp hH1 hS1
  have k9 := kk r w' n' hp p e R s m args below meth c C9 H1 locs1 (cells + cc) (slots + cs) Q la hH1 hS1 hl (by omega) (by omega) hk9
  cases r <;> exact k9
set_option maxHeartbeats 1000000 in
theorem r_staticN {own host : String} {z na idx d' cc cs : Nat} {As rest : List Value} {post' : Option Value → aW → Nat → Prop} (ho : (mn y).cls = own) (hz : okM z na) (hs : okS z) (hx : Cond.methodLinkNest own idx (mn z) host ∈ NST) (hd : decode (mb y) pc = .ok (.invokestatic idx, 3)) (hM : Mt G d' z As w n cc cs post') (hst : st = As.reverse ++ rest) (hn : As.length = na) (hdd : d' + 1 ≤ d) (hW : (rest.map fun v => v.category).sum ≤ 8) (hcc : cc ≤ bc) (hcs : cs ≤ bs)
    (kk : ∀ (r : Option Value) (w' : aW) (n' : Nat), post' r w' n' → Go G d y (pc + 3) ls (r.toList ++ rest) w' n' (bc - cc) (bs - cs) post) : Go G d y pc ls st w n bc bs post := by
  intro p e R s m args below meth c C9 H locs cells slots Q la hH hS hl h1 h2 hk9
  subst hst
  have hml := ml_le z
  obtain ⟨hx9, hb9, hm9, hc9, hw9, hi9, hf9, hl9, hK9, hO9⟩ := id C9
  rw [args_rev]
  refine run_k (mc := cc) (ms := cs) (va_runSN (Ts := WALL) (own := own) (host := host) ⟨hx9, hb9, hm9, ho ▸ hc9, hw9⟩ hM ⟨va_cnB (ws' := WALL) na hw9 (wall_z hz) rfl rfl rfl (hK9.2.1 _ hx) (hw9 _ hz.2.1) hz.2.2.1 ⟨by show d' + 1 ≤ R.frames; omega, by show 8 + (ml z + 11) + 64 * d' ≤ R.locals; omega⟩, hw9 _ hs, trivial⟩ ⟨mt_blind, pre_U hK9 hO9 hS hH⟩ rfl (by rw [List.length_map]; exact hn) hl.1 rfl (lv_room (by rw [cat_map]; exact hW)) hd ⟨by omega, by omega⟩) hS ?_
  intro r w' n' H1 locs1 hp hH1 hS1
  have k9 := kk r w' n' hp p e R s m args below meth c C9 H1 locs1 (cells + cc) (slots + cs) Q la hH1 hS1 hl (by omega) (by omega) hk9
  cases r <;> exact k9
set_option maxHeartbeats 1000000 in
theorem r_virtual {own C : String} {z na idx d' cc cs b : Nat} {As rest : List Value} {post' : Option Value → aW → Nat → Prop} (ho : (mn y).cls = own) (hz : okM z na) (hv : okV z) (hx : Cond.methodLink own idx (mn z) ∈ WALL) (hd : decode (mb y) pc = .ok (.invokevirtual idx, 3)) (hC : (mn z).cls = C) (hM : Mt G d' z (.ref b :: As) w n cc cs post') (hst : st = As.reverse ++ .ref b :: rest) (hrc : Rcv w n C b) (hn : As.length = na) (hdd : d' + 1 ≤ d) (hW : (rest.map fun v => v.category).sum ≤ 8) (hcc : cc ≤ bc) (hcs : cs ≤ bs)
    (kk : ∀ (r : Option Value) (w' : aW) (n' : Nat), post' r w' n' → Go G d y (pc + 3) ls (r.toList ++ rest) w' n' (bc - cc) (bs - cs) post) : Go G d y pc ls st w n bc bs post := by
  intro p e R s m args below meth c C9 H locs cells slots Q la hH hS hl h1 h2 hk9
  subst hst
  have hml := ml_le z
  obtain ⟨hx9, hb9, hm9, hc9, hw9, hi9, hf9, hl9, hK9, hO9⟩ := id C9
  rw [args_rev]
  have hcell : ∃ cellB : Cell, H[gad G b]? = some cellB ∧ cellB.vm.isStatics = false ∧ s.vm.findClass (mn z).cls = some cellB.cls := by
    rw [hC]
    rcases hrc with ⟨hb, ci, fs, q, e1, e2, rfl⟩ | ⟨rfl, j, hj, rfl⟩
    · exact va_recv (q0 := 0) (ci := ci) (q := q) hK9.1 (va_P1 (hH.at hb e1)) e2 rfl
    · rw [gad_old]
      exact vk_recv hO9.1 hj hS
  refine run_k (mc := cc) (ms := cs) (va_runV (Ts := WALL) (own := own) (C := (mn z).cls) (As := As.map (cv G)) ⟨hx9, hb9, hm9, ho ▸ hc9, hw9⟩ hM (cwV (ws' := WALL) na hw9 (good_V hz hv hx) rfl rfl rfl ⟨rfl, hz.2.2.1.1, hz.2.2.1.2⟩ ⟨by show d' + 1 ≤ R.frames; omega, by show 8 + (ml z + 11) + 64 * d' ≤ R.locals; omega⟩) ⟨mt_blind, hcell, pre_U (As := .ref b :: As) hK9 hO9 hS hH⟩ rfl (by rw [List.length_map]; exact hn) hl.1 rfl (lv_room (by rw [cat_map]; exact hW)) hd ⟨by omega, by omega⟩) hS ?_
  intro r w' n' H1 locs1 hp hH1 hS1
  have k9 := kk r w' n' hp p e R s m args below meth c C9 H1 locs1 (cells + cc) (slots + cs) Q la hH1 hS1 hl (by omega) (by omega) hk9
  cases r <;> exact k9
set_option maxHeartbeats 1000000 in
theorem r_special {own : String} {z na idx d' cc cs b : Nat} {As rest : List Value} {post' : Option Value → aW → Nat → Prop} (ho : (mn y).cls = own) (hz : okM z na) (hi : okI z) (hx : Cond.methodLink own idx (mn z) ∈ WALL) (hd : decode (mb y) pc = .ok (.invokespecial idx, 3)) (hM : Mt G d' z (.ref b :: As) w n cc cs post') (hst : st = As.reverse ++ .ref b :: rest) (hn : As.length = na) (hdd : d' + 1 ≤ d) (hW : (rest.map fun v => v.category).sum ≤ 8) (hcc : cc ≤ bc) (hcs : cs ≤ bs)
    (kk : ∀ (r : Option Value) (w' : aW) (n' : Nat), post' r w' n' → Go G d y (pc + 3) ls (r.toList ++ rest) w' n' (bc - cc) (bs - cs) post) : Go G d y pc ls st w n bc bs post := by
  intro p e R s m args below meth c C9 H locs cells slots Q la hH hS hl h1 h2 hk9
  subst hst
  have hml := ml_le z
  obtain ⟨hx9, hb9, hm9, hc9, hw9, hi9, hf9, hl9, hK9, hO9⟩ := id C9
  have hws : ws z = .code (mn z) (mb z) (ml z) none :: WALL := by show Cond.code _ _ _ (mr z) :: WALL = _; rw [hi.2.2]
  rw [args_rev]
  refine run_k (mc := cc) (ms := cs) (va_runI (Ts := WALL) (own := own) (As := As.map (cv G)) ⟨hx9, hb9, hm9, ho ▸ hc9, hw9⟩ hM (cwI (ws' := WALL) na hw9 (wall_z hz) hws rfl rfl (hw9 _ hz.2.1) (hw9 _ hx) (hw9 _ hi.1) hi.2.1 hz.2.2.1 ⟨by show d' + 1 ≤ R.frames; omega, by show 8 + (ml z + 11) + 64 * d' ≤ R.locals; omega⟩) ⟨mt_blind, pre_U (As := .ref b :: As) hK9 hO9 hS hH⟩ rfl (by rw [List.length_map]; exact hn) hl.1 rfl (lv_room (by rw [cat_map]; exact hW)) hd ⟨by omega, by omega⟩) hS ?_
  intro r w' n' H1 locs1 hp hH1 hS1
  have k9 := kk r w' n' hp p e R s m args below meth c C9 H1 locs1 (cells + cc) (slots + cs) Q la hH1 hS1 hl (by omega) (by omega) hk9
  cases r <;> exact k9
set_option maxHeartbeats 1000000 in
theorem r_specialN {own host : String} {z na idx d' cc cs b : Nat} {As rest : List Value} {post' : Option Value → aW → Nat → Prop} (ho : (mn y).cls = own) (hz : okM z na) (hi : okI z) (hx : Cond.methodLinkNest own idx (mn z) host ∈ NST) (hd : decode (mb y) pc = .ok (.invokespecial idx, 3)) (hM : Mt G d' z (.ref b :: As) w n cc cs post') (hst : st = As.reverse ++ .ref b :: rest) (hn : As.length = na) (hdd : d' + 1 ≤ d) (hW : (rest.map fun v => v.category).sum ≤ 8) (hcc : cc ≤ bc) (hcs : cs ≤ bs)
    (kk : ∀ (r : Option Value) (w' : aW) (n' : Nat), post' r w' n' → Go G d y (pc + 3) ls (r.toList ++ rest) w' n' (bc - cc) (bs - cs) post) : Go G d y pc ls st w n bc bs post := by
  intro p e R s m args below meth c C9 H locs cells slots Q la hH hS hl h1 h2 hk9
  subst hst
  have hml := ml_le z
  obtain ⟨hx9, hb9, hm9, hc9, hw9, hi9, hf9, hl9, hK9, hO9⟩ := id C9
  have hws : ws z = .code (mn z) (mb z) (ml z) none :: WALL := by show Cond.code _ _ _ (mr z) :: WALL = _; rw [hi.2.2]
  rw [args_rev]
  refine run_k (mc := cc) (ms := cs) (va_runIN (Ts := WALL) (own := own) (host := host) (As := As.map (cv G)) ⟨hx9, hb9, hm9, ho ▸ hc9, hw9⟩ hM ⟨va_cnB (ws' := WALL) na hw9 (wall_z hz) hws rfl rfl (hK9.2.1 _ hx) (hw9 _ hz.2.1) hz.2.2.1 ⟨by show d' + 1 ≤ R.frames; omega, by show 8 + (ml z + 11) + 64 * d' ≤ R.locals; omega⟩, hi.2.1, hw9 _ hi.1⟩ ⟨mt_blind, pre_U (As := .ref b :: As) hK9 hO9 hS hH⟩ rfl (by rw [List.length_map]; exact hn) hl.1 rfl (lv_room (by rw [cat_map]; exact hW)) hd ⟨by omega, by omega⟩) hS ?_
  intro r w' n' H1 locs1 hp hH1 hS1
  have k9 := kk r w' n' hp p e R s m args below meth c C9 H1 locs1 (cells + cc) (slots + cs) Q la hH1 hS1 hl (by omega) (by omega) hk9
  cases r <;> exact k9
theorem r_objInit {own : String} {idx b : Nat} {rest : List Value} (ho : (mn y).cls = own) (hx : Cond.methodLink own idx (mn 1) ∈ WALL) (hd : decode (mb y) pc = .ok (.invokespecial idx, 3)) (hdd : 1 ≤ d) (hW : (rest.map fun v => v.category).sum ≤ 8) (kk : Go G d y (pc + 3) ls rest w n bc bs post) : Go G d y pc ls (.ref b :: rest) w n bc bs post := by
  intro p e R s m args below meth c C9 H locs cells slots Q la hH hS hl h1 h2 hk9
  obtain ⟨hx9, hb9, hm9, hc9, hw9, hi9, hf9, hl9, hK9, hO9⟩ := id C9
  exact W.objInit hx9 hb9 (ho ▸ hc9) (hw9 _ hx) (hw9 _ ob_inst) (hw9 _ ob_code) (g := F0 m pc la (.ref (gad G b) :: rest.map (cv G))) rfl (hl.1.trans hm9.symm) rfl hd (by omega) (by show 2 * 0 + _ + 12 ≤ _; rw [cat_map]; omega) (kk p e R s m args below meth c C9 H locs cells slots Q la hH hS hl h1 h2 hk9)
end CALLS
