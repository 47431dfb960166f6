-- CONTRACTS WITH ONE OUTCOME, and what their proofs use
def psh (r : Option Value) (rest : List Value) : List Value := match r with
  | none => rest
  | some v => v :: rest
theorem psh_eq (r : Option Value) (rest : List Value) : r.toList ++ rest = psh r rest := by cases r <;> rfl
def Fn (G : gE) (d z : Nat) (args : List Value) (w : aW) (n : Nat) (r : Option Value) (w' : aW) : Prop := Mt G d z args w n 0 0 (fun r1 w1 n1 => r1 = r ∧ w1 = w' ∧ n1 = n)
theorem Fn.of {G : gE} {d z na nL : Nat} {args : List Value} {w w' : aW} {n : Nat} {r : Option Value} {ls : List (Option Value)} (hz : okM z na) (hm : ml z = nL) (hfit : Nat.ble (ent args).length nL = true) (hls : ent args ++ List.replicate (nL - (ent args).length) none = ls)
    (h : Go G d z 0 ls [] w n 0 0 (fun r1 w1 n1 => r1 = r ∧ w1 = w' ∧ n1 = n)) : Fn G d z args w n r w' := Mt.of hz hm (Nat.le_of_ble_eq_true hfit) hls h
def bI (b : Bool) : Int32 := if b then 1 else 0
theorem nar_bI (b : Bool) : narrow .boolean (.int (bI b)) = .int (bI b) := by cases b <;> rfl
theorem bI_eq0 {b : Bool} : bI b = 0 ↔ b = false := by cases b <;> decide
theorem bI_ne0 {b : Bool} : ¬ bI b = 0 ↔ b = true := by cases b <;> decide
theorem bI_eq1 {b : Bool} : bI b = 1 ↔ b = true := by cases b <;> decide
theorem vp_of {i : Int32} {N : Nat} (h1 : ¬ i < 0) (h2 : ¬ Int32.ofNat N ≤ i) (hN : N < 2 ^ 31) : vp_in i N := by
  obtain ⟨j, hj, rfl⟩ := nI_of h1
  intro h
  rcases h with h | h
  · exact h1 h
  · rw [nI_clamp hj] at h
    exact h2 ((nI_leI hN hj).mpr h)
def atI (f : Nat → Int32) (len : Nat) (i : Int32) : Int32 := if ¬ i < 0 ∧ ¬ Int32.ofNat len ≤ i then f i.toNatClampNeg else 0
theorem nI_nge {a b : Nat} (h : a < b) (hb : b < 2 ^ 31) : ¬ Int32.ofNat b ≤ nI a := nI_ge h hb
theorem atI_in {f : Nat → Int32} {len k : Nat} (h : k < len) (hl : len < 2 ^ 31) : atI f len (nI k) = f k := by
  unfold atI
  rw [if_pos ⟨nI_pos (by omega), nI_ge h hl⟩, nI_clamp (by omega)]
def puI (w : aW) (a len : Nat) (f : Nat → Int32) (i v : Int32) : aW := if ¬ i < 0 ∧ ¬ Int32.ofNat len ≤ i then upw w a (.inl (0, (len, .inl (upd f i.toNatClampNeg v)))) else w
theorem puI_in {w : aW} {a len k : Nat} {f : Nat → Int32} {v : Int32} (h : k < len) (hl : len < 2 ^ 31) : puI w a len f (nI k) v = upw w a (.inl (0, (len, .inl (upd f k v)))) := by
  unfold puI
  rw [if_pos ⟨nI_pos (by omega), nI_ge h hl⟩, nI_clamp (by omega)]
-- worlds that are the same on the range of their arrays
theorem arrV_cong {c : ClassId} {N : Nat} {f g : Nat → Value} (h : ∀ i, i < N → f i = g i) : arrV c N f = arrV c N g := by
  unfold arrV
  have e : (Array.ofFn (n := N) fun j => f j.val) = Array.ofFn (n := N) fun j => g j.val := congrArg Array.ofFn (funext fun j => h j.val j.isLt)
  rw [e]
def cEq (c c' : aC) : Prop := c = c' ∨ (∃ (t len : Nat) (f g : Nat → Int32), c = .inl (t, (len, .inl f)) ∧ c' = .inl (t, (len, .inl g)) ∧ ∀ i, i < len → f i = g i) ∨ (∃ (t len : Nat) (f g : Nat → Int64), c = .inl (t, (len, .inr (.inl f))) ∧ c' = .inl (t, (len, .inr (.inl g))) ∧ ∀ i, i < len → f i = g i)
theorem cEq.ce {G : gE} {c c' : aC} (h : cEq c c') {a : Nat} {H : Heap} (hv : va_at (gD G) classes (a, ce G c) H) : va_at (gD G) classes (a, ce G c') H := by
  rcases h with rfl | ⟨t, len, f, g, rfl, rfl, h⟩ | ⟨t, len, f, g, rfl, rfl, h⟩
  · exact hv
  · have hv : H[a]? = some (arrV (gtc G t) len (fun j => .int (f j))) := hv
    show H[a]? = some (arrV (gtc G t) len (fun j => .int (g j)))
    rw [hv]
    exact congrArg some (arrV_cong fun i hi => by rw [h i hi])
  · have hv : H[a]? = some (arrV (gtc G t) len (fun j => .long (f j))) := hv
    show H[a]? = some (arrV (gtc G t) len (fun j => .long (g j)))
    rw [hv]
    exact congrArg some (arrV_cong fun i hi => by rw [h i hi])
theorem HR.cong {G : gE} {w w' : aW} {n : Nat} {H : Heap} (h : HR G w n H) (hw : ∀ k, k < n → cEq (w k) (w' k)) : HR G w' n H := ⟨h.1, h.2.1, fun k hk => (hw k hk).ce (h.2.2 k hk)⟩
section BASE
variable {G : gE} {d y pc : Nat} {ls : List (Option Value)} {st : List Value} {w : aW} {n bc bs : Nat} {post : Option Value → aW → Nat → Prop}
theorem r_norm {w' : aW} (hw : ∀ k, k < n → cEq (w k) (w' k)) (k : Go G d y pc ls st w' n bc bs post) : Go G d y pc ls st w n bc bs post := by
  intro p e R s m args below meth c C H locs cells slots Q la hH hS hl h1 h2 hk
  exact k p e R s m args below meth c C H locs cells slots Q la (hH.cong hw) hS hl h1 h2 hk
theorem m_static {own : String} {z na idx d' cc cs : Nat} {As rest : List Value} {post' : Option Value → aW → Nat → Prop} (ho : (mn y).cls = own) (hz : okM z na) (hs : okS z) (hx : Cond.methodLink own idx (mn z) ∈ WALL) (hd : decode (mb y) pc = .ok (.invokestatic idx, 3)) (hM : Mt G d' z As w n cc cs post') (hst : st = As.reverse ++ rest) (hn : As.length = na) (hdd : d' + 1 ≤ d) (hW : (rest.map fun v => v.category).sum ≤ 8) (hcc : cc ≤ bc) (hcs : cs ≤ bs) (kk : ∀ (r : Option Value) (w' : aW) (n' : Nat), post' r w' n' → Go G d y (pc + 3) ls (psh r rest) w' n' (bc - cc) (bs - cs) post) : Go G d y pc ls st w n bc bs post := r_static ho hz hs hx hd hM hst hn hdd hW hcc hcs (fun r w' n' hp => by rw [psh_eq]; exact kk r w' n' hp)
theorem m_staticN {own host : String} {z na idx d' cc cs : Nat} {As rest : List Value} {post' : Option Value → aW → Nat → Prop} (ho : (mn y).cls = own) (hz : okM z na) (hs : okS z) (hx : Cond.methodLinkNest own idx (mn z) host ∈ NST) (hd : decode (mb y) pc = .ok (.invokestatic idx, 3)) (hM : Mt G d' z As w n cc cs post') (hst : st = As.reverse ++ rest) (hn : As.length = na) (hdd : d' + 1 ≤ d) (hW : (rest.map fun v => v.category).sum ≤ 8) (hcc : cc ≤ bc) (hcs : cs ≤ bs) (kk : ∀ (r : Option Value) (w' : aW) (n' : Nat), post' r w' n' → Go G d y (pc + 3) ls (psh r rest) w' n' (bc - cc) (bs - cs) post) : Go G d y pc ls st w n bc bs post := r_staticN ho hz hs hx hd hM hst hn hdd hW hcc hcs (fun r w' n' hp => by rw [psh_eq]; exact kk r w' n' hp)
theorem m_virtual {own C : String} {z na idx d' cc cs b : Nat} {As rest : List Value} {post' : Option Value → aW → Nat → Prop} (ho : (mn y).cls = own) (hz : okM z na) (hv : okV z) (hx : Cond.methodLink own idx (mn z) ∈ WALL) (hd : decode (mb y) pc = .ok (.invokevirtual idx, 3)) (hC : (mn z).cls = C) (hM : Mt G d' z (.ref b :: As) w n cc cs post') (hst : st = As.reverse ++ .ref b :: rest) (hrc : Rcv w n C b) (hn : As.length = na) (hdd : d' + 1 ≤ d) (hW : (rest.map fun v => v.category).sum ≤ 8) (hcc : cc ≤ bc) (hcs : cs ≤ bs) (kk : ∀ (r : Option Value) (w' : aW) (n' : Nat), post' r w' n' → Go G d y (pc + 3) ls (psh r rest) w' n' (bc - cc) (bs - cs) post) : Go G d y pc ls st w n bc bs post := r_virtual ho hz hv hx hd hC hM hst hrc hn hdd hW hcc hcs (fun r w' n' hp => by rw [psh_eq]; exact kk r w' n' hp)
theorem m_special {own : String} {z na idx d' cc cs b : Nat} {As rest : List Value} {post' : Option Value → aW → Nat → Prop} (ho : (mn y).cls = own) (hz : okM z na) (hi : okI z) (hx : Cond.methodLink own idx (mn z) ∈ WALL) (hd : decode (mb y) pc = .ok (.invokespecial idx, 3)) (hM : Mt G d' z (.ref b :: As) w n cc cs post') (hst : st = As.reverse ++ .ref b :: rest) (hn : As.length = na) (hdd : d' + 1 ≤ d) (hW : (rest.map fun v => v.category).sum ≤ 8) (hcc : cc ≤ bc) (hcs : cs ≤ bs) (kk : ∀ (r : Option Value) (w' : aW) (n' : Nat), post' r w' n' → Go G d y (pc + 3) ls (psh r rest) w' n' (bc - cc) (bs - cs) post) : Go G d y pc ls st w n bc bs post := r_special ho hz hi hx hd hM hst hn hdd hW hcc hcs (fun r w' n' hp => by rw [psh_eq]; exact kk r w' n' hp)
theorem m_specialN {own host : String} {z na idx d' cc cs b : Nat} {As rest : List Value} {post' : Option Value → aW → Nat → Prop} (ho : (mn y).cls = own) (hz : okM z na) (hi : okI z) (hx : Cond.methodLinkNest own idx (mn z) host ∈ NST) (hd : decode (mb y) pc = .ok (.invokespecial idx, 3)) (hM : Mt G d' z (.ref b :: As) w n cc cs post') (hst : st = As.reverse ++ .ref b :: rest) (hn : As.length = na) (hdd : d' + 1 ≤ d) (hW : (rest.map fun v => v.category).sum ≤ 8) (hcc : cc ≤ bc) (hcs : cs ≤ bs) (kk : ∀ (r : Option Value) (w' : aW) (n' : Nat), post' r w' n' → Go G d y (pc + 3) ls (psh r rest) w' n' (bc - cc) (bs - cs) post) : Go G d y pc ls st w n bc bs post := r_specialN ho hz hi hx hd hM hst hn hdd hW hcc hcs (fun r w' n' hp => by rw [psh_eq]; exact kk r w' n' hp)
theorem f_static {own : String} {z na idx d' : Nat} {As rest : List Value} {r : Option Value} {w' : aW} (ho : (mn y).cls = own) (hz : okM z na) (hs : okS z) (hx : Cond.methodLink own idx (mn z) ∈ WALL) (hd : decode (mb y) pc = .ok (.invokestatic idx, 3)) (hM : Fn G d' z As w n r w') (hst : st = As.reverse ++ rest) (hn : As.length = na) (hdd : d' + 1 ≤ d) (hW : (rest.map fun v => v.category).sum ≤ 8) (kk : Go G d y (pc + 3) ls (psh r rest) w' n bc bs post) : Go G d y pc ls st w n bc bs post := m_static ho hz hs hx hd hM hst hn hdd hW (Nat.zero_le _) (Nat.zero_le _) (fun r1 w1 n1 hp => by obtain ⟨rfl, rfl, rfl⟩ := hp; exact kk)
theorem f_staticN {own host : String} {z na idx d' : Nat} {As rest : List Value} {r : Option Value} {w' : aW} (ho : (mn y).cls = own) (hz : okM z na) (hs : okS z) (hx : Cond.methodLinkNest own idx (mn z) host ∈ NST) (hd : decode (mb y) pc = .ok (.invokestatic idx, 3)) (hM : Fn G d' z As w n r w') (hst : st = As.reverse ++ rest) (hn : As.length = na) (hdd : d' + 1 ≤ d) (hW : (rest.map fun v => v.category).sum ≤ 8) (kk : Go G d y (pc + 3) ls (psh r rest) w' n bc bs post) : Go G d y pc ls st w n bc bs post := m_staticN ho hz hs hx hd hM hst hn hdd hW (Nat.zero_le _) (Nat.zero_le _) (fun r1 w1 n1 hp => by obtain ⟨rfl, rfl, rfl⟩ := hp; exact kk)
theorem f_virtual {own C : String} {z na idx d' b : Nat} {As rest : List Value} {r : Option Value} {w' : aW} (ho : (mn y).cls = own) (hz : okM z na) (hv : okV z) (hx : Cond.methodLink own idx (mn z) ∈ WALL) (hd : decode (mb y) pc = .ok (.invokevirtual idx, 3)) (hC : (mn z).cls = C) (hM : Fn G d' z (.ref b :: As) w n r w') (hst : st = As.reverse ++ .ref b :: rest) (hrc : Rcv w n C b) (hn : As.length = na) (hdd : d' + 1 ≤ d) (hW : (rest.map fun v => v.category).sum ≤ 8) (kk : Go G d y (pc + 3) ls (psh r rest) w' n bc bs post) : Go G d y pc ls st w n bc bs post := m_virtual ho hz hv hx hd hC hM hst hrc hn hdd hW (Nat.zero_le _) (Nat.zero_le _) (fun r1 w1 n1 hp => by obtain ⟨rfl, rfl, rfl⟩ := hp; exact kk)
theorem f_special {own : String} {z na idx d' b : Nat} {As rest : List Value} {r : Option Value} {w' : aW} (ho : (mn y).cls = own) (hz : okM z na) (hi : okI z) (hx : Cond.methodLink own idx (mn z) ∈ WALL) (hd : decode (mb y) pc = .ok (.invokespecial idx, 3)) (hM : Fn G d' z (.ref b :: As) w n r w') (hst : st = As.reverse ++ .ref b :: rest) (hn : As.length = na) (hdd : d' + 1 ≤ d) (hW : (rest.map fun v => v.category).sum ≤ 8) (kk : Go G d y (pc + 3) ls (psh r rest) w' n bc bs post) : Go G d y pc ls st w n bc bs post := m_special ho hz hi hx hd hM hst hn hdd hW (Nat.zero_le _) (Nat.zero_le _) (fun r1 w1 n1 hp => by obtain ⟨rfl, rfl, rfl⟩ := hp; exact kk)
end BASE
