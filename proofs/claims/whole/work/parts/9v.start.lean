theorem kn_of {args : Array Value} {s : State} {ci N : Nat} {C : String} {T : u_T} (hts : ∀ w ∈ lw_tbl, w.before args s = true) (hc : classes[ci]? = some (C, T, N)) : ∃ (cC : ClassId) (iS : Nat → Nat), u_Kn s C T N cC iS := by
  obtain ⟨h1, -, -, h2, -⟩ := cls_ok hc
  exact u_known hts (fun w hw => wall_tbl (h1 w hw)) (hts _ (wall_tbl h2))
theorem arr_of {args : Array Value} {s : State} {ty : FieldType} (h : (Cond.arrayClass ty).before args s = true) : ∃ cA, ArrOfT s cA ty ∧ s.vm.findClass ("[" ++ ty.toString) = some cA := by
  obtain ⟨c, k, comp, h1, h2, h3⟩ := Cond.arrayClass_spec h
  exact ⟨c, fun n z => ⟨(fun q hq => by cases hq), k, h2, comp, h3⟩, h1⟩
theorem arr_ofA {args : Array Value} {s : State} {ty : FieldType} (h : (Cond.arrayOver (.array ty)).before args s = true) : ∃ cA, ArrOfT s cA (.array ty) ∧ s.vm.findClass ("[" ++ (FieldType.array ty).toString) = some cA := by
  obtain ⟨comp, c, k, h1, h2, h3, h4⟩ := Cond.arrayOver_specA h
  exact ⟨c, fun n z => ⟨(fun q hq => by cases hq), k, h2, comp, h3⟩, h4⟩

def aoOf (adK adV : Nat → Nat) (tA b fa : Nat) (k : Nat) : Nat := if k < 9 then adK k else if k < 200 then adV (k - 100) else if k = 200 then tA else if k = 201 then b else fa
def w0 : aW := fun _ => .inl (0, (0, .inl (fun _ => 0)))
set_option maxHeartbeats 4000000 in
/-- THE START, out of the law's walk over the abstract world -/
theorem start_open {p : Program} {e : Env} {s : State} {m : MethodId} {below : List Frame} {meth : Method} {c : Code} (l : Launch) {b L : Nat} {xs : Nat → Int32} (hL : L ≤ 384) (C0 : lw_At p s m meth c b L xs) : W p l e room_1 s m #[Value.ref b] below meth c s.heap [] 0 0 (lw_Z below #[Value.ref b] s) (entryFrame m ([Value.ref b] : List Value).toArray 4) := by
  obtain ⟨hx, hb, hr, hml, hown, hts, hX, hbl, hlocks, hgv⟩ := id C0
  have hs : ∀ w ∈ FL, w.before #[Value.ref b] s = true := flat_of_before _ hgv
  have hW : ∀ w ∈ WALL, w.before #[Value.ref b] s = true := fun w hw => hts w (wall_tbl hw)
  have hA : ∀ a : Nat, a < s.heap.size → ¬ (fun q => s.heap.size ≤ q) a := fun a h => Nat.not_le.mpr h
  obtain ⟨c0, i0, k0⟩ := kn_of (ci := 0) hts rfl
  obtain ⟨c1, i1, k1⟩ := kn_of (ci := 1) hts rfl
  obtain ⟨c2, i2, k2⟩ := kn_of (ci := 2) hts rfl
  obtain ⟨c3, i3, k3⟩ := kn_of (ci := 3) hts rfl
  obtain ⟨c4, i4, k4⟩ := kn_of (ci := 4) hts rfl
  obtain ⟨c5, i5, k5⟩ := kn_of (ci := 5) hts rfl
  obtain ⟨c6, i6, k6⟩ := kn_of (ci := 6) hts rfl
  obtain ⟨a0, u0, f0⟩ := arr_of (hW _ ac_int)
  obtain ⟨a1, u1, f1⟩ := arr_of (hW _ ac_long)
  obtain ⟨a2, u2, f2⟩ := arr_of (hW _ ac_boolean)
  obtain ⟨a3, u3, f3⟩ := arr_ofA (hts _ tb_ls.2.2.2.1)
  obtain ⟨a4, u4, f4⟩ := arr_ofA (hts _ tb_ls.2.2.2.2)
  obtain ⟨adK, adV, hvS, hev⟩ := vk_Sof (N := 9) (tm := tmS) (len := strL) (byt := strB) (A := fun q => s.heap.size ≤ q) (by decide) (fun i hi => hs _ (fl_ex i hi)) (fun i hi => hs _ (fl_co i hi)) (fun i hi => hs _ (fl_ar i hi)) (fun i hi => hs _ (fl_le i hi)) (fun i hi j hj => hs _ (fl_el i hi j hj)) (fun i j hi hj n => (fl_ne i hi j hj n).elim (fun h => Or.inl (hs _ h)) (fun h => Or.inr (hs _ h))) hA
  obtain ⟨tA, hTe, hT⟩ := va_Tof (tm := tmA) (N := 7) (ty := .int) (f := fun j => .int (aboveL.getD j 0)) (A := fun q => s.heap.size ≤ q) (by decide) (hs _ fl_ab.1) (va_eqt (hs _ fl_ab.2.1)) (fun j hj => va_eqt (hs _ (fl_ab.2.2.1 j hj))) hA
  obtain ⟨fv, hfe, hfr⟩ := Cond.isRef_spec (hs _ fl_ab.2.2.2.2)
  obtain ⟨fm, fa, hfc, hfm⟩ : ∃ (fm : Value) (fa : Nat), fm.category = 1 ∧ ∀ G : gE, gao G 202 = fa → cv G fm = fv := by
    cases fv with
    | ref a => exact ⟨.ref (gB + 202), a, rfl, fun G h => by rw [cv_old, h]⟩
    | null => exact ⟨.null, 0, rfl, fun G _ => rfl⟩
    | _ => cases hfr
  obtain ⟨G, hG⟩ : ∃ G : gE, G = (l, s.heap.size, ((fun k => [c0, c1, c2, c3, c4, c5, c6].getD k c0), (fun k => [i0, i1, i2, i3, i4, i5, i6].getD k i0)), (fun k => [a0, a1, a2, a3, a4].getD k a0), aoOf adK adV tA b fa, fm, L, xs) := ⟨_, rfl⟩
  have hKst : Kst G s := by
    subst hG
    refine ⟨⟨?_, ?_⟩, ?_, hts _ tb_ls.2.2.2.1, hts _ tb_ls.2.2.2.2⟩
    · intro k q hq
      match k, hq with
      | 0, hq => cases hq; exact k0
      | 1, hq => cases hq; exact k1
      | 2, hq => cases hq; exact k2
      | 3, hq => cases hq; exact k3
      | 4, hq => cases hq; exact k4
      | 5, hq => cases hq; exact k5
      | 6, hq => cases hq; exact k6
    · intro k q hq
      match k, hq with
      | 0, hq => cases hq; exact ⟨u0, f0⟩
      | 1, hq => cases hq; exact ⟨u1, f1⟩
      | 2, hq => cases hq; exact ⟨u2, f2⟩
      | 3, hq => cases hq; exact ⟨u3, f3⟩
      | 4, hq => cases hq; exact ⟨u4, f4⟩
    · intro w hw
      obtain ⟨h1, h2⟩ := List.mem_filter.mp hw
      refine va_Nw.of ?_ (hts w h1)
      cases w <;> first | rfl | cases h2
  have hgb : gb G = s.heap.size := by rw [hG]
  have hOld : Old G s := by
    subst hG
    refine ⟨⟨fun i hi => ?_, fun i j hi hj => ?_⟩, fun e9 he => ?_, va_Zref (hts _ tb_ls.1.1) (hts _ tb_ls.1.2) hTe hA, hT, va_Zof (hts _ tb_ls.2.1.1) (hts _ tb_ls.2.1.2) (va_eqi (hs _ fl_ab.2.2.2.1)) hA, ?_, hX, hbl, Nat.le_refl _⟩
    · have e1 : aoOf adK adV tA b fa i = adK i := if_pos hi
      have e2 : aoOf adK adV tA b fa (100 + i) = adV i := by
        unfold aoOf
        rw [if_neg (by omega), if_pos (by omega), Nat.add_sub_cancel_left]
      show va_O _ (aoOf adK adV tA b fa i) _ _ _ ∧ va_OF _ _ _ _ (aoOf adK adV tA b fa i) _ _ _ ∧ va_OF _ _ _ (.ref (aoOf adK adV tA b fa (100 + i))) (aoOf adK adV tA b fa i) _ _ _ ∧ va_T _ (aoOf adK adV tA b fa (100 + i)) _ _ _ _ _
      rw [e1, e2]
      exact hvS.1 i hi
    · have e1 : aoOf adK adV tA b fa i = adK i := if_pos hi
      have e2 : aoOf adK adV tA b fa j = adK j := if_pos hj
      show aoOf adK adV tA b fa i = aoOf adK adV tA b fa j → i = j
      rw [e1, e2]
      exact hvS.2 i j hi hj
    · obtain ⟨g1, g2, g3⟩ := fl_si e9 he
      have e1 : aoOf adK adV tA b fa e9.2.2.1 = adK e9.2.2.1 := if_pos g1
      show vk_R _ _ _ (aoOf adK adV tA b fa e9.2.2.1) s
      rw [e1]
      refine vk_R.of (A := #[Value.ref b]) (hts _ g2) ?_
      rcases g3 with ⟨g4, g5⟩ | g4 | g4
      · rw [g4, g5]; exact hev _ g1
      · exact va_eqR (hs _ g4) (hev _ g1)
      · obtain ⟨y9, h1, h2⟩ := Cond.eq_one (hs _ g4)
        exact h1.trans (h2.symm.trans (hev _ g1))
    · have h9 := va_Zof (hts _ tb_ls.2.2.1.1) (hts _ tb_ls.2.2.1.2) hfe hA
      rw [← hfm (l, s.heap.size, ((fun k => [c0, c1, c2, c3, c4, c5, c6].getD k c0), (fun k => [i0, i1, i2, i3, i4, i5, i6].getD k i0)), (fun k => [a0, a1, a2, a3, a4].getD k a0), aoOf adK adV tA b fa, fm, L, xs) rfl] at h9
      exact h9
  have hl := lv_entry ([.ref b]) (n := 4) (Nat.le_of_ble_eq_true rfl)
  rw [lg_entry_eq]
  generalize (lg_sl ([.ref b]) ++ List.replicate (4 - (lg_sl ([.ref b])).length) Slot.unset).toArray = la at hl ⊢
  have hlv : lvs G la (ml 299) [some (.ref (gB + 201)), none, none, none] := by
    refine ⟨hl.1, hl.2.1, fun q hq => ?_⟩
    obtain ⟨v, h1, h2⟩ := asc_mem.mp hq
    obtain ⟨i, z⟩ := q
    match i, h1 with
    | 0, h1 =>
      cases h1
      cases h2
      have e1 : gad G (gB + 201) = b := by rw [gad_old, hG]; rfl
      rw [e1]
      exact hl.2.2 (0, .ref b) List.mem_cons_self
    | 1, h1 => cases h1
    | 2, h1 => cases h1
    | 3, h1 => cases h1
    | i + 4, h1 => cases h1
  have eL : gL G = L := by rw [hG]
  have el : gl G = l := by rw [hG]
  have hgo := law_all (G := G) (w := w0) (by rw [hG]; exact hfc) (by rw [eL]; exact hL) p e room_1 s m #[Value.ref b] below meth c ⟨hx, hb, hml, hown, hW, fun h => absurd h (by decide +kernel), by decide, by decide, hKst, hOld⟩ s.heap [] 0 0 (lw_Z below #[Value.ref b] s) la ⟨hgb ▸ rfl, Nat.zero_le _, fun k hk => absurd hk (Nat.not_lt_zero _)⟩ va_S.rf hlv (by decide) (by decide) ?_
  · rw [el] at hgo
    exact hgo
  · intro r w' n' H' locs' cells' slots' la' pc' hp hH' hS' h1 h2 hR
    subst hp
    rw [el]
    refine va_forget (fun q hq => by have := hS'.2.2 q hq; rw [← hgb]; exact this) (W.widen h1 h2 ?_)
    exact lw_ret hx hb hr hlocks hR.1
