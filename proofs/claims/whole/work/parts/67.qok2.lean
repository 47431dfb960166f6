-- THE STATE STAYS GOOD
section QOK2
variable {Q : aQ}
theorem qok_of {Q' : aQ} (h : QOk Q) (h1 : TOk Q'.1) (h2 : TOk Q'.2.1) (h3 : HOk Q'.2.2.2.1) (h4 : Q'.2.2.2.2.2.1 = Q.2.2.2.2.2.1) : QOk Q' := ⟨h1, h2, h3, by rw [h4]; exact h.2.2.2⟩
theorem qok_g {g : Nat → Int32} (h : QOk Q) : QOk (Q.1, Q.2.1, Q.2.2.1, Q.2.2.2.1, Q.2.2.2.2.1, Q.2.2.2.2.2.1, g) := h
theorem rfq_ok {r : Int32} (h : QOk Q) : QOk (rfQ Q r) := qok_g (g := rfF Q.2.2.2.2.2.2 r) h
theorem ok_holds {s : Int32} (h : QOk Q) : QOk (m_holds Q s).2 := by
  unfold m_holds
  try unfold frst
  repeat' split
  all_goals first | with_reducible exact h | with_reducible exact rfq_ok h
theorem ok_says {s k : Int32} (h : QOk Q) : QOk (m_says Q s k).2 := by
  unfold m_says
  try unfold frst
  repeat' split
  all_goals first | with_reducible exact h | with_reducible exact rfq_ok h
theorem ok_bargainOf {b k : Int32} (h : QOk Q) : QOk (m_bargainOf Q b k).2 := by
  unfold m_bargainOf
  try unfold frst
  repeat' split
  all_goals first | with_reducible exact h | with_reducible exact rfq_ok h
theorem ok_lossOf {b i : Int32} (h : QOk Q) : QOk (m_lossOf Q b i).2 := by
  unfold m_lossOf
  try unfold frst
  repeat' split
  all_goals first | with_reducible exact h | with_reducible exact rfq_ok h
theorem ok_standing {i : Int32} (h : QOk Q) : QOk (m_standing Q i).2 := by
  unfold m_standing
  try unfold frst
  repeat' split
  all_goals first | with_reducible exact h | with_reducible exact rfq_ok h
theorem ok_good {b : Int32} (h : QOk Q) : QOk (m_good Q b).2 := by
  unfold m_good
  try unfold frst
  repeat' split
  all_goals first | with_reducible exact h | with_reducible exact rfq_ok h
theorem ok_value {b i : Int32} (h : QOk Q) : QOk (m_value Q b i).2 := by
  unfold m_value
  try unfold frst
  repeat' split
  all_goals first | with_reducible exact h | with_reducible exact rfq_ok h
theorem ok_name {s b x : Int32} (h : QOk Q) : QOk (m_name Q s b x).2 := by
  unfold m_name
  try unfold frst
  repeat' split
  all_goals first | with_reducible exact h | with_reducible exact rfq_ok h
theorem ok_judge {s : Int32} (h : QOk Q) : QOk (m_judge Q s).2 := by
  unfold m_judge
  try unfold frst
  repeat' split
  all_goals first | with_reducible exact h | with_reducible exact rfq_ok h
theorem ok_told {s q : Int32} (h : QOk Q) : QOk (m_told Q s q).2 := by
  unfold m_told
  try unfold frst
  repeat' split
  all_goals first | with_reducible exact h | with_reducible exact rfq_ok h
theorem ok_by {s q : Int32} (h : QOk Q) : QOk (m_by Q s q).2 := by
  unfold m_by
  try unfold frst
  repeat' split
  all_goals first | with_reducible exact h | with_reducible exact rfq_ok h
theorem ok_head (h : QOk Q) : QOk (m_head Q ).2 := by
  unfold m_head
  try unfold frst
  repeat' split
  all_goals first | with_reducible exact h | with_reducible exact rfq_ok h
theorem ok_best (h : QOk Q) : QOk (m_best Q ).2 := by
  unfold m_best
  try unfold frst
  repeat' split
  all_goals first | with_reducible exact h | with_reducible exact rfq_ok h
theorem ok_bestOf {b : Int32} (h : QOk Q) : QOk (m_bestOf Q b).2 := by
  unfold m_bestOf
  try unfold frst
  repeat' split
  all_goals first | with_reducible exact h | with_reducible exact rfq_ok h
theorem ok_worth {i : Int32} (h : QOk Q) : QOk (m_worth Q i).2 := by
  unfold m_worth
  try unfold frst
  repeat' split
  all_goals first | with_reducible exact h | with_reducible exact rfq_ok h
theorem ok_dearest (h : QOk Q) : QOk (m_dearest Q ).2 := by
  unfold m_dearest
  try unfold frst
  repeat' split
  all_goals first | with_reducible exact h | with_reducible exact rfq_ok h
theorem ok_gap {s : Int32} (h : QOk Q) : QOk (m_gap Q s).2 := by
  unfold m_gap
  try unfold frst
  repeat' split
  all_goals first | with_reducible exact h | with_reducible exact rfq_ok h
theorem ok_fewest (h : QOk Q) : QOk (m_fewest Q ).2 := by
  unfold m_fewest
  try unfold frst
  repeat' split
  all_goals first | with_reducible exact h | with_reducible exact rfq_ok h
theorem ok_richest (h : QOk Q) : QOk (m_richest Q ).2 := by
  unfold m_richest
  try unfold frst
  repeat' split
  all_goals first | with_reducible exact h | with_reducible exact rfq_ok h
theorem ok_alone {i : Int32} (h : QOk Q) : QOk (m_alone Q i).2 := by
  unfold m_alone
  try unfold frst
  repeat' split
  all_goals first | with_reducible exact h | with_reducible exact rfq_ok h
theorem ok_party {i : Int32} (h : QOk Q) : QOk (m_party Q i).2 := by
  unfold m_party
  try unfold frst
  repeat' split
  all_goals first | with_reducible exact h | with_reducible exact rfq_ok h
theorem ok_fair (h : QOk Q) : QOk (m_fair Q ).2 := by
  unfold m_fair
  try unfold frst
  repeat' split
  all_goals first | with_reducible exact h | with_reducible exact rfq_ok h
theorem ok_never (h : QOk Q) : QOk (m_never Q ).2 := by
  unfold m_never
  try unfold frst
  repeat' split
  all_goals first | with_reducible exact h | with_reducible exact rfq_ok h
theorem ok_free (h : QOk Q) : QOk (m_free Q ).2 := by
  unfold m_free
  try unfold frst
  repeat' split
  all_goals first | with_reducible exact h | with_reducible exact rfq_ok h
theorem ok_cross {b c k : Int32} (h : QOk Q) : QOk (m_cross Q b c k).2 := by
  unfold m_cross
  try unfold frst
  repeat' split
  all_goals first | with_reducible exact h | with_reducible exact rfq_ok h
theorem ok_rings (h : QOk Q) : QOk (m_rings Q ).2 := by
  unfold m_rings
  try unfold frst
  repeat' split
  all_goals first | with_reducible exact h | with_reducible exact rfq_ok h
theorem ok_harm {i : Int32} (h : QOk Q) : QOk (m_harm Q i).2 := by
  unfold m_harm
  try unfold frst
  repeat' split
  all_goals first | with_reducible exact h | with_reducible exact rfq_ok h
theorem ok_worst (h : QOk Q) : QOk (m_worst Q ).2 := by
  unfold m_worst
  try unfold frst
  repeat' split
  all_goals first | with_reducible exact h | with_reducible exact rfq_ok h
theorem ok_hated (h : QOk Q) : QOk (m_hated Q ).2 := by
  unfold m_hated
  try unfold frst
  repeat' split
  all_goals first | with_reducible exact h | with_reducible exact rfq_ok h
theorem ok_said {b i : Int32} (h : QOk Q) : QOk (m_said Q b i).2 := by
  unfold m_said
  try unfold frst
  repeat' split
  all_goals first | with_reducible exact h | with_reducible exact rfq_ok h
theorem ok_dares (h : QOk Q) : QOk (m_dares Q ).2 := by
  unfold m_dares
  try unfold frst
  repeat' split
  all_goals first | with_reducible exact h | with_reducible exact rfq_ok h
theorem ok_deters (h : QOk Q) : QOk (m_deters Q ).2 := by
  unfold m_deters
  try unfold frst
  repeat' split
  all_goals first | with_reducible exact h | with_reducible exact rfq_ok h
theorem ok_under {v : Int32} (h : QOk Q) : QOk (m_under Q v).2 := by
  unfold m_under
  try unfold frst
  repeat' split
  all_goals first | with_reducible exact h | with_reducible exact rfq_ok h
theorem ok_bestLaw (h : QOk Q) : QOk (m_bestLaw Q ).2 := by
  unfold m_bestLaw
  try unfold frst
  repeat' split
  all_goals first | with_reducible exact h | with_reducible exact rfq_ok h
theorem ok_hiding {b i : Int32} (h : QOk Q) : QOk (m_hiding Q b i).2 := by
  unfold m_hiding
  try unfold frst
  repeat' split
  all_goals first | with_reducible exact h | with_reducible exact rfq_ok h
theorem ok_named {i : Int32} (h : QOk Q) : QOk (m_named Q i).2 := by
  unfold m_named
  try unfold frst
  repeat' split
  all_goals first | with_reducible exact h | with_reducible exact rfq_ok h
theorem ok_status {k : Int32} (h : QOk Q) : QOk (m_status Q k).2 := by
  unfold m_status
  try unfold frst
  repeat' split
  all_goals first | with_reducible exact h | with_reducible exact rfq_ok h
theorem qt_ok {S : aS} (h : QOk Q) (hS : TOk S) : QOk (qT Q S) := qok_of h hS h.2.1 h.2.2.1 rfl
theorem qs_ok {X : aH} (h : QOk Q) (hX : HOk X) : QOk (qS Q X) := qok_of h h.1 h.2.1 hX rfl
theorem ok_row {s c m : Int32} (h : QOk Q) : QOk (m_row Q s c m).2 := by
  unfold m_row
  split
  · rename_i h1
    rw [Bool.and_eq_true, Bool.and_eq_true] at h1
    obtain ⟨c, hc, rfl⟩ := lt0_of (N := 5) (by decide) h1.1.2
    obtain ⟨m, hm, rfl⟩ := wi0_of (N := 40) (by decide) h1.2
    refine qs_ok h ?_
    rw [nI_clamp (by omega), nI_clamp (by omega)]
    exact ho_row h.2.2.1 hc hm
  · first | with_reducible exact h | with_reducible exact rfq_ok h
theorem ok_rule {s k a : Int32} (h : QOk Q) : QOk (m_rule Q s k a).2 := by
  unfold m_rule
  split
  · rename_i h1
    rw [Bool.and_eq_true, Bool.and_eq_true] at h1
    have h2 := of_decide_eq_true h1.1.2
    obtain ⟨kd, hk, rfl⟩ := nI_of (show ¬ k < 0 from fun q => h2.1 (Int32.lt_trans q (by decide)))
    have k1 : 1 ≤ kd := by
      rcases Nat.eq_zero_or_pos kd with e | e
      · subst e; exact absurd (by decide) h2.1
      · exact e
    have k6 : kd ≤ 6 := Nat.not_lt.mp (fun q => h2.2 (nI_lt (a := 6) q hk))
    exact qs_ok h (ho_rule h.2.2.1 k1 k6)
  · first | with_reducible exact h | with_reducible exact rfq_ok h
theorem ok_set {s i : Int32} {v : Int64} (h : QOk Q) : QOk (m_set Q s i v).2 := by
  unfold m_set
  split
  · exact qs_ok h (ho_E rfl rfl h.2.2.1)
  · first | with_reducible exact h | with_reducible exact rfq_ok h
theorem ok_copy {p q i j m : Int32} (h : QOk Q) : QOk (m_copy Q p q i j m).2 := by
  unfold m_copy
  split
  · obtain ⟨h1, h2, -⟩ := mvF_keep (X := Q.2.2.2.1) (p := p.toNatClampNeg) (q := q.toNatClampNeg) (i := i.toNatClampNeg) (j := j.toNatClampNeg) (m := m.toNatClampNeg) m.toNatClampNeg
    exact qs_ok h (ho_E h1 h2 h.2.2.1)
  · first | with_reducible exact h | with_reducible exact rfq_ok h
theorem ok_one (h : QOk Q) : QOk (m_one Q).2 := by
  unfold m_one
  split
  · rename_i hlt
    exact qt_ok h (to_one h.1 hlt)
  · first | with_reducible exact h | with_reducible exact rfq_ok h
theorem ok_bargain {p q g k : Int32} (h : QOk Q) : QOk (m_bargain Q p q g k).2 := by
  unfold m_bargain
  split
  · rename_i h1
    split
    · rename_i hlt
      simp only [Bool.and_eq_true] at h1
      obtain ⟨P, B, hP, hP7, hB, hB7, hI⟩ := id h.1
      rw [hP] at h1
      obtain ⟨p, hp, rfl⟩ := lt0_of (by omega) h1.1.1.1.1
      obtain ⟨q, hq, rfl⟩ := lt0_of (by omega) h1.1.1.1.2
      have h7 : B < 7 := by
        rcases Nat.lt_or_ge B 7 with r | r
        · exact r
        · exact absurd hlt (by rw [hB]; exact nI_nlt (b := 7) r (by omega))
      refine qt_ok h ?_
      rw [hB, nI_clamp (by omega)]
      exact to_deal hP hP7 hB hI h7 hp hq
    · first | with_reducible exact h | with_reducible exact rfq_ok h
  · first | with_reducible exact h | with_reducible exact rfq_ok h
theorem ok_hurts {b i v : Int32} (h : QOk Q) : QOk (m_hurts Q b i v).2 := by
  unfold m_hurts
  split
  · exact qt_ok h (to_loss h.1)
  · first | with_reducible exact h | with_reducible exact rfq_ok h
theorem ok_bars {b c v : Int32} (h : QOk Q) : QOk (m_bars Q b c v).2 := by
  unfold m_bars
  split
  · split
    · first | with_reducible exact h | with_reducible exact rfq_ok h
    · exact qt_ok h (to_bar h.1)
  · first | with_reducible exact h | with_reducible exact rfq_ok h
theorem ok_ask {k v : Int32} (h : QOk Q) : QOk (m_ask Q k v).2 := by
  unfold m_ask
  generalize (lt0 k 4 && wi0 v (if k = 0 then 1 else 0) (mostN k.toNatClampNeg)) = c
  split
  · exact qt_ok h (to_law h.1)
  · first | with_reducible exact h | with_reducible exact rfq_ok h
theorem ok_feed {v : Int32} (h : QOk Q) : QOk (m_feed Q v).2 := by
  unfold m_feed
  split
  · split
    · first | with_reducible exact h | with_reducible exact rfq_ok h
    · rename_i h2
      refine ⟨h.1, h.2.1, h.2.2.1, ?_⟩
      show Q.2.2.2.2.2.1 + 1 ≤ 250
      have h3 : ¬ 250 ≤ Q.2.2.2.2.2.1 := fun q => h2 (decide_eq_true q)
      omega
  · first | with_reducible exact h | with_reducible exact rfq_ok h
theorem ok_wipe (h : QOk Q) : QOk (m_wipe Q).2 := ⟨h.1, h.2.1, h.2.2.1, Nat.zero_le 250⟩
theorem ok_town (h : QOk Q) : QOk (m_town Q).2 := by
  have h2 := to_read (f := Q.2.2.2.2.1) h.2.2.2 h.1
  unfold m_town
  generalize rdE (readS Q.2.2.2.2.1 Q.2.2.2.2.2.1 Q.1).2 = q' at *
  generalize readA Q.2.2.2.2.1 Q.2.2.2.2.2.1 Q.1 = a
  dsimp only
  split
  · exact ⟨h2, h.2.1, h.2.2.1, Nat.zero_le _⟩
  · exact ⟨h.1, h.2.1, h.2.2.1, Nat.zero_le _⟩
theorem ok_lives {s : Int32} (h : QOk Q) : QOk (m_lives Q s).2 := by
  unfold m_lives
  split
  · exact qt_ok h (truth_ok h.1)
  · first | with_reducible exact h | with_reducible exact rfq_ok h
theorem ok_makes {s : Int32} (h : QOk Q) : QOk (m_makes Q s).2 := by
  unfold m_makes
  split
  · exact qt_ok h (truth_ok h.1)
  · first | with_reducible exact h | with_reducible exact rfq_ok h
theorem ok_week (h : QOk Q) : QOk (m_week Q).2 := qt_ok h (wk1_ok h.1)
theorem ok_weeks {v : Int32} (h : QOk Q) : QOk (m_weeks Q v).2 := by
  unfold m_weeks
  split
  · exact qt_ok h (wkN_ok h.1 _)
  · first | with_reducible exact h | with_reducible exact rfq_ok h
theorem ok_seed {v : Int32} (h : QOk Q) : QOk (m_seed Q v).2 := qt_ok h (ups6_ok h.1)
theorem ok_image (h : QOk Q) : QOk (m_image Q).2 := qok_of h h.1 h.1 h.2.2.1 rfl
theorem ok_back (h : QOk Q) : QOk (m_back Q).2 := by
  unfold m_back
  split
  · first | with_reducible exact h | with_reducible exact rfq_ok h
  · exact qok_of h h.2.1 h.2.1 h.2.2.1 rfl
end QOK2
