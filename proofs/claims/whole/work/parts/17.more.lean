-- PURE: together, odds, expected, next
theorem nI_p0 (x : Int32) : x + nI 0 = x := by rw [show nI 0 = (0 : Int32) by decide, Int32.add_zero]
section M
variable {c f d n : Nat} {kn tn : Nat → Nat} {kx tx km tm rx rm : Nat → Int32} {r : Int64}
theorem e_together (hX : LwX c kn tn kx tx) (hM : LwX c kn tn km tm) (hf : FOk c f) (hn : n ≤ 40) (hr : ROk n r) (dp : Int32) : ∃ v, f_X6_together (nI f) r (nI n) (nI c) kx tx = some v ∧ f_X7_together (nI c) (nI f) dp r (nI n) km tm = some (v, dp) := by
  have hc := hX.1
  have hfl := hf.lt hc
  have := xl_pair (bx := f_X6_together_L6 (nI f) r (nI n) (nI c) kx tx) (bm := f_X7_together_L14 (nI c) (nI f) r (nI n) km tm dp) (fun i s t => s = t ∧ s.2.2 = nI i) (fun a b => b = (a, dp)) 10 (s0 := (nI 0, (-1 : Int32), nI 0)) (t0 := (nI 0, (-1 : Int32), nI 0)) (by omega) ⟨rfl, rfl⟩ (fun i s t hi hI => by
    obtain ⟨rfl, e⟩ := hI
    by_cases h : i < 10
    · have ga : ¬ nI 9 < nI i := by rw [lt_nI (by omega) (by omega)]; omega
      have gb : ¬ nI 10 ≤ nI i := by rw [le_nI (by omega) (by omega)]; omega
      refine Or.inr ⟨h, ?_⟩
      have hb := fun i => bt_risen (p := lst c kn tn f r n) (d := i) (n := n) (by omega)
      have hs : r &&& (xlshl (bI (lst c kn tn f r n) n) (nI i) &&& fb n) = bI (isw 1 (lst c kn tn f r n) i r) n := bI_of (by omega) (fun j hj => by
        rw [bt_and, hb i (by omega)]
        simp only [isw, bth]
        by_cases q : j < n
        · simp [q]
        · simp [q])
      simp only [f_X6_together_L6, f_X7_together_L14, f_X7_together_J55, e, if_neg ga, if_neg gb, X0_risen_eq hX hfl (show n ≤ 62 by omega) (show i ≤ 9 by omega), hs, bitCount_eq, cnt_bI _ (show n ≤ 64 by omega), X7_many_eq (w := 1) hM hf (show n ≤ 62 by omega) (show i ≤ 9 by omega) (by omega), Option.bind_some, nI_add]
      by_cases q : nI (cnt (isw 1 (lst c kn tn f r n) i r) n) ≤ s.2.1
      · have q2 : ¬ s.2.1 < nI (cnt (isw 1 (lst c kn tn f r n) i r) n) := fun z => (nle_lt.mpr z) q
        rw [if_pos q, if_neg q2]; exact ⟨_, _, rfl, rfl, rfl, rfl⟩
      · rw [if_neg q, if_pos (nle_lt.mp q)]; exact ⟨_, _, rfl, rfl, rfl, rfl⟩
    · have e2 : i = 10 := by omega
      subst e2
      have ga : nI 9 < nI 10 := by rw [lt_nI (by omega) (by omega)]; omega
      have gb : nI 10 ≤ nI 10 := by rw [le_nI (by omega) (by omega)]; omega
      simp only [f_X6_together_L6, f_X7_together_L14, e, if_pos ga, if_pos gb]
      exact Or.inl ⟨_, _, rfl, rfl, rfl⟩)
  obtain ⟨a, b, h1, h2, h3⟩ := this
  exact ⟨a, h1, by rw [← h3]; exact h2⟩
theorem e_expected (hX : LwX c kn tn kx tx) (hM : LwX c kn tn km tm) (hf : FOk c f) (hn : n ≤ 40) (ms : Int32) : Alike (f_X6_expected (nI f) ms r (nI n) (nI c) kx tx) (f_X7_expected (nI c) (nI f) ms r (nI n) km tm) := by
  have hc := hX.1
  simp only [f_X6_expected, f_X7_expected, X0_timesStruck_eq hX (hf.lt hc) (show n ≤ 62 by omega), X7_struckNow_eq hM hf (show n ≤ 62 by omega), Option.bind_some]
  exact ⟨_, rfl, rfl⟩
theorem nI_m1' {n : Nat} (h : 1 ≤ n) : nI n + (-1 : Int32) = nI (n - 1) := by rw [nI_m1, nI_dif h]
theorem e_odds (hX : LwX c kn tn kx tx) (hM : LwX c kn tn km tm) (hf : FOk c f) (hn : n ≤ 40) (ms : Int32) : Alike (f_X6_odds (nI f) ms r (nI n) (nI c) kx tx) (f_X7_odds (nI c) (nI f) ms r (nI n) km tm) := by
  have hc := hX.1
  simp only [f_X6_odds, f_X7_odds, X0_timesStruck_eq hX (hf.lt hc) (show n ≤ 62 by omega), X7_struckNow_eq hM hf (show n ≤ 62 by omega), Option.bind_some]
  have hle := cnt_le (lst c kn tn f r n) n
  generalize cnt (lst c kn tn f r n) n = k at hle
  refine al_of (xl_pair (fun i s t => s.1 = t.1 ∧ s.2 = nI i ∧ t.2 = nI (k - i)) _ k (by omega) ⟨rfl, rfl, rfl⟩ (fun i s t hi hI => ?_))
  obtain ⟨e1, e2, e3⟩ := hI
  by_cases h : i < k
  · have ga : ¬ nI k ≤ nI i := by rw [le_nI (by omega) (by omega)]; omega
    have gb : ¬ nI (k - i) ≤ nI 0 := by rw [le_nI (by omega) (by omega)]; omega
    refine Or.inr ⟨h, ?_⟩
    simp only [f_X6_odds_L28, f_X7_odds_L17, e1, e2, e3, if_neg ga, if_neg gb, nI_add, nI_m1' (show 1 ≤ k - i by omega)]
    exact ⟨_, _, rfl, rfl, rfl, rfl, by rw [show k - (i + 1) = k - i - 1 by omega]⟩
  · have ga : nI k ≤ nI i := by rw [le_nI (by omega) (by omega)]; omega
    have gb : nI (k - i) ≤ nI 0 := by rw [le_nI (by omega) (by omega)]; omega
    simp only [f_X6_odds_L28, f_X7_odds_L17, e2, e3, if_pos ga, if_pos gb]
    exact Or.inl ⟨_, _, rfl, rfl, e1⟩
theorem bt_nI {v j : Nat} (hv : v < 2 ^ 31) (hj : j < 64) : bt (Int32.toInt64 (nI v)) j = v.testBit j := by rw [nI_L hv, bt_lN j hj]
theorem ord_eq {n : Nat} (h : n ≤ 62) : xlshl (lN 1) (nI n) = bI (fun i => decide (i = n)) 63 := bI_of (by omega) (fun i hi => by
  rw [bt_one (by omega)]
  by_cases e : i = n
  · simp [e]; omega
  · simp [e])
theorem parted_eq {v : Nat} (hX : LwX c kn tn kx tx) (hM : LwX c kn tn km tm) (hn : n ≤ 40) (hv : v < 2 ^ 12) (q : Int64) : ∃ z, f_X0_partedBy_J18 (nI n) (nI c) kx tx (nI v) q (lN 0) = some z ∧ f_X7_parted_J22 (nI c) (nI n) km tm (nI v) q = some z := by
  have hc := hX.1
  have hq : q ||| lN 0 = q := bt_ext (fun i _ => by rw [bt_or, bt_0]; simp)
  simp only [f_X0_partedBy_J18, f_X7_parted_J22, hq]
  obtain ⟨a, b, h1, h2, h3⟩ := xl_pair (bx := f_X0_partedBy_L29 (nI n) (nI c) kx tx (nI v) q) (bm := f_X7_parted_L32 (nI c) (nI n) km tm (nI v) q) (fun i s t => s = t ∧ s.2.2 = nI i) (fun a b => a = b) c (s0 := (nI 0, nI 0, nI 0)) (t0 := (nI 0, nI 0, nI 0)) (by omega) ⟨rfl, rfl⟩ (fun i s t hi hI => by
    obtain ⟨rfl, e⟩ := hI
    by_cases h : i < c
    · have ga : ¬ nI c ≤ nI i := by rw [le_nI (by omega) (by omega)]; omega
      refine Or.inr ⟨h, ?_⟩
      simp only [f_X0_partedBy_L29, f_X7_parted_L32, e, if_neg ga, X6_isIn_eq (show i < 64 by omega), X7_has_eq (show i < 64 by omega), nI_add, X2_strikesAt_lst hX (show i < 2 ^ 30 by omega) (show 0 < n + 1 by omega) (show n + 1 ≤ 62 by omega) (show n < 2 ^ 20 by omega), X7_strikesAt_lst hM h (show 0 < n + 1 by omega) (show n + 1 ≤ 62 by omega) (show n < 2 ^ 20 by omega), Option.bind_some, ifb]
      cases bt (Int32.toInt64 (nI v)) i with
      | false => exact ⟨_, _, rfl, rfl, rfl, rfl⟩
      | true =>
        cases lst c kn tn i q (n + 1) n with
        | false => exact ⟨_, _, rfl, rfl, by simp only [nI_p0, e, nI_add], by simp only [e, nI_add]⟩
        | true => exact ⟨_, _, rfl, rfl, by simp only [nI_p0, e, nI_add], by simp only [e, nI_add]⟩
    · have ga : nI c ≤ nI i := by rw [le_nI (by omega) (by omega)]; omega
      simp only [f_X0_partedBy_L29, f_X7_parted_L32, e, if_pos ga]
      exact Or.inl ⟨_, _, rfl, rfl, rfl⟩)
  exact ⟨a, h1, by rw [h3]; exact h2⟩
theorem partedBy_1 {q : Int64} : f_X0_partedBy_J18 (nI n) (nI c) kx tx (nI d) r q = f_X0_partedBy_J18 (nI n) (nI c) kx tx (nI d) (r ||| q) (lN 0) := by
  have hq : (r ||| q) ||| lN 0 = r ||| q := bt_ext (fun i _ => by rw [bt_or (r ||| q), bt_0]; simp)
  unfold f_X0_partedBy_J18
  rw [hq]
theorem e_next (hX : LwX c kn tn kx tx) (hM : LwX c kn tn km tm) (hn : n ≤ 40) (hR : RR rx rm) (p1 p2 : Int32) : Pub (f_X6_next r (nI n) (nI c) kx tx rx p1 p2) (f_X7_next_ (nI c) r (nI n) km tm rm p1 p2) := by
  have hc := hX.1
  simp only [f_X6_next, f_X7_next_, X6_isSetOf_eq (show c ≤ 12 by omega), X7_isSet_eq (show c ≤ 12 by omega), X6_isWithin_eq, X7_within_eq, Option.bind_some, ifb]
  by_cases g : isS p1 c = true
  · obtain ⟨v, hv, rfl⟩ := (isS_iff (by omega)).mp g
    by_cases g2 : wi p2 (nI 0) (nI 1) = true
    · simp only [g, g2, if_true]
      by_cases g3 : n = 40
      · subst g3
        simp only [f_X0_hasRoom, if_true, Int32.le_refl, Option.bind_some]; exact no6 hR
      · have ga : ¬ nI 40 ≤ nI n := by rw [le_nI (by omega) (by omega)]; omega
        have gb : ¬ nI n = nI 40 := by rw [nI_eq (by omega) (by omega)]; exact g3
        have gc : ¬ nI 1 = nI 0 := by decide
        have hv2 : v < 2 ^ 12 := Nat.lt_of_lt_of_le hv (Nat.pow_le_pow_right (by decide) (by omega))
        obtain ⟨z1, a1, a2⟩ := parted_eq hX hM hn hv2 r
        obtain ⟨z2, b1, b2⟩ := parted_eq hX hM hn hv2 (r ||| xlshl (lN 1) (nI n))
        simp only [f_X0_hasRoom, if_neg ga, if_neg gb, if_neg gc, Option.bind_some, f_X0_partedBy, f_X7_parted, if_true, partedBy_1 (q := xlshl (lN 1) (nI n)), a1, a2, b1, b2, X6_asNumber_0, X6_asNumber_1]
        by_cases q : p2 = nI 1
        · simp only [if_pos q]; exact pub_v hR _
        · simp only [if_neg q]
          by_cases q2 : z2 ≤ z1
          · simp only [if_pos q2]; exact pub_v hR _
          · simp only [if_neg q2]; exact pub_v hR _
    · simp only [g, g2, if_true, if_false]; exact no2 hR
  · simp only [g, if_false]; exact no2 hR
end M
