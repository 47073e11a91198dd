-- PURE: the next day of the ring, days, what stands
section G
variable {c f d n P m : Nat} {g kn tn : Nat → Nat} {kx tx km tm ax am rx rm hx hm sx sm : Nat → Int32} {ex em : Nat → Int64} {r : Int64}
theorem draw_eq (s : Int32) {k : Nat} (h0 : 0 < k) (hk : k < 2 ^ 31) : ∃ v, f_X0_draw s (nI k) = some (v, (s * (nI 1103515245)) + (nI 12345)) ∧ f_X7_draw s (nI k) = some (v, (s * (nI 1103515245)) + (nI 12345)) := by
  have g1 : ¬ nI k ≤ nI 0 := by rw [le_nI (by omega) (by omega)]; omega
  have g2 : ¬ nI k = nI 0 := by rw [nI_e0 (by omega)]; omega
  unfold f_X0_draw f_X7_draw
  rw [if_neg g1, if_neg g2]
  exact ⟨_, rfl, rfl⟩
def rput (r : Int64) (n : Nat) (p : Int32) : Int64 := if p = nI 0 then r else r ||| xlshl (lN 1) (nI n)
theorem ROk_put (hn : n < 40) (hr : ROk n r) (p : Int32) : ROk (n + 1) (rput r n p) := by
  intro i hi
  unfold rput
  split
  · exact hr i (by omega)
  · rw [bt_or, hr i (by omega), bt_one (by omega)]
    simp; omega
theorem addStep_eq (hn : n < 40) (p : Int32) : f_X0_addStep r (nI n) p = some (rput r n p, nI (n + 1)) := by
  have ga : ¬ nI 40 ≤ nI n := by rw [le_nI (by omega) (by omega)]; omega
  have gc : ¬ nI 1 = nI 0 := by decide
  have hq : r ||| lN 0 = r := bt_ext (fun i _ => by rw [bt_or, bt_0]; simp)
  unfold f_X0_addStep f_X0_hasRoom rput
  rw [if_neg ga, Option.bind_some, if_neg gc, nI_add, hq]
  by_cases z : p = nI 0
  · rw [if_pos z, if_pos z]
  · rw [if_neg z, if_neg z]
theorem adds_eq (p : Int32) : f_X7_adds r (nI n) p = some (rput r n p, nI (n + 1)) := by
  unfold f_X7_adds rput
  rw [nI_add]
  by_cases z : p = nI 0
  · rw [if_pos z, if_pos z]
  · rw [if_neg z, if_neg z]
/-- one day more -/
theorem truth_eq (hX : LwX c kn tn kx tx) (hM : LwX c kn tn km tm) (hf : FOk c f) (hn : n < 40) (s ms p : Int32) : ∃ b s', f_X0_strikesInTruth (nI f) ms r (nI n) s (nI c) kx tx p = some (b2 b, rput r n p, nI (n + 1), s') ∧ f_X7_rung (nI c) (nI f) ms r (nI n) s km tm p = some (b2 b, rput r n p, nI (n + 1), s') := by
  have hc := hX.1
  have hfl := hf.lt hc
  obtain ⟨v, d1, d2⟩ := draw_eq s (show 0 < 100 by omega) (by omega)
  unfold f_X0_strikesInTruth f_X7_rung
  rw [addStep_eq hn, adds_eq, Option.bind_some, Option.bind_some]
  simp only [nI_dif (show 1 ≤ n + 1 by omega), Nat.add_sub_cancel, f_X0_wouldStrike, X2_strikesAt_lst hX hfl (show 0 < n + 1 by omega) (show n + 1 ≤ 62 by omega) (show n < 2 ^ 20 by omega), X7_strikesNow_eq hM hf (show 0 < n + 1 by omega) (show n + 1 ≤ 62 by omega) (show n < 2 ^ 20 by omega), Option.bind_some, ifb, d1, d2]
  cases lst c kn tn f (rput r n p) (n + 1) n with
  | false => exact ⟨false, s, rfl, rfl⟩
  | true =>
    simp only [if_true]
    by_cases z : v < ms
    · simp only [if_pos z]; exact ⟨false, _, rfl, rfl⟩
    · simp only [if_neg z]; exact ⟨true, _, rfl, rfl⟩
theorem e_ring (hX : LwX c kn tn kx tx) (hM : LwX c kn tn km tm) (hf : FOk c f) (hn : n ≤ 40) (hr : ROk n r) (hR : RR rx rm) (s ms p1 : Int32) : ∃ v r' n' s' rx' rm', f_X6_ring (nI f) ms r (nI n) s (nI c) kx tx rx p1 = some (v, r', nI n', s', rx') ∧ f_X7_ring (nI c) (nI f) ms r (nI n) s km tm rm p1 = some (v, r', nI n', s', rm') ∧ n' ≤ 40 ∧ ROk n' r' ∧ RR rx' rm' := by
  unfold f_X6_ring f_X7_ring
  by_cases z : n = 40
  · subst z
    obtain ⟨v6, a6, b6, z1, z2, z3⟩ := noC6 hR
    simp only [f_X0_hasRoom, Int32.le_refl, if_true, Option.bind_some, z1, z2]
    exact ⟨v6, r, 40, s, a6, b6, rfl, rfl, hn, hr, z3⟩
  · have ga : ¬ nI 40 ≤ nI n := by rw [le_nI (by omega) (by omega)]; omega
    have gb : ¬ nI n = nI 40 := by rw [nI_eq (by omega) (by omega)]; exact z
    have gc : ¬ nI 1 = nI 0 := by decide
    obtain ⟨b, s', q1, q2⟩ := truth_eq (r := r) hX hM hf (show n < 40 by omega) s ms p1
    simp only [f_X0_hasRoom, if_neg ga, if_neg gb, if_neg gc, Option.bind_some, q1, q2, X6_asNumber_eq]
    exact ⟨b2 b, _, n + 1, s', rx, rm, rfl, rfl, by omega, ROk_put (by omega) hr p1, hR⟩
theorem e_days (hX : LwX c kn tn kx tx) (hM : LwX c kn tn km tm) (hf : FOk c f) (hn : n ≤ 40) (hr : ROk n r) (hR : RR rx rm) (s ms p1 : Int32) : ∃ v r' n' s' rx' rm', f_X6_days (nI f) ms r (nI n) s (nI c) kx tx rx p1 = some (v, r', nI n', s', rx') ∧ f_X7_days (nI c) (nI f) ms r (nI n) s km tm rm p1 = some (v, r', nI n', s', rm') ∧ n' ≤ 40 ∧ ROk n' r' ∧ RR rx' rm' := by
  obtain ⟨v2, a, b, y1, y2, y3⟩ := noC' (show NoC (-2) by simp [NoC]) hR
  simp only [f_X6_days, f_X7_days, X6_isWithin_eq, X7_within_eq, Option.bind_some, ifb, y1, y2]
  cases g1 : wi p1 (nI 1) (nI 40) with
  | false => exact ⟨v2, r, n, s, a, b, rfl, rfl, hn, hr, y3⟩
  | true =>
    obtain ⟨k, -, hk, rfl⟩ := (wi_nI (by omega) (by omega)).mp g1
    simp only [if_true]
    obtain ⟨a, b, q1, q2, v, r', n', s', e1, e2, e3, e4⟩ := xl_pair (bx := f_X6_days_L21 (nI f) ms (nI c) kx tx rx (nI k)) (bm := f_X7_days_L21 (nI c) (nI f) ms km tm rm (nI k)) (fun i u t => u = t ∧ ∃ w r' n' s', u = (w, nI i, r', nI n', s') ∧ n' ≤ 40 ∧ ROk n' r') (fun a b => ∃ v r' n' s', a = (v, r', nI n', s', rx) ∧ b = (v, r', nI n', s', rm) ∧ n' ≤ 40 ∧ ROk n' r') k (s0 := (nI 0, nI 0, r, nI n, s)) (t0 := (nI 0, nI 0, r, nI n, s)) (by omega) ⟨rfl, nI 0, r, n, s, rfl, hn, hr⟩ (fun i u t hi hI => by
      obtain ⟨rfl, w, r', n', s', rfl, hn', hr'⟩ := hI
      by_cases h : i < k
      · have ga : ¬ nI k ≤ nI i := by rw [le_nI (by omega) (by omega)]; omega
        by_cases z : n' = 40
        · subst z
          unfold f_X6_days_L21 f_X7_days_L21 f_X0_hasRoom
          simp only [if_neg ga, Int32.le_refl, if_true, Option.bind_some]
          exact Or.inl ⟨_, _, rfl, rfl, w, r', 40, s', rfl, rfl, hn', hr'⟩
        · have gb : ¬ nI 40 ≤ nI n' := by rw [le_nI (by omega) (by omega)]; omega
          have gc : ¬ nI 1 = nI 0 := by decide
          obtain ⟨v, d1, d2⟩ := draw_eq s' (show 0 < 2 by omega) (by omega)
          refine Or.inr ⟨h, ?_⟩
          unfold f_X6_days_L21 f_X7_days_L21 f_X0_hasRoom
          simp only [if_neg ga, if_neg gb, if_neg gc, Option.bind_some, d1, d2, f_X6_days_J53]
          by_cases y : v = nI 1
          · obtain ⟨b, s2, q1, q2⟩ := truth_eq (r := r') hX hM hf (show n' < 40 by omega) (s' * nI 1103515245 + nI 12345) ms (nI 1)
            simp only [if_pos y, q1, q2, Option.bind_some, X6_asNumber_eq]
            exact ⟨_, _, rfl, rfl, rfl, _, _, n' + 1, _, by rw [nI_add], by omega, ROk_put (by omega) hr' _⟩
          · obtain ⟨b, s2, q1, q2⟩ := truth_eq (r := r') hX hM hf (show n' < 40 by omega) (s' * nI 1103515245 + nI 12345) ms (nI 0)
            simp only [if_neg y, q1, q2, Option.bind_some, X6_asNumber_eq]
            exact ⟨_, _, rfl, rfl, rfl, _, _, n' + 1, _, by rw [nI_add], by omega, ROk_put (by omega) hr' _⟩
      · have ga : nI k ≤ nI i := by rw [le_nI (by omega) (by omega)]; omega
        unfold f_X6_days_L21 f_X7_days_L21
        simp only [if_pos ga]
        exact Or.inl ⟨_, _, rfl, rfl, w, r', n', s', rfl, rfl, hn', hr'⟩)
    subst e1 e2
    exact ⟨v, r', n', s', rx, rm, q1, q2, e3, e4, hR⟩
theorem hold_eq (hS : ShOk c hx hm sx sm ex em) : ∃ v, f_X4_howManyHold hx = some v ∧ xloop (f_X7_status_L123 hm) xN (nI 0, nI 0) = some v := by
  obtain ⟨a, b, q1, q2, q3⟩ := xl_pair (bx := f_X4_howManyHold_L4 hx) (bm := f_X7_status_L123 hm) (fun i s t => s = t ∧ s.2 = nI i) (fun a b => a = b) 8 (s0 := (nI 0, nI 0)) (t0 := (nI 0, nI 0)) (by omega) ⟨rfl, rfl⟩ (fun i s t hi hI => by
    obtain ⟨rfl, e⟩ := hI
    by_cases h : i < 8
    · have ga : ¬ nI 8 ≤ nI i := by rw [le_nI (by omega) (by omega)]; omega
      refine Or.inr ⟨h, ?_⟩
      unfold f_X4_howManyHold_L4 f_X7_status_L123
      simp only [e, if_neg ga, X4_heldOn_eq h, Option.bind_some, (hS i h).1, xout_s h (show 8 < 2 ^ 31 by omega), xat_nI (show i < 2 ^ 31 by omega), nI_p0, nI_add]
      by_cases z : hm i = -1
      · simp only [if_pos z]; exact ⟨_, _, rfl, rfl, rfl, rfl⟩
      · simp only [if_neg z]; exact ⟨_, _, rfl, rfl, rfl, rfl⟩
    · have z : i = 8 := by omega
      subst z
      unfold f_X4_howManyHold_L4 f_X7_status_L123
      simp only [e, Int32.le_refl, if_true]
      exact Or.inl ⟨_, _, rfl, rfl, rfl⟩)
  subst q3
  exact ⟨a, q1, q2⟩
theorem elem5_out {p1 : Int32} (h : wi p1 (nI 12) (nI 16) = false) : f_X6_elementOf 5 rx (p1 - nI 12) (-1) = some (-1) := by
  unfold f_X6_elementOf
  by_cases g : p1 - nI 12 < nI 0
  · rw [if_pos g]
  · rw [if_neg g]
    by_cases g2 : nI 5 ≤ p1 - nI 12
    · rw [if_pos g2]
    · exfalso
      have h1 := nlt_le.mp g
      have h2 := nle_lt.mp g2
      have h3 : wi (p1 - nI 12) (nI 0) (nI 4) = true := by
        unfold wi
        refine decide_eq_true ⟨h1, ?_⟩
        rw [Int32.lt_iff_toInt_lt] at h2
        rw [Int32.le_iff_toInt_le]
        have e1 : (nI 5).toInt = 5 := by decide
        have e2 : (nI 4).toInt = 4 := by decide
        omega
      obtain ⟨j, -, hj, e⟩ := (wi_nI (by omega) (by omega)).mp h3
      have e2 : p1 = nI (12 + j) := by
        have : p1 - nI 12 + nI 12 = nI j + nI 12 := by rw [e]
        rw [Int32.sub_add_cancel, nI_add] at this
        rw [this, Nat.add_comm]
      rw [e2, wi_in (by omega) (show 12 + j ≤ 16 by omega) (by omega)] at h
      cases h
theorem e_status (hc : c ≤ 6) (h : PpOk P g ax am) (hR : RR rx rm) (hS : ShOk c hx hm sx sm ex em) (s sz p1 : Int32) : Alike (f_X6_status (nI f) (nI d) (nI m) r (nI n) s (nI c) (nI P) ax sz rx hx p1) (f_X7_status (nI c) (nI f) (nI d) (nI m) r (nI n) (nI P) s sz am hm rm p1) := by
  have hP := h.1
  have h1 : 1 ≤ 2 ^ P := Nat.two_pow_pos P
  have h2 := two_le (show P ≤ 12 by omega)
  obtain ⟨w, w1, w2⟩ := hold_eq hS
  unfold f_X6_status f_X7_status
  simp only [f_X3_agesOfAll, shl_nI (show P ≤ 12 by omega), nI_dif h1, agesOf_eq h (show 2 ^ P - 1 < 2 ^ 31 by omega), ageOf7_eq h (show 2 ^ P - 1 < 2 ^ 31 by omega), bitCount_eq, Option.bind_some, w1, w2, X7_within_eq, ifb]
  by_cases z0 : p1 = nI 0
  · simp only [if_pos z0]; exact ⟨_, rfl, rfl⟩
  simp only [if_neg z0]
  by_cases z1 : p1 = nI 1
  · simp only [if_pos z1]; exact ⟨_, rfl, rfl⟩
  simp only [if_neg z1]
  by_cases z2 : p1 = nI 2
  · simp only [if_pos z2]; exact ⟨_, rfl, rfl⟩
  simp only [if_neg z2]
  by_cases z3 : p1 = nI 3
  · simp only [if_pos z3]; exact ⟨_, rfl, rfl⟩
  simp only [if_neg z3]
  by_cases z4 : p1 = nI 4
  · simp only [if_pos z4]; exact ⟨_, rfl, rfl⟩
  simp only [if_neg z4]
  by_cases z5 : p1 = nI 5
  · simp only [if_pos z5]; exact ⟨_, rfl, rfl⟩
  simp only [if_neg z5]
  by_cases z6 : p1 = nI 6
  · simp only [if_pos z6]; exact ⟨_, rfl, rfl⟩
  simp only [if_neg z6]
  by_cases z7 : p1 = nI 7
  · simp only [if_pos z7]; exact ⟨_, rfl, rfl⟩
  simp only [if_neg z7]
  by_cases z8 : p1 = nI 8
  · simp only [if_pos z8]; exact ⟨_, rfl, rfl⟩
  simp only [if_neg z8]
  by_cases z9 : p1 = nI 9
  · simp only [if_pos z9]; exact ⟨_, rfl, rfl⟩
  simp only [if_neg z9]
  by_cases z10 : p1 = nI 10
  · simp only [if_pos z10]; exact ⟨_, rfl, rfl⟩
  simp only [if_neg z10]
  cases q : wi p1 (nI 12) (nI 16) with
  | false => rw [elem5_out q]; exact ⟨_, rfl, by simp⟩
  | true =>
    obtain ⟨j, hj1, hj2, rfl⟩ := (wi_nI (by omega) (by omega)).mp q
    rw [nI_dif hj1, X6_elementOf_eq (show 5 < 2 ^ 31 by omega) (show j - 12 < 5 by omega), nI_dif (show 10 ≤ j by omega)]
    simp only [if_true, xout_s (show j - 10 < 7 by omega) (show 7 < 2 ^ 31 by omega), xat_nI (show j - 10 < 2 ^ 31 by omega), Option.bind_some]
    refine ⟨_, rfl, ?_⟩
    rw [hR (j - 12) (by omega), show j - 12 + 2 = j - 10 by omega]
    rfl
end G
