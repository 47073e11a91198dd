-- PURE: period, mirror, the last stroke, shift, flip, until
theorem m1_nI : (-1 : Int32) < nI 0 := by decide
theorem nI_m1 (n : Nat) : nI n + (-1 : Int32) = nI n - nI 1 := by
  apply Int32.toBitVec_inj.mp
  simp only [Int32.toBitVec_sub, Int32.toBitVec_add]
  have e : (-1 : Int32).toBitVec = -(nI 1).toBitVec := by decide
  rw [e, BitVec.sub_eq_add_neg]
section C
variable {c f d n : Nat} {kn tn : Nat → Nat} {kx tx km tm rx rm : Nat → Int32} {r : Int64}
def per (r : Int64) (n p : Nat) : Bool := decide (∀ i, i < n - p → (bt r (p + i) == bt r i) = true)
theorem X7_period_in {p : Nat} (hn : n ≤ 40) (hp : p < n) : f_X7_period_L2 r (nI n) (nI p) = some (if per r n p = true then .inl (nI p) else .inr (nI (p + 1))) := by
  have g : ¬ nI n ≤ nI p := by rw [le_nI (by omega) (by omega)]; omega
  simp only [f_X7_period_L2, if_neg g]
  refine xl_up (st := fun k => (b2 (decide (∀ i, i < k → (bt r (p + i) == bt r i) = true)), nI (p + k))) (n - p) (by simp [b2]) (by omega) (fun i hi => ?_) ?_
  · have g : ¬ nI n ≤ nI (p + i) := by rw [le_nI (by omega) (by omega)]; omega
    rw [allB_s]
    simp only [f_X7_period_L14, if_neg g, nI_dif (show p ≤ p + i by omega), Nat.add_sub_cancel_left, X7_has_eq (show p + i < 64 by omega), X7_has_eq (show i < 64 by omega), Option.bind_some, eq_b2, nI_add, Nat.add_assoc]
    by_cases hq : bt r (p + i) = bt r i
    · simp [hq]
    · simp [hq, b2]
  · have g : nI n ≤ nI (p + (n - p)) := by rw [le_nI (by omega) (by omega)]; omega
    simp only [f_X7_period_L14, if_pos g, nI_add, ifb]
    unfold per
    by_cases hq : (∀ i, i < n - p → (bt r (p + i) == bt r i) = true)
    · rw [decide_eq_true hq]; simp
    · rw [decide_eq_false hq]; simp
theorem per_iff {p : Nat} (hn : n ≤ 40) (hp : p < n) (hr : ROk n r) : xlushr r (nI p) = r &&& fb (n - p) ↔ per r n p = true := by
  unfold per
  rw [decide_eq_true_iff]
  constructor
  · intro h i hi
    have := congrArg (fun x => bt x i) h
    simp only [bt_ushr r (show p < 64 by omega), bt_and, bt_fb (show n - p ≤ 62 by omega), decide_eq_true hi, Bool.and_true] at this
    simpa using this
  · intro h
    apply bt_ext
    intro i hi
    rw [bt_ushr r (by omega), bt_and, bt_fb (by omega)]
    by_cases q : i < n - p
    · have := h i q
      simp only [decide_eq_true q, Bool.and_true]
      simpa using this
    · rw [hr (p + i) (by omega)]
      simp [q]
theorem X6_period_in {p : Nat} (hn : n ≤ 40) (hp : p < n) (hr : ROk n r) : f_X6_period_L2 r (nI n) (nI p) = some (if per r n p = true then .inl (nI p) else .inr (nI (p + 1))) := by
  have g : ¬ nI n ≤ nI p := by rw [le_nI (by omega) (by omega)]; omega
  have e := per_iff hn hp hr
  unfold fb at e
  simp only [f_X6_period_L2, if_neg g, nI_dif (show p ≤ n by omega), f_X6_firstBits, Option.bind_some, xcmp_0, e, nI_add]
  by_cases hq : per r n p = true <;> simp [hq]
def Alike (a b : Option Int32) : Prop := ∃ v, a = some v ∧ b = some v
theorem al_of {a b : Option Int32} (h : ∃ x y, a = some x ∧ b = some y ∧ x = y) : Alike a b := by
  obtain ⟨x, y, h1, h2, h3⟩ := h
  exact ⟨x, h1, by rw [h2, h3]⟩
theorem e_period (hn : n ≤ 40) (hr : ROk n r) : Alike (f_X6_period r (nI n)) (f_X7_period r (nI n)) := by
  unfold f_X6_period f_X7_period
  refine al_of (xl_pair (fun i s t => s = nI (i + 1) ∧ t = nI (i + 1)) _ 40 (by omega) ⟨rfl, rfl⟩ (fun i s t hi hI => ?_))
  obtain ⟨rfl, rfl⟩ := hI
  by_cases h : i + 1 < n
  · rw [X6_period_in hn h hr, X7_period_in hn h]
    by_cases hq : per r n (i + 1) = true
    · exact Or.inl ⟨_, _, by rw [if_pos hq], by rw [if_pos hq], rfl⟩
    · exact Or.inr ⟨by omega, _, _, by rw [if_neg hq], by rw [if_neg hq], rfl, rfl⟩
  · have g : nI n ≤ nI (i + 1) := by rw [le_nI (by omega) (by omega)]; omega
    exact Or.inl ⟨nI n, nI n, by simp only [f_X6_period_L2, if_pos g], by simp only [f_X7_period_L2, if_pos g], rfl⟩
/-- the ring turned about -/
def rev (r : Int64) (n : Nat) : Int64 := bI (fun i => bt r (n - 1 - i)) n
theorem X0_turnedAbout_eq (hn : n ≤ 40) : f_X0_turnedAbout r (nI n) = some (rev r n) := by
  unfold f_X0_turnedAbout
  refine xl_up (st := fun k => (bI (fun i => bt r (k - 1 - i)) k, nI k)) n rfl (by omega) (fun i hi => ?_) ?_
  · have g : ¬ nI n ≤ nI i := by rw [le_nI (by omega) (by omega)]; omega
    simp only [f_X0_turnedAbout_L4, if_neg g, nI_add]
    refine congrArg (fun x => some (Sum.inr (x, nI (i + 1)))) ?_
    refine bI_of (by omega) (fun j hj => ?_)
    rw [bt_or, bt_shl _ (by omega), bt_and, bt_ushr r (by omega), bt_lN j hj, bt_bI _ _ (by omega)]
    cases j with
    | zero => simp
    | succ j =>
      have e1 : decide (1 ≤ j + 1) = true := by simp
      have e2 : j + 1 - 1 = j := by omega
      have e3 : Nat.testBit 1 (j + 1) = false := by simp [Nat.testBit_succ]
      rw [e1, e2, e3]
      have e4 : i - 1 - j = i + 1 - 1 - (j + 1) := by omega
      have e5 : decide (j < i) = decide (j + 1 < i + 1) := by simp
      rw [e4, e5]
      simp [hj]
  · have g : nI n ≤ nI n := by rw [le_nI (by omega) (by omega)]; omega
    simp only [f_X0_turnedAbout_L4, if_pos g]
    rfl
theorem X7_backward_eq (hn : n ≤ 40) : f_X7_backward r (nI n) = some (rev r n) := by
  unfold f_X7_backward
  refine xl_up (st := fun k => (bI (fun i => decide (n - k ≤ i) && bt r (n - 1 - i)) n, nI k)) n ?_ (by omega) (fun i hi => ?_) ?_
  · refine congrArg (fun x => (x, nI 0)) (Eq.symm ?_)
    apply bt_ext
    intro j hj
    rw [bt_0, bt_bI _ _ (by omega)]
    by_cases h : j < n
    · have : ¬ n - 0 ≤ j := by omega
      simp [this]
      omega
    · simp [h]
  · have g : ¬ nI n ≤ nI i := by rw [le_nI (by omega) (by omega)]; omega
    simp only [f_X7_backward_L4, if_neg g, X7_has_eq (show i < 64 by omega), Option.bind_some, ifb, nI_add, nI_dif (show 1 ≤ n by omega), nI_dif (show i ≤ n - 1 by omega)]
    by_cases hq : bt r i = true
    · rw [if_pos hq]
      refine congrArg (fun x => some (Sum.inr (x, nI (i + 1)))) ?_
      refine bI_of (by omega) (fun j hj => ?_)
      rw [bt_or, bt_one (by omega), bt_bI _ _ (by omega)]
      by_cases h1 : j = n - 1 - i
      · subst h1
        have h2 : n - 1 - i < n := by omega
        have h3 : n - (i + 1) ≤ n - 1 - i := by omega
        have h4 : n - 1 - (n - 1 - i) = i := by omega
        simp [h2, h3, h4, hq]
      · by_cases h2 : j < n
        · have : (n - i ≤ j) ↔ (n - (i + 1) ≤ j) := by omega
          simp only [decide_eq_false h1, Bool.or_false, this]
        · simp [h2, h1]
    · rw [if_neg hq]
      refine congrArg (fun x => some (Sum.inr (x, nI (i + 1)))) ?_
      refine bI_congr (fun j hj => ?_)
      by_cases h1 : j = n - 1 - i
      · subst h1
        have h4 : n - 1 - (n - 1 - i) = i := by omega
        rw [h4]
        simp at hq
        simp [hq]
      · have : (n - i ≤ j) ↔ (n - (i + 1) ≤ j) := by omega
        simp only [this]
  · have g : nI n ≤ nI n := by rw [le_nI (by omega) (by omega)]; omega
    simp only [f_X7_backward_L4, if_pos g]
    refine congrArg (fun x => some (Sum.inl x)) ?_
    refine bI_congr (fun j hj => ?_)
    simp
theorem e_mirror (hn : n ≤ 40) : Alike (f_X6_mirror r (nI n)) (f_X7_mirror r (nI n)) := by
  simp only [f_X6_mirror, f_X7_mirror, X0_turnedAbout_eq hn, X7_backward_eq hn, Option.bind_some, X6_asNumber_1, X6_asNumber_0]
  by_cases h : xcmp (rev r n) r = nI 0
  · exact ⟨nI 1, by rw [if_pos h], by rw [if_pos h]⟩
  · exact ⟨nI 0, by rw [if_neg h], by rw [if_neg h]⟩
def lastI (p : Nat → Bool) : Nat → Int32
  | 0 => -1
  | n + 1 => if p n = true then nI n else lastI p n
theorem X7_last_run (r : Int64) : ∀ (n k : Nat), n ≤ 40 → n < k → xloop (f_X7_lastStroke_L7 r) k (nI n - nI 1) = some (lastI (bt r) n)
  | 0, 0, _, h => by omega
  | 0, k + 1, _, _ => by
    show (f_X7_lastStroke_L7 r (nI 0 - nI 1)).bind _ = _
    rw [nI_neg1]
    simp only [f_X7_lastStroke_L7, if_pos m1_nI]
    rfl
  | n + 1, 0, _, h => by omega
  | n + 1, k + 1, h1, h2 => by
    show (f_X7_lastStroke_L7 r (nI (n + 1) - nI 1)).bind _ = _
    rw [nI_sub1]
    have g : ¬ nI n < nI 0 := nI_nneg (by omega)
    simp only [f_X7_lastStroke_L7, if_neg g, X7_has_eq (show n < 64 by omega), Option.bind_some, ifb, nI_m1]
    by_cases hq : bt r n = true
    · simp only [if_pos hq, lastI, Option.bind_some]; rfl
    · simp only [if_neg hq, lastI, Option.bind_some]
      exact X7_last_run r n k (by omega) (by omega)
theorem e_lastStroke (hn : n ≤ 40) : Alike (f_X6_lastStroke r (nI n)) (f_X7_lastStroke r (nI n)) := by
  refine ⟨lastI (bt r) n, ?_, X7_last_run r n xN hn (by unfold xN; omega)⟩
  unfold f_X6_lastStroke
  refine xl_up (st := fun k => (lastI (bt r) k, nI k)) n rfl (by omega) (fun i hi => ?_) ?_
  · have g : ¬ nI n ≤ nI i := by rw [le_nI (by omega) (by omega)]; omega
    simp only [f_X6_lastStroke_L4, if_neg g, X6_isIn_eq (show i < 64 by omega), Option.bind_some, ifb, nI_add, lastI]
    by_cases hq : bt r i = true <;> simp [hq]
  · have g : nI n ≤ nI n := by rw [le_nI (by omega) (by omega)]; omega
    simp only [f_X6_lastStroke_L4, if_pos g]
theorem e_shift (hX : LwX c kn tn kx tx) (hM : LwX c kn tn km tm) (hf : FOk c f) (hn : n ≤ 40) (hr : ROk n r) (hR : RR rx rm) (p1 : Int32) : Pub (f_X6_shift (nI f) r (nI n) (nI c) kx tx rx p1) (f_X7_shift (nI c) (nI f) r (nI n) km tm rm p1) := by
  have hfl := hf.lt hX.1
  simp only [f_X6_shift, f_X7_shift, X6_isStep_eq, X7_isStep_eq, Option.bind_some, ifb]
  by_cases g : wi p1 (nI 0) (nI n - nI 1) = true
  · obtain ⟨t, ht, rfl⟩ := (wi_lt (by omega)).mp g
    have e : (xlushr r (nI t) ||| xlshl r (nI (n - t))) &&& fb n = bI (fun i => bt r ((t + i) % n)) n := by
      refine bI_of (by omega) (fun j hj => ?_)
      rw [bt_and, bt_or, bt_ushr r (by omega), bt_shl r (by omega), bt_fb (by omega)]
      by_cases h : j < n
      · by_cases h2 : t + j < n
        · have h3 : ¬ n - t ≤ j := by omega
          rw [Nat.mod_eq_of_lt h2]
          simp [h, h3]
        · have h3 : n - t ≤ j := by omega
          have h4 : (t + j) % n = j - (n - t) := by
            rw [Nat.mod_eq_sub_mod (by omega), Nat.mod_eq_of_lt (by omega)]; omega
          rw [h4, hr (t + j) (by omega)]
          simp [h, h3, hj]
      · simp [h]
    unfold fb at e
    have g0 : ¬ nI n = nI 0 := by rw [nI_e0 (by omega)]; omega
    have eM : xloop (f_X7_shift_L20 (nI c) (nI f) r (nI n) km tm rm (nI t)) xN (lN 0, nI 0) = some (nI (cnt (lst c kn tn f (bI (fun i => bt r ((t + i) % n)) n) n) n), rm) := by
      refine xl_up (st := fun k => (bI (fun i => bt r ((t + i) % n)) k, nI k)) n rfl (by omega) (fun i hi => ?_) ?_
      · have g : ¬ nI n ≤ nI i := by rw [le_nI (by omega) (by omega)]; omega
        have h4 := mod_lt' (t := t + i) (show 0 < n by omega)
        simp only [f_X7_shift_L20, if_neg g, if_neg g0, nI_add, xrem_nI (show t + i < 2 ^ 31 by omega) (show 0 < n by omega) (show n < 2 ^ 31 by omega), X7_has_eq (show (t + i) % n < 64 by omega), Option.bind_some, ifb, bI]
        by_cases hq : bt r ((t + i) % n) = true <;> simp [hq]
      · have g : nI n ≤ nI n := by rw [le_nI (by omega) (by omega)]; omega
        simp only [f_X7_shift_L20, if_pos g, X7_struckNow_eq hM hf (show n ≤ 62 by omega), Option.bind_some]
    simp only [g, if_true, f_X6_firstBits, Option.bind_some, nI_dif (show t ≤ n by omega), e, X0_timesStruck_eq hX hfl (show n ≤ 62 by omega), eM]
    exact pub_v hR _
  · simp only [g, if_false]; exact no2 hR
theorem ROk_flip (hn : n ≤ 40) (hr : ROk n r) {i : Nat} (hi : i < n) : ROk n (r ^^^ xlshl (lN 1) (nI i)) := by
  intro j hj
  rw [bt_xor, hr j hj, bt_one (by omega)]
  have : ¬ j = i := by omega
  simp [this]
theorem nle_lt {a b : Int32} : (¬ a ≤ b) ↔ b < a := by rw [Int32.lt_iff_toInt_lt, Int32.le_iff_toInt_le]; omega
theorem e_flip (hX : LwX c kn tn kx tx) (hM : LwX c kn tn km tm) (hf : FOk c f) (hd : d ≤ 9) (hn : n ≤ 40) (hr : ROk n r) (hR : RR rx rm) : Pub (f_X6_flip (nI f) (nI d) r (nI n) (nI c) kx tx rx) (f_X7_flip (nI c) (nI f) (nI d) r (nI n) km tm rm) := by
  have hfl := hf.lt hX.1
  simp only [f_X6_flip, f_X7_flip]
  by_cases g : nI n = nI 0
  · simp only [g, if_true]; exact no5 hR
  · simp only [g, if_false]
    refine pub_of (xl_pair (fun i s t => s = t ∧ s.2.2 = nI i) _ n (by omega) ⟨rfl, rfl⟩ (fun i s t hi hI => ?_))
    obtain ⟨rfl, hs⟩ := hI
    by_cases h : i < n
    · have g : ¬ nI n ≤ nI i := by rw [le_nI (by omega) (by omega)]; omega
      refine Or.inr ⟨h, ?_⟩
      simp only [f_X6_flip_L23, f_X7_flip_L20, hs, if_neg g, X0_sounds_eq hX hfl (show n ≤ 62 by omega) hd (show 0 ≤ 2 by omega) (ROk_flip hn hr h), X7_many_eq hM hf (show n ≤ 62 by omega) hd (show 0 ≤ 2 by omega), Option.bind_some, bitCount_eq, cnt_bI _ (show n ≤ 64 by omega), nI_add]
      by_cases q : nI (cnt (isw 0 (lst c kn tn f (r ^^^ xlshl (lN 1) (nI i)) n) d (r ^^^ xlshl (lN 1) (nI i))) n) ≤ s.2.1
      · have q2 : ¬ s.2.1 < nI (cnt (isw 0 (lst c kn tn f (r ^^^ xlshl (lN 1) (nI i)) n) d (r ^^^ xlshl (lN 1) (nI i))) n) := fun z => (nle_lt.mpr z) q
        exact ⟨_, _, by rw [if_pos q], by rw [if_neg q2], rfl, rfl⟩
      · exact ⟨_, _, by rw [if_neg q], by rw [if_pos (nle_lt.mp q)], rfl, rfl⟩
    · have e : i = n := by omega
      subst e
      have g : nI i ≤ nI i := by rw [le_nI (by omega) (by omega)]; omega
      exact Or.inl ⟨(s.1, rx), (s.1, rm), by simp only [f_X6_flip_L23, hs, if_pos g], by simp only [f_X7_flip_L20, hs, if_pos g], rfl, hR⟩
theorem cnt_fb2 (p : Nat → Bool) {n t : Nat} (ht : t ≤ n) (hn : n ≤ 40) : cnt (bt (bI p n &&& fb t)) 64 = cnt p t := by
  rw [cnt_fb _ (by omega)]
  exact cnt_congr (fun i hi => by rw [bt_bI p n (by omega)]; simp; omega)
theorem e_until (hX : LwX c kn tn kx tx) (hM : LwX c kn tn km tm) (hf : FOk c f) (hn : n ≤ 40) (hR : RR rx rm) (p1 : Int32) : Pub (f_X6_until (nI f) r (nI n) (nI c) kx tx rx p1) (f_X7_until (nI c) (nI f) r (nI n) km tm rm p1) := by
  have hfl := hf.lt hX.1
  simp only [f_X6_until, f_X7_until, X6_isWithin_eq, X7_within_eq, Option.bind_some, ifb]
  by_cases g : wi p1 (nI 0) (nI 40) = true
  · obtain ⟨v, -, hv, rfl⟩ := (wi_nI (by omega) (by omega)).mp g
    simp only [g, if_true, X0_struck_eq hX hfl (show n ≤ 62 by omega), Option.bind_some]
    refine pub_of (xl_pair (fun i s t => s = nI i ∧ (i ≤ n → t.1 = nI (cnt (lst c kn tn f r n) i)) ∧ t.2 = nI i) _ (n + 1) (by omega) ⟨rfl, fun _ => rfl, rfl⟩ (fun i s t hi hI => ?_))
    obtain ⟨rfl, h1, h2⟩ := hI
    by_cases h : i ≤ n
    · have ga : ¬ nI n < nI i := by rw [nI_ltI (by omega) (by omega)]; omega
      have e := cnt_fb2 (lst c kn tn f r n) h hn
      unfold fb at e
      have hcl := cnt_le (lst c kn tn f r n) i
      simp only [f_X6_until_L42, f_X7_until_L21, h1 h, h2, if_neg ga, f_X6_firstBits, Option.bind_some, bitCount_eq, e, nI_add]
      by_cases q : nI (cnt (lst c kn tn f r n) i) < nI v
      · refine Or.inr ⟨by omega, ?_⟩
        simp only [if_pos q]
        by_cases h3 : i < n
        · have gb : ¬ nI n ≤ nI i := by rw [le_nI (by omega) (by omega)]; omega
          simp only [if_neg gb, X7_strikesNow_eq hM hf (show 0 < n by omega) (show n ≤ 62 by omega) (show i < 2 ^ 20 by omega), Option.bind_some, ifb]
          by_cases z : lst c kn tn f r n i = true
          · exact ⟨_, _, rfl, by rw [if_pos z], rfl, fun _ => by rw [cnt, if_pos z], rfl⟩
          · exact ⟨_, _, rfl, by rw [if_neg z], rfl, fun _ => by rw [cnt, if_neg z]; rfl, rfl⟩
        · have gb : nI n ≤ nI i := by rw [le_nI (by omega) (by omega)]; omega
          exact ⟨_, _, rfl, by rw [if_pos gb], rfl, fun z => absurd z (by omega), rfl⟩
      · simp only [if_neg q]
        exact Or.inl ⟨(nI i, rx), (nI i, rm), rfl, rfl, rfl, hR⟩
    · have ga : nI n < nI i := by rw [nI_ltI (by omega) (by omega)]; omega
      exact Or.inl ⟨(-1, rx), (-1, rm), by simp only [f_X6_until_L42, if_pos ga], by simp only [f_X7_until_L21, h2, if_pos ga], rfl, hR⟩
  · simp only [g, if_false]; exact no2 hR
end C
