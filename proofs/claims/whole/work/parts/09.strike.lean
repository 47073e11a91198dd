-- PURE: what a law does at a step, of the class and of the reference
def stk (k a : Nat) (r : Int64) (n t : Nat) : Bool :=
  if k = 1 then decide (a + 1 ≤ t) && bt r ((t - (a + 1)) % n)
  else if k = 2 then decide (a ≤ t) && decide (∀ i, i < a + 1 → (!bt r ((t - i) % n)) = true)
  else if k = 3 then decide (a + 2 ≤ t) && bt r ((t - (a + 2)) % n)
  else if k = 4 then !bt r (t % n) && decide ((t / n * cnt (bt r) 64 + cnt (bt r) (t % n)) % (a + 1) = 0)
  else if k = 5 then decide (t % (a + 2) = 0)
  else !bt r (t % n)
theorem X2_isThere_eq (c : Int32) (v : Int32) : f_X2_isThere c v = some (b2 (wi v (nI 0) (c - nI 1))) := by
  simp only [f_X2_isThere, X6_isWithin_eq, Option.bind_some]
theorem X6_elementOf_eq {n : Nat} (hn : n < 2 ^ 31) {f : Nat → Int32} {i : Nat} (hi : i < n) (d : Int32) : f_X6_elementOf n f (nI i) d = some (f i) := by
  have h1 : ¬ nI i < nI 0 := nI_nneg (by omega)
  have h2 : ¬ nI n ≤ nI i := by rw [nI_leI (by omega) (by omega)]; omega
  have h3 : ¬ n ≤ i := by omega
  simp [f_X6_elementOf, h1, h2, xout_nI (show i < 2 ^ 31 by omega), h3, xat_nI (show i < 2 ^ 31 by omega)]
theorem X2_kindOf_eq {f : Nat → Int32} {i : Nat} (hi : i < 6) : f_X2_kindOf f (nI i) = some (f i) := by
  simp only [f_X2_kindOf, X6_elementOf_eq (show 6 < 2 ^ 31 by omega) hi, Option.bind_some]
theorem X2_tuneOf_eq {f : Nat → Int32} {i : Nat} (hi : i < 6) : f_X2_tuneOf f (nI i) = some (f i) := by
  simp only [f_X2_tuneOf, X6_elementOf_eq (show 6 < 2 ^ 31 by omega) hi, Option.bind_some]
theorem mod_lt' {t n : Nat} (hn : 0 < n) : t % n < n := Nat.mod_lt t hn
theorem X2_isStrokeAt_eq {r : Int64} {n t : Nat} (h0 : 0 < n) (hn : n ≤ 64) (ht : t < 2 ^ 30) : f_X2_isStrokeAt r (nI n) (nI t) = some (b2 (bt r (t % n))) := by
  have h1 : ¬ nI n ≤ nI 0 := by rw [nI_leI (by omega) (by omega)]; omega
  have h2 : ¬ nI t < nI 0 := nI_nneg (by omega)
  have h3 : ¬ nI n = nI 0 := by rw [nI_e0 (by omega)]; omega
  have h4 := mod_lt' (t := t) h0
  simp only [f_X2_isStrokeAt, if_neg h1, if_neg h2, if_neg h3, xrem_nI (show t < 2 ^ 31 by omega) h0 (by omega), X6_isIn_eq (show t % n < 64 by omega), Option.bind_some, b2_0]
  cases bt r (t % n) <;> simp [b2]
theorem X2_isStrokeAt_neg {r : Int64} {n : Nat} {x : Int32} (h0 : 0 < n) (hn : n ≤ 64) (hx : x < nI 0) : f_X2_isStrokeAt r (nI n) x = some (nI 0) := by
  have h1 : ¬ nI n ≤ nI 0 := by rw [nI_leI (by omega) (by omega)]; omega
  simp only [f_X2_isStrokeAt, if_neg h1, if_pos hx]
theorem X2_isGapAt_eq {r : Int64} {n t : Nat} (h0 : 0 < n) (hn : n ≤ 64) (ht : t < 2 ^ 30) : f_X2_isGapAt r (nI n) (nI t) = some (b2 (!bt r (t % n))) := by
  have h1 : ¬ nI n ≤ nI 0 := by rw [nI_leI (by omega) (by omega)]; omega
  have h2 : ¬ nI t < nI 0 := nI_nneg (by omega)
  have h3 : ¬ nI n = nI 0 := by rw [nI_e0 (by omega)]; omega
  have h4 := mod_lt' (t := t) h0
  simp only [f_X2_isGapAt, if_neg h1, if_neg h2, if_neg h3, xrem_nI (show t < 2 ^ 31 by omega) h0 (by omega), X6_isIn_eq (show t % n < 64 by omega), Option.bind_some, b2_0]
  cases bt r (t % n) <;> simp [b2]
theorem X7_isStroke_eq {r : Int64} {n t : Nat} (h0 : 0 < n) (hn : n ≤ 64) (ht : t < 2 ^ 30) : f_X7_isStroke r (nI n) (nI t) = some (b2 (bt r (t % n))) := by
  have h2 : ¬ nI t < nI 0 := nI_nneg (by omega)
  have h3 : ¬ nI n = nI 0 := by rw [nI_e0 (by omega)]; omega
  have h4 := mod_lt' (t := t) h0
  simp only [f_X7_isStroke, if_neg h2, if_neg h3, xrem_nI (show t < 2 ^ 31 by omega) h0 (by omega), X7_has_eq (show t % n < 64 by omega), Option.bind_some, b2_0]
  cases bt r (t % n) <;> simp [b2]
theorem X7_isStroke_neg {r : Int64} {n : Nat} {x : Int32} (hx : x < nI 0) : f_X7_isStroke r (nI n) x = some (nI 0) := by
  simp only [f_X7_isStroke, if_pos hx]
theorem nI_5 {x n : Nat} (h : n ≤ 5) (hx : x ≤ 5) : nI n = nI x ↔ n = x := nI_eq (by omega) (by omega)
theorem all_rev {p : Nat → Bool} {a t : Nat} (h : a ≤ t) : (∀ i, i < a + 1 → p (t - a + i) = true) ↔ ∀ i, i < a + 1 → p (t - i) = true := by
  constructor
  · intro q i hi
    have := q (a - i) (by omega)
    rwa [show t - a + (a - i) = t - i by omega] at this
  · intro q i hi
    have := q (a - i) (by omega)
    rwa [show t - (a - i) = t - a + i by omega] at this
theorem X2_areGaps_eq {r : Int64} {n t a : Nat} (h0 : 0 < n) (hn : n ≤ 64) (ht : t < 2 ^ 30) (ha : a ≤ 9) (hat : a ≤ t) : f_X2_areGaps r (nI n) (nI t - nI a) (nI t) = some (b2 (decide (∀ i, i < a + 1 → (!bt r ((t - i) % n)) = true))) := by
  have h1 : ¬ nI n ≤ nI 0 := by rw [nI_leI (by omega) (by omega)]; omega
  have h3 : ¬ nI n = nI 0 := by rw [nI_e0 (by omega)]; omega
  have h5 : nI 0 ≤ nI (t - a) := nI_le (by omega) (by omega)
  rw [nI_dif hat]
  simp only [f_X2_areGaps, if_neg h1, if_pos h5]
  rw [xl_all (st := fun i => nI (t - a + i)) (p := fun i => !bt r ((t - a + i) % n)) (N := a + 1) (v0 := nI 0) (v1 := nI 1) (s0 := nI (t - a)) rfl (by omega)]
  · have e := all_rev (p := fun j => !bt r (j % n)) hat
    by_cases q : ∀ i, i < a + 1 → (!bt r ((t - a + i) % n)) = true
    · rw [if_pos q, decide_eq_true (e.mp q)]; rfl
    · rw [if_neg q, decide_eq_false (fun z => q (e.mpr z))]; rfl
  · intro i hi hp
    have g1 : ¬ nI t < nI (t - a + i) := by rw [nI_ltI (by omega) (by omega)]; omega
    have h4 := mod_lt' (t := t - a + i) h0
    simp only [f_X2_areGaps_L13, if_neg g1, if_neg h3, xrem_nI (show t - a + i < 2 ^ 31 by omega) h0 (by omega), X6_isIn_eq (show (t - a + i) % n < 64 by omega), Option.bind_some, b2_0]
    simp at hp
    simp [hp, nI_add, Nat.add_assoc]
  · intro i hi hp
    have g1 : ¬ nI t < nI (t - a + i) := by rw [nI_ltI (by omega) (by omega)]; omega
    have h4 := mod_lt' (t := t - a + i) h0
    simp only [f_X2_areGaps_L13, if_neg g1, if_neg h3, xrem_nI (show t - a + i < 2 ^ 31 by omega) h0 (by omega), X6_isIn_eq (show (t - a + i) % n < 64 by omega), Option.bind_some, b2_0]
    simp at hp
    simp [hp]
  · have g1 : nI t < nI (t - a + (a + 1)) := by rw [nI_ltI (by omega) (by omega)]; omega
    simp only [f_X2_areGaps_L13, if_pos g1]
theorem X2_areGaps_neg {r : Int64} {n t a : Nat} (h0 : 0 < n) (hn : n ≤ 64) (ha : a ≤ 9) (hat : t < a) : f_X2_areGaps r (nI n) (nI t - nI a) (nI t) = some (nI 0) := by
  have h1 : ¬ nI n ≤ nI 0 := by rw [nI_leI (by omega) (by omega)]; omega
  have h5 : ¬ nI 0 ≤ nI t - nI a := fun h => (nlt_le.mpr h) (nI_neg (by omega) hat)
  simp only [f_X2_areGaps, if_neg h1, if_neg h5]
theorem cnt_fb (x : Int64) {n : Nat} (hn : n ≤ 62) : cnt (bt (x &&& fb n)) 64 = cnt (bt x) n := cnt_ext (by omega) (fun i hi => by rw [bt_and, bt_fb hn, Bool.and_comm])
theorem X2_strokesAhead_eq {r : Int64} {n t : Nat} (h0 : 0 < n) (hn : n ≤ 62) (ht : t < 2 ^ 20) : f_X2_strokesAhead r (nI n) (nI t) = some (nI (t / n * cnt (bt r) 64 + cnt (bt r) (t % n))) := by
  have h1 : ¬ nI n ≤ nI 0 := by rw [nI_leI (by omega) (by omega)]; omega
  have h2 : nI 0 ≤ nI t := nI_le (by omega) (by omega)
  have h3 : ¬ nI n = nI 0 := by rw [nI_e0 (by omega)]; omega
  have h4 := mod_lt' (t := t) h0
  have e := cnt_fb r (n := t % n) (by omega)
  simp only [f_X2_strokesAhead, if_neg h1, if_pos h2, if_neg h3, xrem_nI (show t < 2 ^ 31 by omega) h0 (by omega), f_X6_firstBits, bitCount_eq, Option.bind_some, pk_div (show t < 2 ^ 31 by omega) h0 (show n < 2 ^ 31 by omega), nI_add, pk_mul]
  unfold fb at e
  rw [e]
theorem X7_strokes_eq {r : Int64} {n t : Nat} (h0 : 0 < n) (hn : n ≤ 62) (ht : t < 2 ^ 20) : f_X7_strokes r (nI n) (nI t) = some (nI (t / n * cnt (bt r) 64 + cnt (bt r) (t % n))) := by
  have h3 : ¬ nI n = nI 0 := by rw [nI_e0 (by omega)]; omega
  have h4 := mod_lt' (t := t) h0
  have e := cnt_fb r (n := t % n) (by omega)
  simp only [f_X7_strokes, if_neg h3, xrem_nI (show t < 2 ^ 31 by omega) h0 (by omega), bitCount_eq, Option.bind_some, pk_div (show t < 2 ^ 31 by omega) h0 (show n < 2 ^ 31 by omega), nI_add, pk_mul]
  unfold fb at e
  rw [e]
theorem X6_isMultiple_eq {v d : Nat} (hv : v < 2 ^ 31) (h0 : 0 < d) (hd : d < 2 ^ 31) : f_X6_isMultiple (nI v) (nI d) = some (b2 (decide (v % d = 0))) := by
  have h1 : ¬ nI d ≤ nI 0 := by rw [nI_leI (by omega) (by omega)]; omega
  have h3 : ¬ nI d = nI 0 := by rw [nI_e0 (by omega)]; omega
  have h4 := mod_lt' (t := v) h0
  simp only [f_X6_isMultiple, if_neg h1, if_neg h3, xrem_nI hv h0 hd, nI_e0 (show v % d < 2 ^ 31 by omega)]
  by_cases h : v % d = 0 <;> simp [h, b2]
theorem sum_lt {r : Int64} {n t : Nat} (h0 : 0 < n) (hn : n ≤ 62) (ht : t < 2 ^ 20) : t / n * cnt (bt r) 64 + cnt (bt r) (t % n) < 2 ^ 31 := by
  have h1 := cnt_le (bt r) 64
  have h2 := cnt_le (bt r) (t % n)
  have h4 := mod_lt' (t := t) h0
  have h5 : t / n * cnt (bt r) 64 ≤ 2 ^ 20 * 64 := Nat.mul_le_mul (Nat.le_trans (Nat.div_le_self _ _) (by omega)) h1
  omega
theorem X2_strikesAt_eq {c l k a n t : Nat} {kinds tunes : Nat → Int32} {r : Int64} (hc : c ≤ 6) (hl : l < c) (hk : kinds l = nI k) (ha : tunes l = nI a) (hk5 : k ≤ 5) (ha9 : a ≤ 9) (h0 : 0 < n) (hn : n ≤ 62) (ht : t < 2 ^ 20) :
    f_X2_strikesAt (nI c) kinds tunes (nI l) r (nI n) (nI t) = some (b2 (stk k a r n t)) := by
  have e1 : wi (nI l) (nI 0) (nI c - nI 1) = true := (wi_lt (by omega)).mpr ⟨l, hl, rfl⟩
  simp only [f_X2_strikesAt, X2_isThere_eq, e1, Option.bind_some, b2_0, X2_kindOf_eq (show l < 6 by omega), X2_tuneOf_eq (show l < 6 by omega), hk, ha, nI_5 hk5 (show 1 ≤ 5 by omega), nI_5 hk5 (show 2 ≤ 5 by omega), nI_5 hk5 (show 3 ≤ 5 by omega), nI_5 hk5 (show 4 ≤ 5 by omega), nI_5 hk5 (show 5 ≤ 5 by omega), Bool.true_eq_false, if_false]
  unfold stk
  rcases (show k = 0 ∨ k = 1 ∨ k = 2 ∨ k = 3 ∨ k = 4 ∨ k = 5 by omega) with rfl | rfl | rfl | rfl | rfl | rfl
  · simp [X2_isGapAt_eq h0 (show n ≤ 64 by omega) (show t < 2 ^ 30 by omega)]
  · have z : ¬ nI 1 = nI 3 := by decide
    simp only [f_X2_stepsLookedAhead, if_neg z, Option.bind_some, nI_add, if_true]
    by_cases h : a + 1 ≤ t
    · rw [nI_dif h, X2_isStrokeAt_eq h0 (by omega) (by omega)]; simp [h]
    · rw [X2_isStrokeAt_neg h0 (by omega) (nI_neg (by omega) (by omega))]; simp [h, b2]
  · simp only [if_true]
    rw [if_neg (by omega)]
    by_cases h : a ≤ t
    · rw [X2_areGaps_eq h0 (by omega) (by omega) ha9 h]; simp [h]
    · rw [X2_areGaps_neg h0 (by omega) ha9 (by omega)]; simp [h, b2]
  · simp only [f_X2_stepsLookedAhead, if_true, Option.bind_some, nI_add]
    rw [if_neg (by omega), if_neg (by omega)]
    by_cases h : a + 2 ≤ t
    · rw [nI_dif h, X2_isStrokeAt_eq h0 (by omega) (by omega)]; simp [h]
    · rw [X2_isStrokeAt_neg h0 (by omega) (nI_neg (by omega) (by omega))]; simp [h, b2]
  · simp only [if_true]
    rw [if_neg (by omega), if_neg (by omega), if_neg (by omega), X2_isGapAt_eq h0 (by omega) (by omega), X2_strokesAhead_eq h0 hn ht]
    simp only [Option.bind_some, nI_add, X6_isMultiple_eq (sum_lt (r := r) h0 hn ht) (show 0 < a + 1 by omega) (show a + 1 < 2 ^ 31 by omega), b2_0]
    cases bt r (t % n) <;> simp [b2]
    by_cases q : (t / n * cnt (bt r) 64 + cnt (bt r) (t % n)) % (a + 1) = 0 <;> simp [q]
  · simp only [if_true, nI_add]
    rw [if_neg (by omega), if_neg (by omega), if_neg (by omega), if_neg (by omega), X6_isMultiple_eq (by omega) (by omega) (by omega)]
    simp
theorem X7_strikesAt_eq {l k a n t : Nat} {kind own : Nat → Int32} {r : Int64} (hl : l < 6) (hk : kind l = nI k) (ha : own l = nI a) (hk5 : k ≤ 5) (ha9 : a ≤ 9) (h0 : 0 < n) (hn : n ≤ 62) (ht : t < 2 ^ 20) :
    f_X7_strikesAt kind own (nI l) r (nI n) (nI t) = some (b2 (stk k a r n t)) := by
  have e1 : ¬ (6 ≤ l) := by omega
  simp only [f_X7_strikesAt, xout_nI (show l < 2 ^ 31 by omega), decide_eq_false e1, xat_nI (show l < 2 ^ 31 by omega), hk, ha, nI_5 hk5 (show 1 ≤ 5 by omega), nI_5 hk5 (show 2 ≤ 5 by omega), nI_5 hk5 (show 3 ≤ 5 by omega), nI_5 hk5 (show 4 ≤ 5 by omega), nI_5 hk5 (show 5 ≤ 5 by omega), Bool.false_eq_true, if_false, nI_subsub, nI_add]
  unfold stk
  rcases (show k = 0 ∨ k = 1 ∨ k = 2 ∨ k = 3 ∨ k = 4 ∨ k = 5 by omega) with rfl | rfl | rfl | rfl | rfl | rfl
  · simp only [X7_isStroke_eq h0 (show n ≤ 64 by omega) (show t < 2 ^ 30 by omega), Option.bind_some, b2_0]
    cases bt r (t % n) <;> simp [b2]
  · simp only [if_true]
    by_cases h : a + 1 ≤ t
    · rw [nI_dif h, X7_isStroke_eq h0 (by omega) (by omega)]; simp [h]
    · rw [X7_isStroke_neg (nI_neg (by omega) (by omega))]; simp [h, b2]
  · simp (decide := true) only [if_true, if_false]
    by_cases h : a ≤ t
    · rw [if_pos ((nI_leI (by omega) (by omega)).mpr h)]
      rw [xl_all (st := fun i => nI i) (p := fun i => !bt r ((t - i) % n)) (N := a + 1) (v0 := nI 0) (v1 := nI 1) (s0 := nI 0) rfl (by omega)]
      · by_cases q : ∀ i, i < a + 1 → (!bt r ((t - i) % n)) = true
        · rw [if_pos q, decide_eq_true q]; simp [h, b2]
        · rw [if_neg q, decide_eq_false q]; simp [b2]
      · intro i hi hp
        have g1 : ¬ nI a < nI i := by rw [nI_ltI (by omega) (by omega)]; omega
        simp only [f_X7_strikesAt_L88, if_neg g1, nI_dif (show i ≤ t by omega), X7_isStroke_eq h0 (show n ≤ 64 by omega) (show t - i < 2 ^ 30 by omega), Option.bind_some, b2_0]
        simp at hp
        simp [hp, nI_add]
      · intro i hi hp
        have g1 : ¬ nI a < nI i := by rw [nI_ltI (by omega) (by omega)]; omega
        simp only [f_X7_strikesAt_L88, if_neg g1, nI_dif (show i ≤ t by omega), X7_isStroke_eq h0 (show n ≤ 64 by omega) (show t - i < 2 ^ 30 by omega), Option.bind_some, b2_0]
        simp at hp
        simp [hp]
      · have g1 : nI a < nI (a + 1) := by rw [nI_ltI (by omega) (by omega)]; omega
        simp only [f_X7_strikesAt_L88, if_pos g1]
    · rw [if_neg (fun q => h ((nI_leI (by omega) (by omega)).mp q))]
      simp [h, b2]
  · simp (decide := true) only [if_true, if_false]
    by_cases h : a + 2 ≤ t
    · rw [nI_dif h, X7_isStroke_eq h0 (by omega) (by omega)]; simp [h]
    · rw [X7_isStroke_neg (nI_neg (by omega) (by omega))]; simp [h, b2]
  · have z : ¬ nI (a + 1) = nI 0 := by rw [nI_e0 (by omega)]; omega
    have q := sum_lt (r := r) h0 hn ht
    have q2 := Nat.mod_le (t / n * cnt (bt r) 64 + cnt (bt r) (t % n)) (a + 1)
    simp (decide := true) only [if_true, if_false]
    simp only [X7_isStroke_eq h0 (show n ≤ 64 by omega) (show t < 2 ^ 30 by omega), X7_strokes_eq h0 hn ht, Option.bind_some, if_neg z, xrem_nI q (show 0 < a + 1 by omega) (show a + 1 < 2 ^ 31 by omega), b2_0, nI_e0 (Nat.lt_of_le_of_lt q2 q)]
    cases bt r (t % n) <;> simp [b2]
    by_cases q : (t / n * cnt (bt r) 64 + cnt (bt r) (t % n)) % (a + 1) = 0 <;> simp [q]
  · have z : ¬ nI (a + 2) = nI 0 := by rw [nI_e0 (by omega)]; omega
    have q2 := Nat.mod_le t (a + 2)
    simp (decide := true) only [if_true, if_false]
    simp only [if_neg z, xrem_nI (show t < 2 ^ 31 by omega) (show 0 < a + 2 by omega) (show a + 2 < 2 ^ 31 by omega), nI_e0 (show t % (a + 2) < 2 ^ 31 by omega)]
    by_cases q : t % (a + 2) = 0 <;> simp [q, b2]
