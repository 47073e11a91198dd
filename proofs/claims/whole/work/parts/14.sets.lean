-- PURE: sets as bits, laws beside one another
theorem shl_nI {c : Nat} (hc : c ≤ 12) : xshl (nI 1) (nI c) = nI (2 ^ c) := by
  have : ∀ c, c ≤ 12 → xshl (nI 1) (nI c) = nI (2 ^ c) := by decide +kernel
  exact this c hc
theorem ushr_nI {v c : Nat} (hv : v < 2 ^ 31) (hc : c ≤ 12) : xushr (nI v) (nI c) = nI (v / 2 ^ c) := by
  refine pk_ushrN (by omega) (nI c) c ?_
  have : ∀ c, c ≤ 12 → (((nI c).toUInt32 &&& Int32.toUInt32 31).toBitVec % 32).toNat = c := by decide +kernel
  exact this c hc
theorem two_le {c : Nat} (hc : c ≤ 12) : 2 ^ c ≤ 4096 := Nat.pow_le_pow_right (by decide) hc
def isS (p : Int32) (c : Nat) : Bool := !decide (p < nI 0) && !decide (nI (2 ^ c) ≤ p)
theorem isS_iff {p : Int32} {c : Nat} (hc : c ≤ 12) : isS p c = true ↔ ∃ v, v < 2 ^ c ∧ p = nI v := by
  have h2 := two_le hc
  unfold isS
  simp only [Bool.and_eq_true, Bool.not_eq_true', decide_eq_false_iff_not]
  constructor
  · intro ⟨h1, h3⟩
    obtain ⟨j, hj, rfl⟩ := nI_of h1
    rw [le_nI (by omega) (by omega)] at h3
    exact ⟨j, by omega, rfl⟩
  · rintro ⟨v, hv, rfl⟩
    refine ⟨nI_nneg (by omega), ?_⟩
    rw [le_nI (by omega) (by omega)]; omega
theorem X6_isSetOf_eq {p : Int32} {c : Nat} (hc : c ≤ 12) : f_X6_isSetOf p (nI c) = some (b2 (isS p c)) := by
  have h2 := two_le hc
  unfold f_X6_isSetOf isS
  by_cases h : p < nI 0
  · simp [h, b2]
  · obtain ⟨j, hj, rfl⟩ := nI_of h
    simp only [if_neg h, ushr_nI hj hc, nI_e0 (show j / 2 ^ c < 2 ^ 31 from Nat.lt_of_le_of_lt (Nat.div_le_self _ _) hj), le_nI (show 2 ^ c < 2 ^ 31 by omega) hj, Nat.div_eq_zero_iff]
    have h3 : 2 ^ c ≠ 0 := by have := Nat.two_pow_pos c; omega
    by_cases q : j < 2 ^ c
    · simp [h, q, h3, b2]
    · simp [h, q, h3, b2, Nat.not_lt.mp q]
theorem X7_isSet_eq {p : Int32} {c : Nat} (hc : c ≤ 12) : f_X7_isSet (nI c) p = some (b2 (isS p c)) := by
  unfold f_X7_isSet isS
  rw [shl_nI hc]
  by_cases h : p < nI 0 <;> by_cases q : nI (2 ^ c) ≤ p <;> simp [h, q, b2]
theorem X6_areTried_eq {p q : Int32} : f_X6_areTriedSteps p q = some (b2 (wi p (nI 1) (nI 12) && isS q (p.toNatClampNeg))) := by
  unfold f_X6_areTriedSteps
  simp only [X6_isWithin_eq, Option.bind_some, ifb]
  by_cases g : wi p (nI 1) (nI 12) = true
  · obtain ⟨n, h1, h2, rfl⟩ := (wi_nI (by omega) (by omega)).mp g
    simp only [g, if_true, X6_isSetOf_eq h2, Option.bind_some, ifb, nI_clamp (show n < 2 ^ 31 by omega), Bool.true_and]
    cases isS q n <;> rfl
  · simp only [g, if_false]; rfl
theorem X7_isPlan_eq {p q : Int32} : f_X7_isPlan p q = some (b2 (wi p (nI 1) (nI 12) && isS q (p.toNatClampNeg))) := by
  unfold f_X7_isPlan
  simp only [X7_within_eq, Option.bind_some, ifb]
  by_cases g : wi p (nI 1) (nI 12) = true
  · obtain ⟨n, h1, h2, rfl⟩ := (wi_nI (by omega) (by omega)).mp g
    simp only [g, if_true, shl_nI h2, nI_clamp (show n < 2 ^ 31 by omega), Bool.true_and]
    unfold isS
    by_cases h : q < nI 0 <;> by_cases h3 : nI (2 ^ n) ≤ q <;> simp [h, h3, b2]
  · simp only [g, if_false]; rfl
theorem nI_L {v : Nat} (h : v < 2 ^ 31) : Int32.toInt64 (nI v) = lN v := nI_l h
theorem ROk_lN {v n : Nat} (hv : v < 2 ^ n) (hn : n ≤ 12) : ROk n (lN v) := by
  intro i hi
  by_cases h : i < 64
  · rw [bt_lN i h]; exact Nat.testBit_lt_two_pow (Nat.lt_of_lt_of_le hv (Nat.pow_le_pow_right (by decide) hi))
  · exact bt_big (by omega)
theorem bI_lN {v n : Nat} (hv : v < 2 ^ n) (hn : n ≤ 12) : lN v = bI (bt (lN v)) n := bI_of (by omega) (fun i hi => by
  by_cases h : i < n
  · simp [h]
  · simp [h, ROk_lN hv hn i (by omega)])
theorem bc_all : (List.range 4096).all (fun v => f_J6_bitCount_0f7a4 (nI v) == some (nI (cnt v.testBit 12))) = true := by decide +kernel
theorem bc_eq {v : Nat} (h : v < 4096) : f_J6_bitCount_0f7a4 (nI v) = some (nI (cnt v.testBit 12)) := by
  have := List.all_eq_true.mp bc_all v (List.mem_range.mpr h)
  exact eq_of_beq this
theorem bc_le {v n : Nat} (hv : v < 2 ^ n) (hn : n ≤ 12) : cnt v.testBit 12 ≤ n := by
  rw [cnt_ext (q := v.testBit) hn (fun i hi => ?_)]
  · exact cnt_le _ n
  · by_cases h : i < n
    · simp [h]
    · simp [h]
      exact Nat.testBit_lt_two_pow (Nat.lt_of_lt_of_le hv (Nat.pow_le_pow_right (by decide) (by omega)))
section D
variable {c f d n : Nat} {kn tn : Nat → Nat} {kx tx km tm rx rm : Nat → Int32} {r : Int64}
theorem e_sameAs (hX : LwX c kn tn kx tx) (hM : LwX c kn tn km tm) (hn : n ≤ 40) (hR : RR rx rm) (p1 : Int32) : Pub (f_X6_sameAs r (nI n) (nI c) kx tx rx p1) (f_X7_sameAs (nI c) r (nI n) km tm rm p1) := by
  have hc := hX.1
  simp only [f_X6_sameAs, f_X7_sameAs, X2_isThere_eq, X7_isLaw_eq, Option.bind_some, ifb]
  by_cases g : wi p1 (nI 0) (nI c - nI 1) = true
  · obtain ⟨l, hl, rfl⟩ := (wi_lt (by omega)).mp g
    simp only [g, if_true, X0_struck_eq hX (show l < 2 ^ 30 by omega) (show n ≤ 62 by omega), Option.bind_some]
    refine pub_of (xl_pair (fun i s t => s = t ∧ s.2 = nI i) _ c (by omega) ⟨rfl, rfl⟩ (fun i s t hi hI => ?_))
    obtain ⟨rfl, hs⟩ := hI
    by_cases h : i < c
    · have ga : ¬ nI c ≤ nI i := by rw [le_nI (by omega) (by omega)]; omega
      refine Or.inr ⟨h, ?_⟩
      simp only [f_X6_sameAs_L43, f_X7_sameAs_L19, hs, if_neg ga, X0_struck_eq hX (show i < 2 ^ 30 by omega) (show n ≤ 62 by omega), X7_struckBits_eq hM h (show n ≤ 62 by omega), X7_struckBits_eq hM hl (show n ≤ 62 by omega), Option.bind_some, nI_add]
      by_cases q : xcmp (bI (lst c kn tn i r n) n) (bI (lst c kn tn l r n) n) = nI 0
      · exact ⟨_, _, by rw [if_pos q], by rw [if_pos q], rfl, rfl⟩
      · exact ⟨_, _, by rw [if_neg q], by rw [if_neg q], rfl, rfl⟩
    · have ga : nI c ≤ nI i := by rw [le_nI (by omega) (by omega)]; omega
      exact Or.inl ⟨(s.1, rx), (s.1, rm), by simp only [f_X6_sameAs_L43, hs, if_pos ga], by simp only [f_X7_sameAs_L19, hs, if_pos ga], rfl, hR⟩
  · simp only [g, if_false]; exact no2 hR
theorem e_common (hX : LwX c kn tn kx tx) (hM : LwX c kn tn km tm) (hn : n ≤ 40) (hR : RR rx rm) (p1 : Int32) : Pub (f_X6_common r (nI n) (nI c) kx tx rx p1) (f_X7_common (nI c) r (nI n) km tm rm p1) := by
  have hc := hX.1
  simp only [f_X6_common, f_X7_common, X6_isSetOf_eq (show c ≤ 12 by omega), X7_isSet_eq (show c ≤ 12 by omega), Option.bind_some, ifb]
  by_cases g : isS p1 c = true
  · obtain ⟨v, hv, rfl⟩ := (isS_iff (by omega)).mp g
    have h2 := two_le (show c ≤ 12 by omega)
    simp only [g, if_true, f_X6_firstBits, Option.bind_some]
    refine pub_of (xl_pair (fun i s t => s = t ∧ s.2 = nI i) _ c (by omega) ⟨rfl, rfl⟩ (fun i s t hi hI => ?_))
    obtain ⟨rfl, hs⟩ := hI
    by_cases h : i < c
    · have ga : ¬ nI c ≤ nI i := by rw [le_nI (by omega) (by omega)]; omega
      refine Or.inr ⟨h, ?_⟩
      simp only [f_X6_common_L38, f_X7_common_L27, hs, if_neg ga, nI_L (show v < 2 ^ 31 by omega), X6_isIn_eq (show i < 64 by omega), X7_has_eq (show i < 64 by omega), X0_struck_eq hX (show i < 2 ^ 30 by omega) (show n ≤ 62 by omega), X7_struckBits_eq hM h (show n ≤ 62 by omega), Option.bind_some, nI_add, ifb]
      by_cases q : bt (lN v) i = true
      · exact ⟨_, _, by rw [if_pos q], by rw [if_pos q], rfl, rfl⟩
      · exact ⟨_, _, by rw [if_neg q], by rw [if_neg q], rfl, rfl⟩
    · have ga : nI c ≤ nI i := by rw [le_nI (by omega) (by omega)]; omega
      exact Or.inl ⟨(nI (cnt (bt s.1) 64), rx), (nI (cnt (bt s.1) 64), rm), by simp only [f_X6_common_L38, hs, if_pos ga, bitCount_eq, Option.bind_some], by simp only [f_X7_common_L27, hs, if_pos ga, bitCount_eq, Option.bind_some], rfl, hR⟩
  · simp only [g, if_false]; exact no2 hR
theorem e_alone (hX : LwX c kn tn kx tx) (hM : LwX c kn tn km tm) (hn : n ≤ 40) (hR : RR rx rm) (p1 : Int32) : Pub (f_X6_alone r (nI n) (nI c) kx tx rx p1) (f_X7_alone (nI c) r (nI n) km tm rm p1) := by
  have hc := hX.1
  simp only [f_X6_alone, f_X7_alone, X2_isThere_eq, X7_isLaw_eq, Option.bind_some, ifb]
  by_cases g : wi p1 (nI 0) (nI c - nI 1) = true
  · obtain ⟨l, hl, rfl⟩ := (wi_lt (by omega)).mp g
    simp only [g, if_true, X0_struck_eq hX (show l < 2 ^ 30 by omega) (show n ≤ 62 by omega), X7_struckBits_eq hM hl (show n ≤ 62 by omega), Option.bind_some]
    refine pub_of (xl_pair (fun i s t => s = t ∧ s.2 = nI i) _ c (by omega) ⟨rfl, rfl⟩ (fun i s t hi hI => ?_))
    obtain ⟨rfl, hs⟩ := hI
    by_cases h : i < c
    · have ga : ¬ nI c ≤ nI i := by rw [le_nI (by omega) (by omega)]; omega
      refine Or.inr ⟨h, ?_⟩
      simp only [f_X6_alone_L40, f_X7_alone_L32, hs, if_neg ga, X0_struck_eq hX (show i < 2 ^ 30 by omega) (show n ≤ 62 by omega), X7_struckBits_eq hM h (show n ≤ 62 by omega), Option.bind_some, nI_add]
      by_cases q : nI i = nI l
      · exact ⟨_, _, by rw [if_pos q], by rw [if_pos q], rfl, rfl⟩
      · exact ⟨_, _, by rw [if_neg q], by rw [if_neg q], rfl, rfl⟩
    · have ga : nI c ≤ nI i := by rw [le_nI (by omega) (by omega)]; omega
      exact Or.inl ⟨(nI (cnt (bt s.1) 64), rx), (nI (cnt (bt s.1) 64), rm), by simp only [f_X6_alone_L40, hs, if_pos ga, bitCount_eq, Option.bind_some], by simp only [f_X7_alone_L32, hs, if_pos ga, bitCount_eq, Option.bind_some], rfl, hR⟩
  · simp only [g, if_false]; exact no2 hR
theorem e_busiest (hX : LwX c kn tn kx tx) (hM : LwX c kn tn km tm) (hn : n ≤ 40) (hR : RR rx rm) : Pub (f_X6_busiest r (nI n) (nI c) kx tx rx) (f_X7_busiest (nI c) r (nI n) km tm rm) := by
  have hc := hX.1
  simp only [f_X6_busiest, f_X7_busiest]
  by_cases g : nI c = nI 0
  · simp only [g, if_true]; exact no5 hR
  · have g0 : c ≠ 0 := by rwa [nI_e0 (by omega)] at g
    simp only [g, if_false]
    refine pub_of (xl_pair (fun i s t => s = t ∧ s.2 = nI (i + 1) ∧ ∃ b, b < c ∧ s.1 = nI b) _ c (by omega) ⟨rfl, rfl, 0, by omega, rfl⟩ (fun i s t hi hI => ?_))
    obtain ⟨rfl, hs, b, hb, hs1⟩ := hI
    by_cases h : i + 1 < c
    · have ga : ¬ nI c ≤ nI (i + 1) := by rw [le_nI (by omega) (by omega)]; omega
      refine Or.inr ⟨by omega, ?_⟩
      simp only [f_X6_busiest_L24, f_X7_busiest_L18, hs, hs1, if_neg ga, X0_timesStruck_eq hX (show i + 1 < 2 ^ 30 by omega) (show n ≤ 62 by omega), X0_timesStruck_eq hX (show b < 2 ^ 30 by omega) (show n ≤ 62 by omega), X7_struck_eq hM h (show n ≤ 62 by omega), X7_struck_eq hM hb (show n ≤ 62 by omega), Option.bind_some, nI_add]
      by_cases q : nI (cnt (lst c kn tn (i + 1) r n) n) ≤ nI (cnt (lst c kn tn b r n) n)
      · exact ⟨_, _, by rw [if_pos q], by rw [if_pos q], rfl, rfl, b, hb, rfl⟩
      · exact ⟨_, _, by rw [if_neg q], by rw [if_neg q], rfl, rfl, i + 1, h, rfl⟩
    · have ga : nI c ≤ nI (i + 1) := by rw [le_nI (by omega) (by omega)]; omega
      exact Or.inl ⟨(s.1, rx), (s.1, rm), by simp only [f_X6_busiest_L24, hs, if_pos ga], by simp only [f_X7_busiest_L18, hs, if_pos ga], rfl, hR⟩
/-- it strikes just at the told bits -/
def jst (c : Nat) (kn tn : Nat → Nat) (l n v w : Nat) : Bool := decide (∀ i, i < n → (lst c kn tn l (lN v) n i == bt (lN w) i) = true)
theorem X2_just_eq {l v w : Nat} (hX : LwX c kn tn kx tx) (hl : l < 2 ^ 30) (hn : n ≤ 12) (hv : v < 2 ^ n) (hw : w < 2 ^ n) : f_X2_strikesJustAt (nI c) kx tx (nI l) (lN v) (nI n) (nI w) = some (b2 (jst c kn tn l n v w)) := by
  have h2 := two_le hn
  unfold f_X2_strikesJustAt
  rw [xl_all (st := fun i => nI i) (p := fun i => lst c kn tn l (lN v) n i == bt (lN w) i) (N := n) (v0 := nI 0) (v1 := nI 1) (s0 := nI 0) rfl (by omega)]
  · unfold jst
    by_cases q : ∀ i, i < n → (lst c kn tn l (lN v) n i == bt (lN w) i) = true
    · rw [if_pos q, decide_eq_true q]; rfl
    · rw [if_neg q, decide_eq_false q]; rfl
  · intro i hi hp
    have ga : ¬ nI n ≤ nI i := by rw [le_nI (by omega) (by omega)]; omega
    simp only [f_X2_strikesJustAt_L3, if_neg ga, X2_strikesAt_lst hX hl (show 0 < n by omega) (show n ≤ 62 by omega) (show i < 2 ^ 20 by omega), nI_L (show w < 2 ^ 31 by omega), X6_isIn_eq (show i < 64 by omega), Option.bind_some, eq_b2, nI_add]
    rw [if_pos (by simpa using hp)]
  · intro i hi hp
    have ga : ¬ nI n ≤ nI i := by rw [le_nI (by omega) (by omega)]; omega
    simp only [f_X2_strikesJustAt_L3, if_neg ga, X2_strikesAt_lst hX hl (show 0 < n by omega) (show n ≤ 62 by omega) (show i < 2 ^ 20 by omega), nI_L (show w < 2 ^ 31 by omega), X6_isIn_eq (show i < 64 by omega), Option.bind_some, eq_b2, nI_add]
    rw [if_neg (by simpa using hp)]
  · have ga : nI n ≤ nI n := by rw [le_nI (by omega) (by omega)]; omega
    simp only [f_X2_strikesJustAt_L3, if_pos ga]
theorem jst_iff {l v w : Nat} (hn : n ≤ 12) (hw : w < 2 ^ n) : xcmp (bI (lst c kn tn l (lN v) n) n) (lN w) = nI 0 ↔ jst c kn tn l n v w = true := by
  rw [xcmp_0, bI_lN hw hn, bI_eq (by omega)]
  unfold jst
  rw [decide_eq_true_iff]
  constructor
  · intro h i hi; have := h i hi; simpa using this
  · intro h i hi; have := h i hi; simpa using this
theorem nI_nm1 {v : Nat} (h : v < 2 ^ 31) : ¬ nI v = (-1 : Int32) := fun q => by
  have := nI_nneg h
  rw [q] at this
  exact this m1_nI
/-- what is looked for: nothing yet, or a ring with its strokes -/
def BX (n : Nat) (b fw : Int32) : Prop := (b = -1 ∧ fw = nI (n + 1)) ∨ ∃ v, v < 2 ^ n ∧ b = nI v ∧ fw = nI (cnt v.testBit 12)
theorem plan_eq {l w : Nat} (hX : LwX c kn tn kx tx) (hM : LwX c kn tn km tm) (hl : l < c) (h0 : 0 < n) (hn : n ≤ 12) (hw : w < 2 ^ n) : ∃ z fw, BX n z fw ∧ f_X2_leastRingStruckAt (nI c) kx tx (nI l) (nI n) (nI w) = some z ∧ f_X7_planBy km tm (nI l) (nI n) (nI w) = some z := by
  have hc := hX.1
  have h2 := two_le hn
  have key := xl_pair (bx := f_X2_leastRingStruckAt_L11 (nI c) kx tx (nI l) (nI n) (nI w)) (bm := f_X7_planBy_L6 km tm (nI l) (nI n) (nI w)) (fun i s t => s.1 = t.1 ∧ s.2.2 = nI i ∧ t.2 = nI i ∧ BX n s.1 s.2.1) (fun x y => x = y ∧ ∃ fw, BX n x fw) (2 ^ n) (s0 := (-1, nI n + nI 1, nI 0)) (t0 := (-1, nI 0)) (by omega) ⟨rfl, rfl, rfl, Or.inl ⟨rfl, by rw [nI_add]⟩⟩ (fun i s t hi hI => ?_)
  · obtain ⟨a, b, q1, q2, rfl, fw, q3⟩ := key
    exact ⟨a, fw, q3, q1, q2⟩
  · obtain ⟨h1, h3, h4, h5⟩ := hI
    by_cases h : i < 2 ^ n
    · have ga : ¬ nI (2 ^ n) ≤ nI i := by rw [le_nI (by omega) (by omega)]; omega
      have hb := bc_le h hn
      refine Or.inr ⟨h, ?_⟩
      have eJ : f_X7_planBy_J33 km tm (nI l) (nI n) (nI w) t = some (.inr (if jst c kn tn l n i w = true then (nI i, nI (i + 1)) else (s.1, nI (i + 1)))) := by
        simp only [f_X7_planBy_J33, h4, ← h1, nI_L (show i < 2 ^ 31 by omega), nI_L (show w < 2 ^ 31 by omega), X7_struckBits_eq hM hl (show n ≤ 62 by omega), Option.bind_some, jst_iff hn hw, nI_add]
        by_cases q : jst c kn tn l n i w = true <;> simp [q]
      have eX : f_X2_leastRingStruckAt_L11 (nI c) kx tx (nI l) (nI n) (nI w) s = some (.inr (if s.2.1 ≤ nI (cnt i.testBit 12) then (s.1, s.2.1, nI (i + 1)) else if jst c kn tn l n i w = true then (nI i, nI (cnt i.testBit 12), nI (i + 1)) else (s.1, s.2.1, nI (i + 1)))) := by
        simp only [f_X2_leastRingStruckAt_L11, h3, shl_nI hn, if_neg ga, bc_eq (show i < 4096 by omega), nI_L (show i < 2 ^ 31 by omega), X2_just_eq hX (show l < 2 ^ 30 by omega) hn h hw, Option.bind_some, ifb, nI_add]
        by_cases q : s.2.1 ≤ nI (cnt i.testBit 12)
        · simp [q]
        · by_cases q2 : jst c kn tn l n i w = true <;> simp [q, q2]
      rw [eX]
      rcases h5 with ⟨e1, e2⟩ | ⟨v, hv, e1, e2⟩
      · have g1 : ¬ s.2.1 ≤ nI (cnt i.testBit 12) := by rw [e2, le_nI (by omega) (by omega)]; omega
        have g2 : t.1 = -1 := by rw [← h1, e1]
        rw [if_neg g1]
        have eM : f_X7_planBy_L6 km tm (nI l) (nI n) (nI w) t = some (.inr (if jst c kn tn l n i w = true then (nI i, nI (i + 1)) else (s.1, nI (i + 1)))) := by
          rw [← eJ]
          simp only [f_X7_planBy_L6, h4, shl_nI hn, if_neg ga, if_pos g2]
        rw [eM]
        refine ⟨_, _, rfl, rfl, ?_⟩
        by_cases q : jst c kn tn l n i w = true
        · simp only [if_pos q]; exact ⟨trivial, trivial, trivial, Or.inr ⟨i, h, rfl, rfl⟩⟩
        · simp only [if_neg q]; exact ⟨trivial, trivial, trivial, Or.inl ⟨e1, e2⟩⟩
      · have hb2 := bc_le hv hn
        have g2 : ¬ t.1 = -1 := by rw [← h1, e1]; exact nI_nm1 (by omega)
        have eM : f_X7_planBy_L6 km tm (nI l) (nI n) (nI w) t = some (.inr (if s.2.1 ≤ nI (cnt i.testBit 12) then (s.1, nI (i + 1)) else if jst c kn tn l n i w = true then (nI i, nI (i + 1)) else (s.1, nI (i + 1)))) := by
          have g3 : ¬ nI v = -1 := nI_nm1 (by omega)
          simp only [f_X7_planBy_L6, h4, shl_nI hn, if_neg ga, eJ, if_neg g2, ← h1, e1, e2, if_neg g3, bc_eq (show i < 4096 by omega), bc_eq (show v < 4096 by omega), Option.bind_some, nI_add]
          by_cases q : nI (cnt v.testBit 12) ≤ nI (cnt i.testBit 12) <;> simp [q]
        rw [eM]
        refine ⟨_, _, rfl, rfl, ?_⟩
        by_cases q0 : s.2.1 ≤ nI (cnt i.testBit 12)
        · simp only [if_pos q0]; exact ⟨trivial, trivial, trivial, Or.inr ⟨v, hv, e1, e2⟩⟩
        · by_cases q : jst c kn tn l n i w = true
          · simp only [if_neg q0, if_pos q]; exact ⟨trivial, trivial, trivial, Or.inr ⟨i, h, rfl, rfl⟩⟩
          · simp only [if_neg q0, if_neg q]; exact ⟨trivial, trivial, trivial, Or.inr ⟨v, hv, e1, e2⟩⟩
    · have e : i = 2 ^ n := by omega
      have ga : nI (2 ^ n) ≤ nI i := by rw [le_nI (by omega) (by omega)]; omega
      exact Or.inl ⟨s.1, t.1, by simp only [f_X2_leastRingStruckAt_L11, h3, shl_nI hn, if_pos ga], by simp only [f_X7_planBy_L6, h4, shl_nI hn, if_pos ga], h1, s.2.1, h5⟩
end D
