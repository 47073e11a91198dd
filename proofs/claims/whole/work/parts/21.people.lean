-- PURE: the people, and what is asked of them
def PpOk (P : Nat) (g : Nat → Nat) (ax am : Nat → Int32) : Prop := P ≤ 10 ∧ ∀ i, i < P → ax i = nI (g i) ∧ am i = nI (g i) ∧ g i ≤ 99
def sg (g : Nat → Nat) (v : Nat) : Nat → Nat
  | 0 => 0
  | k + 1 => sg g v k + (if v.testBit k then g k else 0)
theorem sg_le {g : Nat → Nat} {v : Nat} : ∀ {k : Nat}, (∀ i, i < k → g i ≤ 99) → sg g v k ≤ 99 * k
  | 0, _ => Nat.le_refl 0
  | k + 1, h => by
    have := sg_le (v := v) (k := k) (fun i hi => h i (by omega))
    have h2 := h k (by omega)
    rw [sg]
    split <;> omega
section Q
variable {P c n : Nat} {g kn tn : Nat → Nat} {kx tx km tm ax am rx rm : Nat → Int32}
theorem PpOk.le (h : PpOk P g ax am) (v : Nat) : sg g v P ≤ 990 := by
  have := sg_le (g := g) (v := v) (k := P) (fun i hi => (h.2 i hi).2.2)
  have := h.1
  omega
theorem X3_ageOf_eq {j : Nat} (hj : j < 10) : f_X3_ageOf ax (nI j) = some (ax j) := by
  simp only [f_X3_ageOf, X6_elementOf_eq (show 10 < 2 ^ 31 by omega) hj, Option.bind_some]
theorem agesOf_eq (h : PpOk P g ax am) {v : Nat} (hv : v < 2 ^ 31) : f_X3_agesOf (nI P) ax (nI v) = some (nI (sg g v P)) := by
  have hP := h.1
  unfold f_X3_agesOf
  refine xl_up (st := fun i => (nI (sg g v i), nI i)) P rfl (by omega) (fun i hi => ?_) ?_
  · have ga : ¬ nI P ≤ nI i := by rw [le_nI (by omega) (by omega)]; omega
    simp only [f_X3_agesOf_L4, if_neg ga, X6_isIn_eq (show i < 64 by omega), bt_nI hv (show i < 64 by omega), X3_ageOf_eq (show i < 10 by omega), (h.2 i hi).1, Option.bind_some, ifb, nI_add, sg]
    cases v.testBit i <;> simp
  · have ga : nI P ≤ nI P := by rw [le_nI (by omega) (by omega)]; omega
    simp only [f_X3_agesOf_L4, if_pos ga]
theorem ageOf7_eq (h : PpOk P g ax am) {v : Nat} (hv : v < 2 ^ 31) : f_X7_ageOf (nI P) am (nI v) = some (nI (sg g v P)) := by
  have hP := h.1
  unfold f_X7_ageOf
  refine xl_up (st := fun i => (nI (sg g v i), nI i)) P rfl (by omega) (fun i hi => ?_) ?_
  · have ga : ¬ nI P ≤ nI i := by rw [le_nI (by omega) (by omega)]; omega
    simp only [f_X7_ageOf_L4, if_neg ga, X7_has_eq (show i < 64 by omega), bt_nI hv (show i < 64 by omega), (h.2 i hi).2.1, Option.bind_some, ifb, nI_add, sg, xout_s (show i < 10 by omega) (show 10 < 2 ^ 31 by omega), xat_nI (show i < 2 ^ 31 by omega)]
    cases v.testBit i <;> simp
  · have ga : nI P ≤ nI P := by rw [le_nI (by omega) (by omega)]; omega
    simp only [f_X7_ageOf_L4, if_pos ga]
theorem X3_isThere_eq (a b : Int32) : f_X3_isThere a b = some (b2 (wi b (nI 0) (a - nI 1))) := by simp only [f_X3_isThere, X6_isWithin_eq, Option.bind_some]
theorem X7_isOne_eq (a b : Int32) : f_X7_isOne a b = some (b2 (wi b (nI 0) (a - nI 1))) := by simp only [f_X7_isOne, X7_within_eq, Option.bind_some]
theorem e_lawOf (hX : LwX c kn tn kx tx) (hM : LwX c kn tn km tm) (hR : RR rx rm) (p1 p2 : Int32) : Pub (f_X6_lawOf (nI c) kx tx rx p1 p2) (f_X7_lawOf (nI c) km tm rm p1 p2) := by
  have hc := hX.1
  simp only [f_X6_lawOf, f_X7_lawOf, X2_isThere_eq, X7_isLaw_eq, X6_isWithin_eq, X7_within_eq, Option.bind_some, ifb]
  by_cases g : wi p1 (nI 0) (nI c - nI 1) = true
  · obtain ⟨l, hl, rfl⟩ := (wi_lt (by omega)).mp g
    obtain ⟨a1, a2, -, -⟩ := hX.2 l hl
    obtain ⟨b1, b2', -, -⟩ := hM.2 l hl
    by_cases g2 : wi p2 (nI 0) (nI 1) = true
    · simp only [g, g2, if_true, X2_kindOf_eq (show l < 6 by omega), X2_tuneOf_eq (show l < 6 by omega), a1, a2, Option.bind_some, xout_s (show l < 6 by omega) (show 6 < 2 ^ 31 by omega), xat_nI (show l < 2 ^ 31 by omega), b1, b2']
      by_cases q : p2 = nI 0
      · simp only [if_pos q]; exact pub_v hR _
      · simp only [if_neg q]; exact pub_v hR _
    · simp only [g, g2, if_true, if_false]; exact no2 hR
  · simp only [g, if_false]; exact no2 hR
theorem e_age (h : PpOk P g ax am) (hR : RR rx rm) (p1 : Int32) : Pub (f_X6_age (nI P) ax rx p1) (f_X7_age (nI P) am rm p1) := by
  have hP := h.1
  simp only [f_X6_age, f_X7_age, X3_isThere_eq, X7_isOne_eq, Option.bind_some, ifb]
  by_cases q : wi p1 (nI 0) (nI P - nI 1) = true
  · obtain ⟨l, hl, rfl⟩ := (wi_lt (by omega)).mp q
    simp only [q, if_true, X3_ageOf_eq (show l < 10 by omega), Option.bind_some, xout_s (show l < 10 by omega) (show 10 < 2 ^ 31 by omega), xat_nI (show l < 2 ^ 31 by omega), (h.2 l hl).1, (h.2 l hl).2.1]
    exact pub_v hR _
  · simp only [q, if_false]; exact no2 hR
theorem e_sum (h : PpOk P g ax am) (hR : RR rx rm) (p1 : Int32) : Pub (f_X6_sum (nI P) ax rx p1) (f_X7_sum (nI P) am rm p1) := by
  have hP := h.1
  have h2 := two_le (show P ≤ 12 by omega)
  simp only [f_X6_sum, f_X7_sum, X6_isSetOf_eq (show P ≤ 12 by omega), Option.bind_some, ifb, shl_nI (show P ≤ 12 by omega)]
  by_cases q : isS p1 P = true
  · obtain ⟨v, hv, rfl⟩ := (isS_iff (by omega)).mp q
    have ga : ¬ nI v < nI 0 := nI_nneg (by omega)
    have gb : ¬ nI (2 ^ P) ≤ nI v := by rw [le_nI (by omega) (by omega)]; omega
    simp only [q, if_true, if_neg ga, if_neg gb, agesOf_eq h (show v < 2 ^ 31 by omega), ageOf7_eq h (show v < 2 ^ 31 by omega), Option.bind_some]
    exact pub_v hR _
  · simp only [q, if_false]
    unfold isS at q
    by_cases ga : p1 < nI 0
    · simp only [if_pos ga]; exact no2 hR
    · by_cases gb : nI (2 ^ P) ≤ p1
      · simp only [if_neg ga, if_pos gb]; exact no2 hR
      · exact absurd (by simp [ga, gb]) q
theorem tolls_0 (h : PpOk P g ax am) (p1 : Int32) : ∃ a, f_X3_howManySets (nI P) ax p1 = some a ∧ xloop (f_X7_tolls_L35 (nI P) am rm p1 (nI 0)) xN (nI 0, (-1 : Int32), nI 0) = some (a, rm) := by
  have hP := h.1
  have h2 : 2 ^ P ≤ 1024 := Nat.pow_le_pow_right (n := 2) (by decide) hP
  have hsh := shl_nI (show P ≤ 12 by omega)
  obtain ⟨a, b, q1, q2, q3⟩ := xl_pair (bx := f_X3_howManySets_L4 (nI P) ax p1) (bm := f_X7_tolls_L35 (nI P) am rm p1 (nI 0)) (fun i s t => s.1 = t.1 ∧ s.2 = nI i ∧ t.2.2 = nI i ∧ (t.2.1 = -1 ∨ ∃ b, b < 2 ^ P ∧ t.2.1 = nI b)) (fun a b => b = (a, rm)) (2 ^ P) (s0 := (nI 0, nI 0)) (t0 := (nI 0, (-1 : Int32), nI 0)) (by omega) ⟨rfl, rfl, rfl, Or.inl rfl⟩ (fun i s t hi hI => by
    obtain ⟨e1, e2, e3, e4⟩ := hI
    by_cases z : i < 2 ^ P
    · have ga : ¬ nI (2 ^ P) ≤ nI i := by rw [le_nI (by omega) (by omega)]; omega
      refine Or.inr ⟨z, ?_⟩
      simp only [f_X3_howManySets_L4, f_X7_tolls_L35, e1, e2, e3, hsh, if_neg ga, agesOf_eq h (show i < 2 ^ 31 by omega), ageOf7_eq h (show i < 2 ^ 31 by omega), Option.bind_some, nI_add]
      by_cases y : nI (sg g i P) = p1
      · simp only [if_pos y]
        rcases e4 with e4 | ⟨b, hb, e4⟩
        · rw [if_pos e4]
          exact ⟨_, _, rfl, rfl, rfl, rfl, rfl, Or.inr ⟨i, z, rfl⟩⟩
        · rw [e4, if_neg (nI_nm1 (show b < 2 ^ 31 by omega)), bc_eq (show i < 4096 by omega), bc_eq (show b < 4096 by omega)]
          simp only [Option.bind_some]
          split
          · exact ⟨_, _, rfl, rfl, rfl, rfl, rfl, Or.inr ⟨b, hb, rfl⟩⟩
          · exact ⟨_, _, rfl, rfl, rfl, rfl, rfl, Or.inr ⟨i, z, rfl⟩⟩
      · simp only [if_neg y]
        exact ⟨_, _, rfl, rfl, rfl, rfl, rfl, e4⟩
    · have e : i = 2 ^ P := by omega
      subst e
      have ga : nI (2 ^ P) ≤ nI (2 ^ P) := by rw [le_nI (by omega) (by omega)]; omega
      simp only [f_X3_howManySets_L4, f_X7_tolls_L35, e1, e2, e3, hsh, if_pos ga, if_true]
      exact Or.inl ⟨_, _, rfl, rfl, rfl⟩)
  rw [q3] at q2
  exact ⟨a, q1, q2⟩
theorem BX_i {n v : Nat} (h : v < 2 ^ n) : BX n (nI v) (nI (cnt v.testBit 12)) := Or.inr ⟨v, h, rfl, rfl⟩
theorem BX_0 (n : Nat) : BX n (-1) (nI n + nI 1) := Or.inl ⟨rfl, nI_add _ _⟩
theorem small_L {i ci : Nat} {u s1 s2 p1 : Int32} (hsh : xshl (nI 1) (nI P) = nI (2 ^ P)) (ga : ¬ nI (2 ^ P) ≤ nI i) (bi : f_J6_bitCount_0f7a4 (nI i) = some (nI ci)) (ag : f_X3_agesOf (nI P) ax (nI i) = some u) : f_X3_smallestSet_L12 (nI P) ax p1 (s1, s2, nI i) = if s2 ≤ nI ci then some (.inr (s1, s2, nI i + nI 1)) else if u = p1 then some (.inr (nI i, nI ci, nI i + nI 1)) else some (.inr (s1, s2, nI i + nI 1)) := by
  unfold f_X3_smallestSet_L12
  rw [hsh, if_neg ga, bi, Option.bind_some, ag, Option.bind_some]
theorem tolls7_L {i : Nat} {u t1 t2 p1 p2 : Int32} (hsh : xshl (nI 1) (nI P) = nI (2 ^ P)) (ga : ¬ nI (2 ^ P) ≤ nI i) (ag : f_X7_ageOf (nI P) am (nI i) = some u) : f_X7_tolls_L35 (nI P) am rm p1 p2 (t1, t2, nI i) = if u = p1 then if t2 = -1 then some (.inr (t1 + nI 1, nI i, nI i + nI 1)) else (f_J6_bitCount_0f7a4 (nI i)).bind fun x => (f_J6_bitCount_0f7a4 t2).bind fun y => if y ≤ x then some (.inr (t1 + nI 1, t2, nI i + nI 1)) else some (.inr (t1 + nI 1, nI i, nI i + nI 1)) else some (.inr (t1, t2, nI i + nI 1)) := by
  unfold f_X7_tolls_L35
  rw [hsh, if_neg ga, ag, Option.bind_some]
theorem tolls_step (h : PpOk P g ax am) (p1 p2 : Int32) {i : Nat} (z : i < 2 ^ P) (s t : Int32 × Int32 × Int32) (e1 : s.1 = t.2.1) (e2 : s.2.2 = nI i) (e3 : t.2.2 = nI i) (e4 : BX P s.1 s.2.1) : ∃ s' t', f_X3_smallestSet_L12 (nI P) ax p1 s = some (.inr s') ∧ f_X7_tolls_L35 (nI P) am rm p1 p2 t = some (.inr t') ∧ s'.1 = t'.2.1 ∧ s'.2.2 = nI (i + 1) ∧ t'.2.2 = nI (i + 1) ∧ BX P s'.1 s'.2.1 := by
  have hP := h.1
  have h2 : 2 ^ P ≤ 1024 := Nat.pow_le_pow_right (n := 2) (by decide) hP
  have hsh := shl_nI (show P ≤ 12 by omega)
  have ga : ¬ nI (2 ^ P) ≤ nI i := by rw [le_nI (by omega) (by omega)]; omega
  have hcl := bc_le z (show P ≤ 12 by omega)
  have bi := bc_eq (show i < 4096 by omega)
  have hb := BX_i z
  generalize cnt i.testBit 12 = ci at hcl bi hb
  have ag := agesOf_eq h (show i < 2 ^ 31 by omega)
  have ag7 := ageOf7_eq h (show i < 2 ^ 31 by omega)
  generalize nI (sg g i P) = u at ag ag7
  obtain ⟨s1, s2, s3⟩ := s
  obtain ⟨t1, t2, t3⟩ := t
  simp only at e1 e2 e3 e4
  subst e1 e2 e3
  rw [small_L hsh ga bi ag, tolls7_L hsh ga ag7, nI_add, bi]
  rcases e4 with ⟨f1, f2⟩ | ⟨v, hv, f1, f2⟩
  · have gc : ¬ nI (P + 1) ≤ nI ci := by rw [le_nI (by omega) (by omega)]; omega
    subst f2
    rw [if_neg gc]
    by_cases y : u = p1
    · rw [if_pos y, if_pos y, if_pos f1]
      exact ⟨_, _, rfl, rfl, rfl, rfl, rfl, hb⟩
    · rw [if_neg y, if_neg y]
      exact ⟨_, _, rfl, rfl, rfl, rfl, rfl, Or.inl ⟨f1, rfl⟩⟩
  · have bv := bc_eq (show v < 4096 by omega)
    have hbv := BX_i hv
    subst f1 f2
    generalize cnt v.testBit 12 = cv at bv hbv
    rw [bv, if_neg (nI_nm1 (show v < 2 ^ 31 by omega)), Option.bind_some, Option.bind_some]
    by_cases y : u = p1
    · rw [if_pos y, if_pos y]
      by_cases w : nI cv ≤ nI ci
      · rw [if_pos w, if_pos w]
        exact ⟨_, _, rfl, rfl, rfl, rfl, rfl, hbv⟩
      · rw [if_neg w, if_neg w]
        exact ⟨_, _, rfl, rfl, rfl, rfl, rfl, hb⟩
    · rw [if_neg y, if_neg y]
      by_cases w : nI cv ≤ nI ci
      · rw [if_pos w]
        exact ⟨_, _, rfl, rfl, rfl, rfl, rfl, hbv⟩
      · rw [if_neg w]
        exact ⟨_, _, rfl, rfl, rfl, rfl, rfl, hbv⟩
theorem tolls_1 (h : PpOk P g ax am) (p1 p2 : Int32) (q : ¬ p2 = nI 0) : ∃ a, f_X3_smallestSet (nI P) ax p1 = some a ∧ xloop (f_X7_tolls_L35 (nI P) am rm p1 p2) xN (nI 0, (-1 : Int32), nI 0) = some (a, rm) := by
  have hP := h.1
  have h2 : 2 ^ P ≤ 1024 := Nat.pow_le_pow_right (n := 2) (by decide) hP
  have hsh := shl_nI (show P ≤ 12 by omega)
  obtain ⟨a, b, q1, q2, q3⟩ := xl_pair (bx := f_X3_smallestSet_L12 (nI P) ax p1) (bm := f_X7_tolls_L35 (nI P) am rm p1 p2) (fun i s t => s.1 = t.2.1 ∧ s.2.2 = nI i ∧ t.2.2 = nI i ∧ BX P s.1 s.2.1) (fun a b => b = (a, rm)) (2 ^ P) (s0 := ((-1 : Int32), nI P + nI 1, nI 0)) (t0 := (nI 0, (-1 : Int32), nI 0)) (by omega) ⟨rfl, rfl, rfl, BX_0 P⟩ (fun i s t hi hI => by
    obtain ⟨e1, e2, e3, e4⟩ := hI
    by_cases z : i < 2 ^ P
    · exact Or.inr ⟨z, tolls_step h p1 p2 z s t e1 e2 e3 e4⟩
    · have e : i = 2 ^ P := by omega
      subst e
      have ga : nI (2 ^ P) ≤ nI (2 ^ P) := by rw [le_nI (by omega) (by omega)]; omega
      simp only [f_X3_smallestSet_L12, f_X7_tolls_L35, ← e1, e2, e3, hsh, if_pos ga, if_neg q]
      exact Or.inl ⟨_, _, rfl, rfl, rfl⟩)
  rw [q3] at q2
  exact ⟨a, q1, q2⟩
theorem e_tolls (h : PpOk P g ax am) (hR : RR rx rm) (p1 p2 : Int32) : Pub (f_X6_tolls (nI P) ax rx p1 p2) (f_X7_tolls (nI P) am rm p1 p2) := by
  have hP := h.1
  have h2 : 2 ^ P ≤ 1024 := Nat.pow_le_pow_right (n := 2) (by decide) hP
  have hsh := shl_nI (show P ≤ 12 by omega)
  simp only [f_X6_tolls, f_X7_tolls, X6_isWithin_eq, X7_within_eq, Option.bind_some, ifb]
  by_cases g1 : wi p1 (nI 0) (nI 999) = true
  · by_cases g2 : wi p2 (nI 0) (nI 1) = true
    · simp only [g1, g2, if_true]
      by_cases q : p2 = nI 0
      · subst q
        simp only [if_true]
        obtain ⟨a, q1, q2⟩ := tolls_0 (rm := rm) h p1
        rw [q1, q2]
        exact pub_v hR _
      · simp only [if_neg q]
        obtain ⟨a, q1, q2⟩ := tolls_1 (rm := rm) h p1 p2 q
        rw [q1, q2]
        exact pub_v hR _
    · simp only [g1, g2, if_true, if_false]; exact no2 hR
  · simp only [g1, if_false]; exact no2 hR
theorem abs0 : ∀ u, u < 1000 → xabs (nI 2 * nI 0 - nI u) = nI u := by decide +kernel
theorem sg0 (k : Nat) : sg g 0 k = 0 := by
  induction k with
  | zero => rfl
  | succ k ih => rw [sg, ih, Nat.zero_testBit]; rfl
theorem e_halves (h : PpOk P g ax am) : Alike (f_X6_halves (nI P) ax) (f_X7_halves (nI P) am) := by
  have hP := h.1
  have h2 : 2 ^ P ≤ 1024 := Nat.pow_le_pow_right (n := 2) (by decide) hP
  have h1 : 1 ≤ 2 ^ P := Nat.two_pow_pos P
  have hsh := shl_nI (show P ≤ 12 by omega)
  have hu := h.le (2 ^ P - 1)
  simp only [f_X6_halves, f_X7_halves, f_X3_nearestToHalf, f_X3_agesOfAll, hsh, nI_dif h1, agesOf_eq h (show 2 ^ P - 1 < 2 ^ 31 by omega), ageOf7_eq h (show 2 ^ P - 1 < 2 ^ 31 by omega), Option.bind_some]
  generalize sg g (2 ^ P - 1) P = U at hu
  obtain ⟨a, b, q1, q2, q3⟩ := xl_pair (bx := f_X3_nearestToHalf_L12 (nI P) ax (nI U)) (bm := f_X7_halves_L17 (nI P) am (nI U)) (fun i s t => ∃ v, v < 2 ^ P ∧ s.1 = nI v ∧ t.1 = nI v ∧ s.2.2 = nI (i + 1) ∧ t.2 = nI (i + 1) ∧ s.2.1 = xabs (nI 2 * nI (sg g v P) - nI U)) (fun a b => a = b) (2 ^ P - 1) (s0 := (nI 0, nI U, nI 1)) (t0 := (nI 0, nI 1)) (by omega) ⟨0, by omega, rfl, rfl, rfl, rfl, by rw [sg0, abs0 U (by omega)]⟩ (fun i s t hi hI => by
    obtain ⟨v, hv, e1, e2, e3, e4, e5⟩ := hI
    by_cases z : i < 2 ^ P - 1
    · have ga : ¬ nI (2 ^ P) ≤ nI (i + 1) := by rw [le_nI (by omega) (by omega)]; omega
      refine Or.inr ⟨z, ?_⟩
      simp only [f_X3_nearestToHalf_L12, f_X7_halves_L17, e1, e2, e3, e4, e5, hsh, if_neg ga, agesOf_eq h (show i + 1 < 2 ^ 31 by omega), ageOf7_eq h (show i + 1 < 2 ^ 31 by omega), ageOf7_eq h (show v < 2 ^ 31 by omega), Option.bind_some, nI_add]
      by_cases y : xabs (nI 2 * nI (sg g v P) - nI U) ≤ xabs (nI 2 * nI (sg g (i + 1) P) - nI U)
      · simp only [if_pos y]
        exact ⟨_, _, rfl, rfl, v, hv, rfl, rfl, rfl, rfl, rfl⟩
      · simp only [if_neg y]
        exact ⟨_, _, rfl, rfl, i + 1, by omega, rfl, rfl, rfl, rfl, rfl⟩
    · have ga : nI (2 ^ P) ≤ nI (i + 1) := by rw [le_nI (by omega) (by omega)]; omega
      simp only [f_X3_nearestToHalf_L12, f_X7_halves_L17, e1, e2, e3, e4, hsh, if_pos ga]
      exact Or.inl ⟨_, _, rfl, rfl, rfl⟩)
  subst q3
  exact ⟨a, by rw [q1]; rfl, q2⟩
theorem e_oldest (h : PpOk P g ax am) (hR : RR rx rm) : Pub (f_X6_oldest (nI P) ax rx) (f_X7_oldest (nI P) am rm) := by
  have hP := h.1
  simp only [f_X6_oldest, f_X7_oldest]
  by_cases q : P = 0
  · subst q
    simp only [Int32.le_refl, if_true]; exact no5 hR
  · have ga : ¬ nI P ≤ nI 0 := by rw [le_nI (by omega) (by omega)]; omega
    have gb : ¬ nI P = nI 0 := by rw [nI_e0 (by omega)]; exact q
    simp only [if_neg ga, if_neg gb]
    obtain ⟨a, b, q1, q2, q3⟩ := xl_pair (bx := f_X3_firstOldest_L4 (nI P) ax) (bm := f_X7_oldest_L18 (nI P) am rm) (fun i s t => ∃ v, v < P ∧ s = (nI v, nI (i + 1)) ∧ t = (nI v, nI (i + 1))) (fun a b => b = (a, rm)) (P - 1) (s0 := (nI 0, nI 1)) (t0 := (nI 0, nI 1)) (by omega) ⟨0, by omega, rfl, rfl⟩ (fun i s t hi hI => by
      obtain ⟨v, hv, rfl, rfl⟩ := hI
      by_cases z : i < P - 1
      · have gc : ¬ nI P ≤ nI (i + 1) := by rw [le_nI (by omega) (by omega)]; omega
        refine Or.inr ⟨z, ?_⟩
        simp only [f_X3_firstOldest_L4, f_X7_oldest_L18, if_neg gc, X3_ageOf_eq (show i + 1 < 10 by omega), X3_ageOf_eq (show v < 10 by omega), (h.2 v hv).1, (h.2 v hv).2.1, (h.2 (i + 1) (by omega)).1, (h.2 (i + 1) (by omega)).2.1, Option.bind_some, nI_add, xout_s (show i + 1 < 10 by omega) (show 10 < 2 ^ 31 by omega), xat_nI (show i + 1 < 2 ^ 31 by omega), xout_s (show v < 10 by omega) (show 10 < 2 ^ 31 by omega), xat_nI (show v < 2 ^ 31 by omega)]
        by_cases y : nI (g (i + 1)) ≤ nI (g v)
        · simp only [if_pos y]; exact ⟨_, _, rfl, rfl, v, hv, rfl, rfl⟩
        · simp only [if_neg y]; exact ⟨_, _, rfl, rfl, i + 1, by omega, rfl, rfl⟩
      · have gc : nI P ≤ nI (i + 1) := by rw [le_nI (by omega) (by omega)]; omega
        simp only [f_X3_firstOldest_L4, f_X7_oldest_L18, if_pos gc]
        exact Or.inl ⟨_, _, rfl, rfl, rfl⟩)
    rw [show f_X3_firstOldest (nI P) ax = some a from q1, q2, q3]
    exact pub_v hR _
theorem rank_in (h : PpOk P g ax am) (p1 : Int32) {j : Nat} (hj : j < P) : ∃ v, f_X3_rankOf (nI P) ax (nI j) = some v ∧ xloop (f_X7_ranked_L30 (nI P) am rm p1 (nI j)) xN (nI 0, nI 0) = some (if v = p1 then .inl (nI j, rm) else .inr (nI j + nI 1)) := by
  have hP := h.1
  obtain ⟨a, b, q1, q2, q3⟩ := xl_pair (bx := f_X3_rankOf_L4 (nI P) ax (nI j)) (bm := f_X7_ranked_L30 (nI P) am rm p1 (nI j)) (fun i s t => s = t ∧ s.2 = nI i) (fun a b => b = if a = p1 then .inl (nI j, rm) else .inr (nI j + nI 1)) P (s0 := (nI 0, nI 0)) (t0 := (nI 0, nI 0)) (by omega) ⟨rfl, rfl⟩ (fun i s t hi hI => by
    obtain ⟨rfl, e⟩ := hI
    by_cases z : i < P
    · have gc : ¬ nI P ≤ nI i := by rw [le_nI (by omega) (by omega)]; omega
      refine Or.inr ⟨z, ?_⟩
      simp only [f_X3_rankOf_L4, f_X7_ranked_L30, e, if_neg gc, X3_ageOf_eq (show i < 10 by omega), X3_ageOf_eq (show j < 10 by omega), (h.2 i z).1, (h.2 i z).2.1, (h.2 j hj).1, (h.2 j hj).2.1, Option.bind_some, nI_add, xout_s (show i < 10 by omega) (show 10 < 2 ^ 31 by omega), xat_nI (show i < 2 ^ 31 by omega), xout_s (show j < 10 by omega) (show 10 < 2 ^ 31 by omega), xat_nI (show j < 2 ^ 31 by omega)]
      by_cases y : nI (g i) < nI (g j)
      · simp only [if_pos y]; exact ⟨_, _, rfl, rfl, rfl, rfl⟩
      · simp only [if_neg y]
        by_cases y2 : nI (g i) = nI (g j)
        · simp only [if_pos y2]
          by_cases y3 : nI j ≤ nI i
          · simp only [if_pos y3]; exact ⟨_, _, rfl, rfl, rfl, rfl⟩
          · simp only [if_neg y3]; exact ⟨_, _, rfl, rfl, rfl, rfl⟩
        · simp only [if_neg y2]; exact ⟨_, _, rfl, rfl, rfl, rfl⟩
    · have gc : nI P ≤ nI i := by rw [le_nI (by omega) (by omega)]; omega
      simp only [f_X3_rankOf_L4, f_X7_ranked_L30, e, if_pos gc]
      refine Or.inl ⟨_, _, rfl, ?_, rfl⟩
      by_cases y : s.1 = p1
      · simp only [if_pos y]
      · simp only [if_neg y])
  exact ⟨a, q1, by rw [q2, q3]⟩
theorem e_ranked (h : PpOk P g ax am) (hR : RR rx rm) (p1 : Int32) : Pub (f_X6_ranked (nI P) ax rx p1) (f_X7_ranked (nI P) am rm p1) := by
  have hP := h.1
  simp only [f_X6_ranked, f_X7_ranked, X3_isThere_eq, X7_isOne_eq, Option.bind_some, ifb]
  by_cases q : wi p1 (nI 0) (nI P - nI 1) = true
  · simp only [q, if_true]
    obtain ⟨a, b, q1, q2, q3⟩ := xl_pair (bx := f_X3_withRank_L2 (nI P) ax p1) (bm := f_X7_ranked_L17 (nI P) am rm p1) (fun i s t => s = nI i ∧ t = nI i) (fun a b => b = (a, rm)) P (s0 := nI 0) (t0 := nI 0) (by omega) ⟨rfl, rfl⟩ (fun i s t hi hI => by
      obtain ⟨rfl, rfl⟩ := hI
      by_cases z : i < P
      · have gc : ¬ nI P ≤ nI i := by rw [le_nI (by omega) (by omega)]; omega
        obtain ⟨v, w1, w2⟩ := rank_in (rm := rm) h p1 z
        simp only [f_X3_withRank_L2, f_X7_ranked_L17, if_neg gc, w1, w2, Option.bind_some, nI_add]
        by_cases y : v = p1
        · simp only [if_pos y]; exact Or.inl ⟨_, _, rfl, rfl, rfl⟩
        · simp only [if_neg y]; exact Or.inr ⟨z, _, _, rfl, rfl, rfl, rfl⟩
      · have gc : nI P ≤ nI i := by rw [le_nI (by omega) (by omega)]; omega
        simp only [f_X3_withRank_L2, f_X7_ranked_L17, if_pos gc]
        exact Or.inl ⟨_, _, rfl, rfl, rfl⟩)
    rw [show f_X3_withRank (nI P) ax p1 = some a from q1, q2, q3]
    exact pub_v hR _
  · simp only [q, if_false]; exact no2 hR
end Q
