-- PURE: plan, fill, loudest, the law for a plan; two laws apart
section D2
variable {c f d n : Nat} {kn tn : Nat → Nat} {kx tx km tm rx rm : Nat → Int32} {r : Int64}
theorem tried {p q : Int32} (g : (wi p (nI 1) (nI 12) && isS q (p.toNatClampNeg)) = true) : ∃ n w, 0 < n ∧ n ≤ 12 ∧ w < 2 ^ n ∧ p = nI n ∧ q = nI w := by
  rw [Bool.and_eq_true] at g
  obtain ⟨n, h1, h2, rfl⟩ := (wi_nI (by omega) (by omega)).mp g.1
  have h3 := g.2
  rw [nI_clamp (by omega)] at h3
  obtain ⟨w, hw, rfl⟩ := (isS_iff h2).mp h3
  exact ⟨n, w, by omega, h2, hw, rfl, rfl⟩
theorem e_plan (hX : LwX c kn tn kx tx) (hM : LwX c kn tn km tm) (hf : FOk c f) (hR : RR rx rm) (p1 p2 : Int32) : Pub (f_X6_plan (nI f) (nI c) kx tx rx p1 p2) (f_X7_plan (nI c) (nI f) km tm rm p1 p2) := by
  have hc := hX.1
  simp only [f_X6_plan, f_X7_plan, X6_areTried_eq, X7_isPlan_eq, Option.bind_some, ifb]
  by_cases g : (wi p1 (nI 1) (nI 12) && isS p2 (p1.toNatClampNeg)) = true
  · obtain ⟨n, w, h1, h2, h3, rfl, rfl⟩ := tried g
    simp only [g, if_true]
    by_cases g2 : nI c = nI 0
    · simp only [g2, if_true]; exact no5 hR
    · have g0 : c ≠ 0 := by rwa [nI_e0 (by omega)] at g2
      obtain ⟨z, fw, -, q1, q2⟩ := plan_eq hX hM (show f < c by unfold FOk at hf; omega) h1 h2 h3
      simp only [g2, if_false, q1, q2, Option.bind_some]
      exact pub_v hR _
  · simp only [g, if_false]; exact no2 hR
theorem e_lawFor (hX : LwX c kn tn kx tx) (hM : LwX c kn tn km tm) (hR : RR rx rm) (p1 p2 : Int32) : Pub (f_X6_lawFor (nI c) kx tx rx p1 p2) (f_X7_lawFor (nI c) km tm rm p1 p2) := by
  have hc := hX.1
  simp only [f_X6_lawFor, f_X7_lawFor, X6_areTried_eq, X7_isPlan_eq, Option.bind_some, ifb]
  by_cases g : (wi p1 (nI 1) (nI 12) && isS p2 (p1.toNatClampNeg)) = true
  · obtain ⟨n, w, h1, h2, h3, rfl, rfl⟩ := tried g
    simp only [g, if_true]
    refine pub_of (xl_pair (fun i s t => s.1 = t.1 ∧ s.2.2 = nI i ∧ t.2.2 = nI i ∧ ((s.2.1 = nI (n + 1) ∧ t.2.1 = nI 99) ∨ s.2.1 = t.2.1)) _ c (by omega) ⟨rfl, rfl, rfl, Or.inl ⟨by rw [nI_add], rfl⟩⟩ (fun i s t hi hI => ?_))
    obtain ⟨e1, e2, e3, e4⟩ := hI
    by_cases h : i < c
    · have ga : ¬ nI c ≤ nI i := by rw [le_nI (by omega) (by omega)]; omega
      refine Or.inr ⟨h, ?_⟩
      obtain ⟨z, fw, hz, q1, q2⟩ := plan_eq hX hM h h1 h2 h3
      simp only [f_X6_lawFor_L25, f_X7_lawFor_L24, e2, e3, if_neg ga, q1, q2, Option.bind_some, nI_add]
      rcases hz with ⟨rfl, -⟩ | ⟨v, hv, rfl, -⟩
      · exact ⟨(s.1, s.2.1, nI (i + 1)), (t.1, t.2.1, nI (i + 1)), by rw [if_pos rfl], by rw [if_pos rfl], e1, rfl, rfl, e4⟩
      · have hb := bc_le hv h2
        have h4 := two_le h2
        simp only [if_neg (nI_nm1 (show v < 2 ^ 31 by omega)), bc_eq (show v < 4096 by omega), Option.bind_some]
        rcases e4 with ⟨a1, a2⟩ | a1
        · have g1 : ¬ s.2.1 ≤ nI (cnt v.testBit 12) := by rw [a1, le_nI (by omega) (by omega)]; omega
          have g2 : nI (cnt v.testBit 12) < t.2.1 := by rw [a2, nI_ltI (by omega) (by omega)]; omega
          exact ⟨_, _, by rw [if_neg g1], by rw [if_pos g2], rfl, rfl, rfl, Or.inr rfl⟩
        · by_cases g1 : s.2.1 ≤ nI (cnt v.testBit 12)
          · have g2 : ¬ nI (cnt v.testBit 12) < t.2.1 := by rw [← a1]; exact fun q => (nle_lt.mpr q) g1
            exact ⟨(s.1, s.2.1, nI (i + 1)), (t.1, t.2.1, nI (i + 1)), by rw [if_pos g1], by rw [if_neg g2], e1, rfl, rfl, Or.inr a1⟩
          · have g2 : nI (cnt v.testBit 12) < t.2.1 := by rw [← a1]; exact nle_lt.mp g1
            exact ⟨_, _, by rw [if_neg g1], by rw [if_pos g2], rfl, rfl, rfl, Or.inr rfl⟩
    · have ga : nI c ≤ nI i := by rw [le_nI (by omega) (by omega)]; omega
      exact Or.inl ⟨(s.1, rx), (t.1, rm), by simp only [f_X6_lawFor_L25, e2, if_pos ga], by simp only [f_X7_lawFor_L24, e3, if_pos ga], e1, hR⟩
  · simp only [g, if_false]; exact no2 hR
theorem e_fill (hX : LwX c kn tn kx tx) (hM : LwX c kn tn km tm) (hf : FOk c f) (hd : d ≤ 9) (hR : RR rx rm) (p1 p2 : Int32) : Pub (f_X6_fill (nI f) (nI d) (nI c) kx tx rx p1 p2) (f_X7_fill (nI c) (nI f) (nI d) km tm rm p1 p2) := by
  have hc := hX.1
  have hfl := hf.lt hc
  simp only [f_X6_fill, f_X7_fill, X6_areTried_eq, X7_isPlan_eq, Option.bind_some, ifb]
  by_cases g : (wi p1 (nI 1) (nI 12) && isS p2 (p1.toNatClampNeg)) = true
  · obtain ⟨n, w, h1, h2, h3, rfl, rfl⟩ := tried g
    have h4 := two_le h2
    simp only [g, if_true]
    by_cases g2 : nI c = nI 0
    · simp only [g2, if_true]; exact no5 hR
    · have key := xl_pair (bx := f_X0_leastRingHeardAt_L10 (nI f) (nI d) (nI c) kx tx (nI n) (nI w)) (bm := f_X7_fill_L34 (nI c) (nI f) (nI d) km tm rm (nI n) (nI w)) (fun i s t => s.1 = t.1 ∧ s.2.2 = nI i ∧ t.2 = nI i ∧ BX n s.1 s.2.1) (fun x y => (x, rm) = y) (2 ^ n) (s0 := (-1, nI n + nI 1, nI 0)) (t0 := (-1, nI 0)) (by omega) ⟨rfl, rfl, rfl, Or.inl ⟨rfl, by rw [nI_add]⟩⟩ (fun i s t hi hI => ?_)
      · obtain ⟨a, b, q1, q2, rfl⟩ := key
        simp only [g2, if_false, f_X0_leastRingHeardAt, q1, q2, Option.bind_some]
        exact pub_v hR _
      · obtain ⟨e1, e3, e4, e5⟩ := hI
        by_cases h : i < 2 ^ n
        · have ga : ¬ nI (2 ^ n) ≤ nI i := by rw [le_nI (by omega) (by omega)]; omega
          have hb := bc_le h h2
          refine Or.inr ⟨h, ?_⟩
          obtain ⟨j, hj⟩ : ∃ j, j = bI (hrd (lst c kn tn f (lN i) n) d (lN i)) n := ⟨_, rfl⟩
          have eJ : f_X7_fill_J59 (nI c) (nI f) (nI d) km tm (nI n) (nI w) t = some (.inr (if xcmp j (lN w) = nI 0 then (nI i, nI (i + 1)) else (s.1, nI (i + 1)))) := by
            simp only [f_X7_fill_J59, e4, ← e1, nI_L (show i < 2 ^ 31 by omega), nI_L (show w < 2 ^ 31 by omega), X7_heardBits_eq hM hf (show n ≤ 62 by omega) hd, Option.bind_some, ← hj, nI_add]
            by_cases q : xcmp j (lN w) = nI 0 <;> simp [q]
          have eX : f_X0_leastRingHeardAt_L10 (nI f) (nI d) (nI c) kx tx (nI n) (nI w) s = some (.inr (if s.2.1 ≤ nI (cnt i.testBit 12) then (s.1, s.2.1, nI (i + 1)) else if xcmp j (lN w) = nI 0 then (nI i, nI (cnt i.testBit 12), nI (i + 1)) else (s.1, s.2.1, nI (i + 1)))) := by
            have e6 : isw 0 (lst c kn tn f (lN i) n) d (lN i) = hrd (lst c kn tn f (lN i) n) d (lN i) := by funext x; simp [isw]
            simp only [f_X0_leastRingHeardAt_L10, e3, shl_nI h2, if_neg ga, bc_eq (show i < 4096 by omega), nI_L (show i < 2 ^ 31 by omega), nI_L (show w < 2 ^ 31 by omega), X0_sounds_eq hX hfl (show n ≤ 62 by omega) hd (show 0 ≤ 2 by omega) (ROk_lN h h2), e6, ← hj, Option.bind_some, nI_add]
            by_cases q : s.2.1 ≤ nI (cnt i.testBit 12)
            · simp [q]
            · by_cases q2 : xcmp j (lN w) = nI 0 <;> simp [q, q2]
          rw [eX]
          rcases e5 with ⟨a1, a2⟩ | ⟨v, hv, a1, a2⟩
          · have g1 : ¬ s.2.1 ≤ nI (cnt i.testBit 12) := by rw [a2, le_nI (by omega) (by omega)]; omega
            have g3 : t.1 = -1 := by rw [← e1, a1]
            rw [if_neg g1]
            have eM : f_X7_fill_L34 (nI c) (nI f) (nI d) km tm rm (nI n) (nI w) t = some (.inr (if xcmp j (lN w) = nI 0 then (nI i, nI (i + 1)) else (s.1, nI (i + 1)))) := by
              rw [← eJ]
              simp only [f_X7_fill_L34, e4, shl_nI h2, if_neg ga, if_pos g3]
            rw [eM]
            refine ⟨_, _, rfl, rfl, ?_⟩
            by_cases q : xcmp j (lN w) = nI 0
            · simp only [if_pos q]; exact ⟨trivial, trivial, trivial, Or.inr ⟨i, h, rfl, rfl⟩⟩
            · simp only [if_neg q]; exact ⟨trivial, trivial, trivial, Or.inl ⟨a1, a2⟩⟩
          · have hb2 := bc_le hv h2
            have g3 : ¬ t.1 = -1 := by rw [← e1, a1]; exact nI_nm1 (by omega)
            have eM : f_X7_fill_L34 (nI c) (nI f) (nI d) km tm rm (nI n) (nI w) t = some (.inr (if s.2.1 ≤ nI (cnt i.testBit 12) then (s.1, nI (i + 1)) else if xcmp j (lN w) = nI 0 then (nI i, nI (i + 1)) else (s.1, nI (i + 1)))) := by
              have g4 : ¬ nI v = -1 := nI_nm1 (by omega)
              simp only [f_X7_fill_L34, e4, shl_nI h2, if_neg ga, eJ, if_neg g3, ← e1, a1, a2, if_neg g4, bc_eq (show i < 4096 by omega), bc_eq (show v < 4096 by omega), Option.bind_some, nI_add]
              by_cases q : nI (cnt v.testBit 12) ≤ nI (cnt i.testBit 12) <;> simp [q]
            rw [eM]
            refine ⟨_, _, rfl, rfl, ?_⟩
            by_cases q0 : s.2.1 ≤ nI (cnt i.testBit 12)
            · simp only [if_pos q0]; exact ⟨trivial, trivial, trivial, Or.inr ⟨v, hv, a1, a2⟩⟩
            · by_cases q : xcmp j (lN w) = nI 0
              · simp only [if_neg q0, if_pos q]; exact ⟨trivial, trivial, trivial, Or.inr ⟨i, h, rfl, rfl⟩⟩
              · simp only [if_neg q0, if_neg q]; exact ⟨trivial, trivial, trivial, Or.inr ⟨v, hv, a1, a2⟩⟩
        · have e : i = 2 ^ n := by omega
          have ga : nI (2 ^ n) ≤ nI i := by rw [le_nI (by omega) (by omega)]; omega
          exact Or.inl ⟨s.1, (t.1, rm), by simp only [f_X0_leastRingHeardAt_L10, e3, shl_nI h2, if_pos ga], by simp only [f_X7_fill_L34, e4, shl_nI h2, if_pos ga], by rw [e1]⟩
  · simp only [g, if_false]; exact no2 hR
theorem e_loudest (hX : LwX c kn tn kx tx) (hM : LwX c kn tn km tm) (hf : FOk c f) (hd : d ≤ 9) (hR : RR rx rm) (p1 p2 : Int32) : Pub (f_X6_loudest (nI f) (nI d) (nI c) kx tx rx p1 p2) (f_X7_loudest (nI c) (nI f) (nI d) km tm rm p1 p2) := by
  have hc := hX.1
  have hfl := hf.lt hc
  simp only [f_X6_loudest, f_X7_loudest, X6_isWithin_eq, X7_within_eq, Option.bind_some, ifb]
  by_cases g : wi p1 (nI 1) (nI 12) = true
  · obtain ⟨n, h1, h2, rfl⟩ := (wi_nI (by omega) (by omega)).mp g
    have h4 := two_le h2
    by_cases g1 : wi p2 (nI 0) (nI n) = true
    · by_cases g2 : nI c = nI 0
      · simp only [g, g1, g2, if_true]; exact no5 hR
      · have key := xl_pair (bx := f_X0_loudestRing_L8 (nI f) (nI d) (nI c) kx tx (nI n) p2) (bm := f_X7_loudest_L48 (nI c) (nI f) (nI d) km tm rm (nI n) p2) (fun i s t => s = t ∧ s.2.2 = nI i) (fun x y => (x, rm) = y) (2 ^ n) (s0 := (-1, -1, nI 0)) (t0 := (-1, -1, nI 0)) (by omega) ⟨rfl, rfl⟩ (fun i s t hi hI => ?_)
        · obtain ⟨a, b, q1, q2, rfl⟩ := key
          simp only [g, g1, g2, if_true, if_false, f_X0_loudestRing, q1, q2, Option.bind_some]
          exact pub_v hR _
        · obtain ⟨rfl, hs⟩ := hI
          by_cases h : i < 2 ^ n
          · have ga : ¬ nI (2 ^ n) ≤ nI i := by rw [le_nI (by omega) (by omega)]; omega
            refine Or.inr ⟨h, ?_⟩
            simp only [f_X0_loudestRing_L8, f_X7_loudest_L48, hs, shl_nI h2, if_neg ga, bc_eq (show i < 4096 by omega), nI_L (show i < 2 ^ 31 by omega), X0_sounds_eq hX hfl (show n ≤ 62 by omega) hd (show 0 ≤ 2 by omega) (ROk_lN h h2), X7_many_eq hM hf (show n ≤ 62 by omega) hd (show 0 ≤ 2 by omega), bitCount_eq, cnt_bI _ (show n ≤ 64 by omega), Option.bind_some, nI_add]
            by_cases q : nI (cnt i.testBit 12) = p2
            · simp only [if_pos q]
              by_cases q2 : nI (cnt (isw 0 (lst c kn tn f (lN i) n) d (lN i)) n) ≤ s.2.1
              · have q3 : ¬ s.2.1 < nI (cnt (isw 0 (lst c kn tn f (lN i) n) d (lN i)) n) := fun z => (nle_lt.mpr z) q2
                exact ⟨_, _, by rw [if_pos q2], by rw [if_neg q3], rfl, rfl⟩
              · exact ⟨_, _, by rw [if_neg q2], by rw [if_pos (nle_lt.mp q2)], rfl, rfl⟩
            · simp only [if_neg q]
              exact ⟨_, _, rfl, rfl, rfl, rfl⟩
          · have e : i = 2 ^ n := by omega
            have ga : nI (2 ^ n) ≤ nI i := by rw [le_nI (by omega) (by omega)]; omega
            exact Or.inl ⟨s.1, (s.1, rm), by simp only [f_X0_loudestRing_L8, hs, shl_nI h2, if_pos ga], by simp only [f_X7_loudest_L48, hs, shl_nI h2, if_pos ga], rfl⟩
    · simp only [g, g1, if_true, if_false]; exact no2 hR
  · simp only [g, if_false]; exact no2 hR
def tzb (z : Int32) : Option Int32 := if (nI 0) < z then (if z ≤ (nI 65536) then f_J6_numberOfTrailingZeros_0f7a4_J34 z (nI 1) else f_J6_numberOfTrailingZeros_0f7a4_J34 (xushr z (nI 16)) ((nI 1) + (nI 16))) else some (z &&& (nI 32))
theorem tz6 (y : Int32) : f_J6_numberOfTrailingZeros_0f7a4 y = tzb ((y ^^^ (-1 : Int32)) &&& (y - (nI 1))) := rfl
theorem tzb_eq : ∀ k, k < 32 → tzb (nI (2 ^ k - 1)) = some (nI k) := by decide +kernel
theorem low_mask {v k : Nat} (hk : v.testBit k = true) (hl : ∀ j, j < k → v.testBit j = false) (i : Nat) : (!v.testBit i && (v - 1).testBit i) = decide (i < k) := by
  have h0 : v % 2 ^ k = 0 := by
    apply Nat.eq_of_testBit_eq
    intro j
    rw [Nat.testBit_mod_two_pow, Nat.zero_testBit]
    by_cases h : j < k
    · rw [hl j h]; simp
    · simp [h]
  have h1 : v = 2 ^ k * (v / 2 ^ k) := by have := Nat.div_add_mod v (2 ^ k); omega
  have h2 : (v / 2 ^ k) % 2 = 1 := by
    have : (v / 2 ^ k).testBit 0 = true := by rw [Nat.testBit_div_two_pow, Nat.zero_add]; exact hk
    simpa [Nat.testBit_zero] using this
  obtain ⟨q, hq⟩ : ∃ q, v / 2 ^ k = 2 * q + 1 := ⟨v / 2 ^ k / 2, by omega⟩
  have hp := Nat.two_pow_pos k
  have h3 : v - 1 = 2 ^ k * (2 * q) + (2 ^ k - 1) := by
    rw [h1, hq, Nat.mul_add, Nat.mul_one]; omega
  rw [h3, Nat.testBit_two_pow_mul_add _ (by omega)]
  by_cases h : i < k
  · rw [hl i h, if_pos h, Nat.testBit_two_pow_sub_one]; simp [h]
  · rw [if_neg h]
    have h4 : v.testBit i = (2 * q + 1).testBit (i - k) := by rw [← hq, Nat.testBit_div_two_pow, show i - k + k = i by omega]
    rw [h4]
    cases hd : i - k with
    | zero => simp [h]
    | succ j =>
      rw [Nat.testBit_succ, Nat.testBit_succ, show (2 * q + 1) / 2 = q by omega, show 2 * q / 2 = q by omega]
      simp [h]
theorem tz6_eq {v k : Nat} (hv : v < 2 ^ 32) (hk : v.testBit k = true) (hl : ∀ j, j < k → v.testBit j = false) : f_J6_numberOfTrailingZeros_0f7a4 (nI v) = some (nI k) := by
  have hk32 : k < 32 := by
    rcases Nat.lt_or_ge k 32 with h | h
    · exact h
    · rw [Nat.testBit_lt_two_pow (Nat.lt_of_lt_of_le hv (Nat.pow_le_pow_right (by decide) h))] at hk
      cases hk
  have hv1 : 1 ≤ v := by
    rcases Nat.eq_zero_or_pos v with h | h
    · subst h; rw [Nat.zero_testBit] at hk; cases hk
    · exact h
  have e : (nI v ^^^ (-1 : Int32)) &&& (nI v - nI 1) = nI (2 ^ k - 1) := by
    rw [nI_dif hv1]
    apply Int32.toBitVec_inj.mp
    rw [Int32.toBitVec_and, Int32.toBitVec_xor]
    apply BitVec.eq_of_getLsbD_eq
    intro i hi
    have m1 : (-1 : Int32).toBitVec.getLsbD i = true := by
      have : ∀ i, i < 32 → (-1 : Int32).toBitVec.getLsbD i = true := by decide +kernel
      exact this i hi
    rw [BitVec.getLsbD_and, BitVec.getLsbD_xor, m1]
    show (((BitVec.ofNat 32 v).getLsbD i ^^ true) && (BitVec.ofNat 32 (v - 1)).getLsbD i) = (BitVec.ofNat 32 (2 ^ k - 1)).getLsbD i
    rw [BitVec.getLsbD_ofNat, BitVec.getLsbD_ofNat, BitVec.getLsbD_ofNat, Nat.testBit_two_pow_sub_one]
    have := low_mask hk hl i
    simp only [decide_eq_true hi, Bool.true_and]
    rw [← this]
    cases v.testBit i <;> simp
  rw [tz6, e, tzb_eq k hk32]
theorem nI_md (m : Nat) : nI m = nI (m % 2 ^ 32) := by
  apply Int32.toBitVec_inj.mp
  show BitVec.ofNat 32 m = BitVec.ofNat 32 (m % 2 ^ 32)
  apply BitVec.eq_of_toNat_eq
  rw [BitVec.toNat_ofNat, BitVec.toNat_ofNat]; omega
theorem tz13_eq {x : Int64} {k : Nat} (hk64 : k < 64) (hk : bt x k = true) (hl : ∀ j, j < k → bt x j = false) : f_J13_numberOfTrailingZeros_95d88 x = some (nI k) := by
  obtain ⟨m, hm, rfl⟩ := wb_of x
  rw [bt_lN k hk64] at hk
  have hl2 : ∀ j, j < k → m.testBit j = false := fun j hj => by rw [← bt_lN j (by omega)]; exact hl j hj
  unfold f_J13_numberOfTrailingZeros_95d88
  rw [lN_i, xlushr_lN hm (by decide), lN_i, nI_md m]
  have hz : nI (m % 2 ^ 32) = nI 0 ↔ m % 2 ^ 32 = 0 := by
    constructor
    · intro h
      have := congrArg (fun y : Int32 => y.toBitVec.toNat) h
      simp only [pk_tn (show m % 2 ^ 32 < 2 ^ 32 by omega)] at this
      exact this
    · intro h; rw [h]
  by_cases h : k < 32
  · have hb : (m % 2 ^ 32).testBit k = true := by rw [Nat.testBit_mod_two_pow]; simp [h, hk]
    have hne : ¬ nI (m % 2 ^ 32) = nI 0 := by
      rw [hz]; intro q; rw [q, Nat.zero_testBit] at hb; cases hb
    rw [if_neg hne, tz6_eq (by omega) hb (fun j hj => by rw [Nat.testBit_mod_two_pow, hl2 j hj]; simp)]
    rfl
  · have h0 : m % 2 ^ 32 = 0 := by
      apply Nat.eq_of_testBit_eq
      intro j
      rw [Nat.testBit_mod_two_pow, Nat.zero_testBit]
      by_cases q : j < 32
      · rw [hl2 j (by omega)]; simp
      · simp [q]
    rw [if_pos (hz.mpr h0), tz6_eq (v := m / 2 ^ 32) (k := k - 32) (by omega) (by rw [Nat.testBit_div_two_pow, show k - 32 + 32 = k by omega]; exact hk) (fun j hj => by rw [Nat.testBit_div_two_pow]; exact hl2 _ (by omega))]
    show some (nI 32 + nI (k - 32)) = _
    rw [nI_add, show 32 + (k - 32) = k by omega]
def twoL (c : Nat) (p q : Int32) : Bool := wi p (nI 0) (nI c - nI 1) && (wi q (nI 0) (nI c - nI 1) && !decide (p = q))
theorem X6_two_eq {p q : Int32} : f_X6_areTwoLaws (nI c) p q = some (b2 (twoL c p q)) := by
  simp only [f_X6_areTwoLaws, X2_isThere_eq, Option.bind_some, ifb, twoL]
  cases wi p (nI 0) (nI c - nI 1) <;> cases wi q (nI 0) (nI c - nI 1) <;> by_cases h : p = q <;> simp [h, b2]
theorem X7_two_eq {p q : Int32} : f_X7_areTwo (nI c) p q = some (b2 (twoL c p q)) := by
  simp only [f_X7_areTwo, X7_isLaw_eq, Option.bind_some, ifb, twoL]
  cases wi p (nI 0) (nI c - nI 1) <;> cases wi q (nI 0) (nI c - nI 1) <;> by_cases h : p = q <;> simp [h, b2]
theorem twoL_of {p q : Int32} (hc : c ≤ 6) (h : twoL c p q = true) : ∃ a b, a < c ∧ b < c ∧ p = nI a ∧ q = nI b := by
  unfold twoL at h
  rw [Bool.and_eq_true, Bool.and_eq_true] at h
  obtain ⟨a, ha, rfl⟩ := (wi_lt (by omega)).mp h.1
  obtain ⟨b, hb, rfl⟩ := (wi_lt (by omega)).mp h.2.1
  exact ⟨a, b, ha, hb, rfl, rfl⟩
theorem bI_xor (p q : Nat → Bool) (hn : n ≤ 62) : bI p n ^^^ bI q n = bI (fun i => p i ^^ q i) n := bI_of (by omega) (fun i hi => by
  rw [bt_xor, bt_bI _ _ (by omega), bt_bI _ _ (by omega)]
  by_cases h : i < n <;> simp [h])
theorem e_apart (hX : LwX c kn tn kx tx) (hM : LwX c kn tn km tm) (hn : n ≤ 40) (hR : RR rx rm) (p1 p2 : Int32) : Pub (f_X6_apart r (nI n) (nI c) kx tx rx p1 p2) (f_X7_apart (nI c) r (nI n) km tm rm p1 p2) := by
  have hc := hX.1
  simp only [f_X6_apart, f_X7_apart, X6_two_eq, X7_two_eq, Option.bind_some, ifb]
  by_cases g : twoL c p1 p2 = true
  · obtain ⟨a, b, ha, hb, rfl, rfl⟩ := twoL_of hc g
    simp only [g, if_true, X0_struck_eq hX (show a < 2 ^ 30 by omega) (show n ≤ 62 by omega), X0_struck_eq hX (show b < 2 ^ 30 by omega) (show n ≤ 62 by omega), X7_struckBits_eq hM ha (show n ≤ 62 by omega), X7_struckBits_eq hM hb (show n ≤ 62 by omega), Option.bind_some, bI_xor _ _ (show n ≤ 62 by omega)]
    rcases X6_firstIn_eq (p := fun i => lst c kn tn a r n i ^^ lst c kn tn b r n i) (show n ≤ 62 by omega) (Nat.zero_le n) with ⟨k, -, h2, h3, h4, h5⟩ | ⟨h1, h2⟩
    · have e1 : bt (bI (fun i => lst c kn tn a r n i ^^ lst c kn tn b r n i) n) k = true := by rw [bt_bI _ _ (by omega)]; simp only [decide_eq_true h2, Bool.true_and]; exact h3
      have e2 : ¬ xcmp (bI (fun i => lst c kn tn a r n i ^^ lst c kn tn b r n i) n) (lN 0) = nI 0 := by
        rw [xcmp_0]; intro q; rw [q, bt_0] at e1; cases e1
      rw [h5, if_neg e2, tz13_eq (by omega) e1 (fun j hj => by rw [bt_bI _ _ (by omega), h4 j (Nat.zero_le _) hj]; simp)]
      exact pub_v hR _
    · have e2 : xcmp (bI (fun i => lst c kn tn a r n i ^^ lst c kn tn b r n i) n) (lN 0) = nI 0 := by
        rw [xcmp_0]
        apply bt_ext
        intro i hi
        rw [bt_bI _ _ (by omega), bt_0]
        by_cases q : i < n
        · rw [h1 i (Nat.zero_le _) q]; simp
        · simp [q]
      rw [h2, if_pos e2]
      exact pub_v hR _
  · simp only [g, if_false]; exact no2 hR
end D2
