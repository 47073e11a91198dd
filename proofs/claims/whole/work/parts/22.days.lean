-- PURE: days, and the sums reached
section E
variable {P c n : Nat} {g : Nat → Nat} {ax am rx rm : Nat → Int32}
theorem X6_leaves_eq {t a b : Nat} (ht : t < 2 ^ 31) (h0 : 0 < a) (ha : a < 2 ^ 31) (hb : b < 2 ^ 31) : f_X6_leaves (nI t) (nI a) (nI b) = some (b2 (decide (t % a = b))) := by
  have g1 : ¬ nI a ≤ nI 0 := by rw [le_nI (by omega) (by omega)]; omega
  have g2 : ¬ nI a = nI 0 := by rw [nI_e0 (by omega)]; omega
  have hlt := Nat.mod_lt t h0
  simp only [f_X6_leaves, if_neg g1, if_neg g2, xrem_nI ht h0 ha, show (nI (t % a) = nI b) = (t % a = b) from propext (nI_eq (by omega) hb)]
  by_cases q : t % a = b
  · simp [q, b2]
  · simp [q, b2]
def dq (a b e f t : Nat) : Bool := decide (t % a = b) && decide (t % e = f)
theorem firstDay_eq {z a b e f : Nat} (hz : z ≤ 1) (ha : 0 < a) (ha2 : a ≤ 99) (hb : b ≤ 99) (he : 0 < e) (he2 : e ≤ 99) (hf : f ≤ 99) : (∃ k, z ≤ k ∧ k < 10000 ∧ dq a b e f k = true ∧ (∀ j, z ≤ j → j < k → dq a b e f j = false) ∧ f_X6_firstDay (nI z) (nI a) (nI b) (nI e) (nI f) = some (nI k)) ∨ ((∀ j, z ≤ j → j < 10000 → dq a b e f j = false) ∧ f_X6_firstDay (nI z) (nI a) (nI b) (nI e) (nI f) = some (-1)) := by
  have st : ∀ i, i < 10000 - z → f_X6_firstDay_L3 (nI a) (nI b) (nI e) (nI f) (nI (z + i)) = if dq a b e f (z + i) = true then some (.inl (nI (z + i))) else some (.inr (nI (z + (i + 1)))) := by
    intro i hi
    have g1 : ¬ nI 9999 < nI (z + i) := by rw [lt_nI (by omega) (by omega)]; omega
    simp only [f_X6_firstDay_L3, if_neg g1, X6_leaves_eq (show z + i < 2 ^ 31 by omega) ha (show a < 2 ^ 31 by omega) (show b < 2 ^ 31 by omega), X6_leaves_eq (show z + i < 2 ^ 31 by omega) he (show e < 2 ^ 31 by omega) (show f < 2 ^ 31 by omega), Option.bind_some, ifb, nI_add, Nat.add_assoc, dq]
    by_cases q1 : (z + i) % a = b <;> by_cases q2 : (z + i) % e = f <;> simp [q1, q2]
  unfold f_X6_firstDay
  rcases xl_find (body := f_X6_firstDay_L3 (nI a) (nI b) (nI e) (nI f)) (st := fun i => nI (z + i)) (p := fun i => dq a b e f (z + i)) (10000 - z) (fun i => nI (z + i)) (v1 := -1) (s0 := nI z) rfl (by omega) (fun i hi hp => by rw [st i hi, if_neg (by rw [hp]; decide)]) (fun i hi hp => by rw [st i hi, if_pos hp]) (by
    have g1 : nI 9999 < nI (z + (10000 - z)) := by rw [lt_nI (by omega) (by omega)]; omega
    simp only [f_X6_firstDay_L3, if_pos g1]) with ⟨k, h1, h2, h3, h4⟩ | ⟨h1, h2⟩
  · refine Or.inl ⟨z + k, by omega, by omega, h2, fun j h5 h6 => ?_, h4⟩
    have := h3 (j - z) (by omega)
    rwa [show z + (j - z) = j by omega] at this
  · refine Or.inr ⟨fun j h5 h6 => ?_, h2⟩
    have := h1 (j - z) (by omega)
    rwa [show z + (j - z) = j by omega] at this
theorem X6_div_eq {p q : Int32} : f_X6_areDivisors p q = some (b2 (wi p (nI 1) (nI 99) && wi q (nI 1) (nI 99))) := by
  simp only [f_X6_areDivisors, X6_isWithin_eq, Option.bind_some, ifb]
  cases wi p (nI 1) (nI 99) <;> cases wi q (nI 1) (nI 99) <;> simp [b2]
theorem day7_eq {a b e f : Nat} (ha : 0 < a) (ha2 : a ≤ 99) (hb : b < a) (he : 0 < e) (he2 : e ≤ 99) (hf : f < e) : (∃ k, k < 10000 ∧ dq a b e f k = true ∧ (∀ j, j < k → dq a b e f j = false) ∧ xloop (f_X7_day_L53 rm (nI a) (nI e) (nI f)) xN (nI b) = some (nI k, rm)) ∨ ((∀ j, j < 10000 → dq a b e f j = false) ∧ xloop (f_X7_day_L53 rm (nI a) (nI e) (nI f)) xN (nI b) = some ((-1), rm)) := by
  have gd : ¬ nI e = nI 0 := by rw [nI_e0 (by omega)]; omega
  have hN : ∃ N, b + N * a ≥ 10000 ∧ ∀ i, i < N → b + i * a < 10000 := by
    obtain ⟨N, h1, h2⟩ := pk_least (fun N => b + N * a ≥ 10000) ⟨10000, by
      have : 10000 * 1 ≤ 10000 * a := Nat.mul_le_mul_left _ ha
      omega⟩
    exact ⟨N, h1, fun i hi => by have := h2 i hi; omega⟩
  obtain ⟨N, hN1, hN2⟩ := hN
  have hNle : N ≤ 10000 := by
    rcases Nat.lt_or_ge 10000 N with q | q
    · have := hN2 10000 q
      have : 10000 * 1 ≤ 10000 * a := Nat.mul_le_mul_left _ ha
      omega
    · exact q
  have hNb : b + N * a < 10100 := by
    cases N with
    | zero => omega
    | succ m =>
      have := hN2 m (by omega)
      rw [Nat.succ_mul]; omega
  have md : ∀ i, (b + i * a) % a = b := fun i => by rw [Nat.add_mul_mod_self_right, Nat.mod_eq_of_lt hb]
  have dv : ∀ t, t % a = b → b + (t / a) * a = t := fun t h => by have := Nat.div_add_mod t a; rw [Nat.mul_comm] at this; omega
  have st : ∀ i, i < N → f_X7_day_L53 rm (nI a) (nI e) (nI f) (nI (b + i * a)) = if dq a b e f (b + i * a) = true then some (.inl (nI (b + i * a), rm)) else some (.inr (nI (b + (i + 1) * a))) := by
    intro i hi
    have h1 := hN2 i hi
    have h2 := Nat.mod_lt (b + i * a) he
    have g1 : ¬ nI 10000 ≤ nI (b + i * a) := by rw [le_nI (by omega) (by omega)]; omega
    simp only [f_X7_day_L53, if_neg g1, if_neg gd, xrem_nI (show b + i * a < 2 ^ 31 by omega) he (show e < 2 ^ 31 by omega), show (nI ((b + i * a) % e) = nI f) = ((b + i * a) % e = f) from propext (nI_eq (by omega) (by omega)), nI_add, dq, md i, Nat.succ_mul, Nat.add_assoc]
    by_cases q : (b + i * a) % e = f
    · simp [q]
    · simp [q]
  rcases xl_find (body := f_X7_day_L53 rm (nI a) (nI e) (nI f)) (st := fun i => nI (b + i * a)) (p := fun i => dq a b e f (b + i * a)) N (fun i => (nI (b + i * a), rm)) (v1 := ((-1), rm)) (s0 := nI b) (by simp) (by omega) (fun i hi hp => by rw [st i hi, if_neg (by rw [hp]; decide)]) (fun i hi hp => by rw [st i hi, if_pos hp]) (by
    have g1 : nI 10000 ≤ nI (b + N * a) := by rw [le_nI (by omega) (by omega)]; omega
    simp only [f_X7_day_L53, if_pos g1]) with ⟨k, h1, h2, h3, h4⟩ | ⟨h1, h2⟩
  · refine Or.inl ⟨b + k * a, hN2 k h1, h2, fun j h5 => ?_, h4⟩
    cases q : dq a b e f j with
    | false => rfl
    | true =>
      have q2 : j % a = b := by unfold dq at q; simp at q; exact q.1
      have q3 := dv j q2
      have q4 : j / a < k := by
        rcases Nat.lt_or_ge (j / a) k with z | z
        · exact z
        · have := Nat.mul_le_mul_right a z; omega
      have := h3 (j / a) q4
      rw [q3, q] at this; cases this
  · refine Or.inr ⟨fun j h5 => ?_, h2⟩
    cases q : dq a b e f j with
    | false => rfl
    | true =>
      have q2 : j % a = b := by unfold dq at q; simp at q; exact q.1
      have q3 := dv j q2
      have q4 : j / a < N := by
        rcases Nat.lt_or_ge (j / a) N with z | z
        · exact z
        · have := Nat.mul_le_mul_right a z; omega
      have := h1 (j / a) q4
      rw [q3, q] at this; cases this
theorem e_day (hR : RR rx rm) (p1 p2 p3 p4 : Int32) : Pub (f_X6_day rx p1 p2 p3 p4) (f_X7_day rm p1 p2 p3 p4) := by
  simp only [f_X6_day, f_X7_day, X6_div_eq, X6_isWithin_eq, X7_within_eq, Option.bind_some, ifb]
  by_cases g1 : wi p1 (nI 1) (nI 99) = true
  · by_cases g3 : wi p3 (nI 1) (nI 99) = true
    · obtain ⟨a, ha, ha2, rfl⟩ := (wi_nI (by omega) (by omega)).mp g1
      obtain ⟨e, he, he2, rfl⟩ := (wi_nI (by omega) (by omega)).mp g3
      by_cases g2 : wi p2 (nI 0) (nI a - nI 1) = true
      · by_cases g4 : wi p4 (nI 0) (nI e - nI 1) = true
        · obtain ⟨b, hb, rfl⟩ := (wi_lt (by omega)).mp g2
          obtain ⟨f, hf, rfl⟩ := (wi_lt (by omega)).mp g4
          simp only [g1, g2, g3, g4, if_true, Bool.and_self]
          rcases firstDay_eq (z := 0) (a := a) (b := b) (e := e) (f := f) (by omega) (by omega) ha2 (by omega) (by omega) he2 (by omega) with ⟨k, -, k2, k3, k4, k5⟩ | ⟨k4, k5⟩
          · rcases day7_eq (rm := rm) (a := a) (b := b) (e := e) (f := f) (by omega) ha2 hb (by omega) he2 hf with ⟨q, q2, q3, q4, q5⟩ | ⟨q4, q5⟩
            · have : k = q := by
                rcases Nat.lt_trichotomy k q with z | z | z
                · have := q4 k z; rw [k3] at this; cases this
                · exact z
                · have := k4 q (by omega) z; rw [q3] at this; cases this
              subst this
              rw [k5, q5]; exact pub_v hR _
            · have := q4 k k2; rw [k3] at this; cases this
          · rcases day7_eq (rm := rm) (a := a) (b := b) (e := e) (f := f) (by omega) ha2 hb (by omega) he2 hf with ⟨q, q2, q3, q4, q5⟩ | ⟨q4, q5⟩
            · have := k4 q (by omega) q2; rw [q3] at this; cases this
            · rw [k5, q5]; exact pub_v hR _
        · simp only [g1, g2, g3, g4, if_true, Bool.and_self, if_false]; exact no2 hR
      · simp only [g1, g2, g3, if_true, Bool.and_self, if_false]; exact no2 hR
    · rw [Bool.not_eq_true] at g3
      simp only [g1, g3, if_true, Bool.and_false]; exact no2 hR
  · rw [Bool.not_eq_true] at g1
    simp only [g1, Bool.false_and]; exact no2 hR
theorem meet7_eq {a e : Nat} (ha : 0 < a) (ha2 : a ≤ 99) (he : 0 < e) (he2 : e ≤ 99) : ∃ k, 1 ≤ k ∧ k < 10000 ∧ dq a 0 e 0 k = true ∧ (∀ j, 1 ≤ j → j < k → dq a 0 e 0 j = false) ∧ xloop (f_X7_meet_L29 rm (nI a) (nI e)) xN (nI a) = some (nI k, rm) := by
  have gd : ¬ nI e = nI 0 := by rw [nI_e0 (by omega)]; omega
  obtain ⟨N, hN, hl⟩ := pk_least (fun i => dq a 0 e 0 ((i + 1) * a) = true) ⟨e - 1, by
    rw [show e - 1 + 1 = e by omega]
    simp [dq]⟩
  have hNe : N ≤ e - 1 := by
    rcases Nat.lt_or_ge (e - 1) N with z | z
    · exfalso
      refine hl (e - 1) z ?_
      show dq a 0 e 0 ((e - 1 + 1) * a) = true
      rw [show e - 1 + 1 = e by omega]
      simp [dq]
    · exact z
  have bnd : ∀ i, i ≤ N → (i + 1) * a < 10000 := fun i hi => by
    have h1 : (i + 1) * a ≤ 99 * a := Nat.mul_le_mul_right a (by omega)
    have h2 : 99 * a ≤ 99 * 99 := Nat.mul_le_mul_left 99 ha2
    omega
  have hpos : (N + 1) * a ≥ 1 := Nat.mul_pos (by omega) ha
  refine ⟨(N + 1) * a, hpos, bnd N (Nat.le_refl _), hN, fun j hj1 hj => ?_, ?_⟩
  · cases q : dq a 0 e 0 j with
    | false => rfl
    | true =>
      exfalso
      have q2 : j % a = 0 := by unfold dq at q; simp at q; exact q.1
      have q3 : (j / a) * a = j := Nat.div_mul_cancel (Nat.dvd_of_mod_eq_zero q2)
      have q4 : 1 ≤ j / a := by
        rcases Nat.eq_zero_or_pos (j / a) with z | z
        · rw [z] at q3; omega
        · exact z
      have q5 : j / a - 1 < N := by
        rcases Nat.lt_or_ge (j / a - 1) N with z | z
        · exact z
        · have := Nat.mul_le_mul_right a (show N + 1 ≤ j / a by omega); omega
      refine hl (j / a - 1) q5 ?_
      show dq a 0 e 0 ((j / a - 1 + 1) * a) = true
      rw [show j / a - 1 + 1 = j / a by omega, q3]; exact q
  · have st : ∀ i, i ≤ N → f_X7_meet_L29 rm (nI a) (nI e) (nI ((i + 1) * a)) = if dq a 0 e 0 ((i + 1) * a) = true then some (.inl (nI ((i + 1) * a), rm)) else some (.inr (nI ((i + 1 + 1) * a))) := by
      intro i hi
      have h1 := bnd i hi
      have h2 := Nat.mod_lt ((i + 1) * a) he
      simp only [f_X7_meet_L29, if_neg gd, xrem_nI (show (i + 1) * a < 2 ^ 31 by omega) he (show e < 2 ^ 31 by omega), show (nI ((i + 1) * a % e) = nI 0) = ((i + 1) * a % e = 0) from propext (nI_eq (by omega) (by omega)), nI_add, dq, Nat.mul_mod_left, show (i + 1) * a + a = (i + 1 + 1) * a from (Nat.succ_mul _ _).symm]
      by_cases q : (i + 1) * a % e = 0
      · simp [q]
      · simp [q]
    refine xl_up (st := fun i => nI ((i + 1) * a)) N (by simp) (by omega) (fun i hi => ?_) ?_
    · rw [st i (by omega), if_neg (hl i hi)]
    · rw [st N (Nat.le_refl _), if_pos hN]
theorem e_meet (hR : RR rx rm) (p1 p2 : Int32) : Pub (f_X6_meet rx p1 p2) (f_X7_meet rm p1 p2) := by
  simp only [f_X6_meet, f_X7_meet, X6_div_eq, X7_within_eq, Option.bind_some, ifb]
  by_cases g1 : wi p1 (nI 1) (nI 99) = true
  · by_cases g3 : wi p2 (nI 1) (nI 99) = true
    · obtain ⟨a, ha, ha2, rfl⟩ := (wi_nI (by omega) (by omega)).mp g1
      obtain ⟨e, he, he2, rfl⟩ := (wi_nI (by omega) (by omega)).mp g3
      simp only [g1, g3, if_true, Bool.and_self]
      obtain ⟨q, q1, q2, q3, q4, q5⟩ := meet7_eq (rm := rm) (a := a) (e := e) (by omega) ha2 (by omega) he2
      rcases firstDay_eq (z := 1) (a := a) (b := 0) (e := e) (f := 0) (by omega) (by omega) ha2 (by omega) (by omega) he2 (by omega) with ⟨k, k1, k2, k3, k4, k5⟩ | ⟨k4, k5⟩
      · have : k = q := by
          rcases Nat.lt_trichotomy k q with z | z | z
          · have := q4 k k1 z; rw [k3] at this; cases this
          · exact z
          · have := k4 q q1 z; rw [q3] at this; cases this
        subst this
        rw [k5, q5]; exact pub_v hR _
      · have := k4 q q1 q2; rw [q3] at this; cases this
    · rw [Bool.not_eq_true] at g3
      simp only [g1, g3, if_true, Bool.and_false]; exact no2 hR
  · rw [Bool.not_eq_true] at g1
    simp only [g1, Bool.false_and]; exact no2 hR
end E
