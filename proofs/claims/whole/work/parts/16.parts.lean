-- PURE: where two laws part
theorem stk_congr {k a n m t : Nat} {r q : Int64} (hn : t < n) (hm : t < m) (h : ∀ j, j ≤ t → bt r j = bt q j) : stk k a r n t = stk k a q m t := by
  have e1 : t % n = t := Nat.mod_eq_of_lt hn
  have e2 : t % m = t := Nat.mod_eq_of_lt hm
  have e3 : ∀ x, (t - x) % n = t - x := fun x => Nat.mod_eq_of_lt (by omega)
  have e4 : ∀ x, (t - x) % m = t - x := fun x => Nat.mod_eq_of_lt (by omega)
  have e5 : t / n = 0 := Nat.div_eq_of_lt hn
  have e6 : t / m = 0 := Nat.div_eq_of_lt hm
  have e7 : cnt (bt r) t = cnt (bt q) t := cnt_congr (fun i hi => h i (by omega))
  have e8 : ∀ x, bt r (t - x) = bt q (t - x) := fun x => h _ (by omega)
  unfold stk
  simp only [e1, e2, e3, e4, e5, e6, e7, e8, h t (Nat.le_refl t), Nat.zero_mul]
theorem lst_low {c l n t v : Nat} {kn tn : Nat → Nat} (hn : n ≤ 12) (ht : t < n) (hv : v < 2 ^ n) : lst c kn tn l (lN v) n t = lst c kn tn l (lN (v % 2 ^ (t + 1))) (t + 1) t := by
  unfold lst
  rw [stk_congr (q := lN (v % 2 ^ (t + 1))) (m := t + 1) ht (show t < t + 1 by omega) (fun j hj => by
    rw [bt_lN j (by omega), bt_lN j (by omega), Nat.testBit_mod_two_pow]
    simp [show j < t + 1 by omega])]
def ptq (c : Nat) (kn tn : Nat → Nat) (a b n v t : Nat) : Bool := lst c kn tn a (lN v) n t ^^ lst c kn tn b (lN v) n t
theorem xor_ne {a b : Bool} : (a ^^ b) = false ↔ a = b := by cases a <;> cases b <;> decide
theorem xor_ne' {a b : Bool} : (a ^^ b) = true ↔ ¬ a = b := by cases a <;> cases b <;> decide
theorem pt_last {c a b n v : Nat} {kn tn : Nat → Nat} (hn : n ≤ 12) (hv : v < 2 ^ n) (hI : ∀ m, 1 ≤ m → m < n → ∀ w, w < 2 ^ m → ptq c kn tn a b m w (m - 1) = false) (hq : ptq c kn tn a b n v (n - 1) = false) : ∀ t, t < n → lst c kn tn a (lN v) n t = lst c kn tn b (lN v) n t := by
  intro t ht
  by_cases h : t = n - 1
  · subst h; exact xor_ne.mp hq
  · rw [lst_low hn ht hv, lst_low hn ht hv]
    have := hI (t + 1) (by omega) (by omega) (v % 2 ^ (t + 1)) (Nat.mod_lt _ (Nat.two_pow_pos _))
    rw [show t + 1 - 1 = t by omega] at this
    exact xor_ne.mp this
theorem lt_nI {a b : Nat} (ha : a < 2 ^ 31) (hb : b < 2 ^ 31) : (nI a < nI b) = (a < b) := by
  rw [← nle_lt, le_nI hb ha]; exact propext (by omega)
section P
variable {c f d n : Nat} {kn tn : Nat → Nat} {kx tx km tm rx rm : Nat → Int32} {r : Int64}
theorem fpr_eq {a b : Nat} (hX : LwX c kn tn kx tx) (ha : a < c) (hb : b < c) (h0 : 0 < n) (hn : n ≤ 12) : (∃ k, k < 2 ^ n ∧ ptq c kn tn a b n k (n - 1) = true ∧ (∀ j, j < k → ptq c kn tn a b n j (n - 1) = false) ∧ f_X2_firstPartingRing (nI c) kx tx (nI a) (nI b) (nI n) = some (nI k)) ∨ ((∀ j, j < 2 ^ n → ptq c kn tn a b n j (n - 1) = false) ∧ f_X2_firstPartingRing (nI c) kx tx (nI a) (nI b) (nI n) = some (-1)) := by
  have hc := hX.1
  have h2 := two_le hn
  have st : ∀ i, i < 2 ^ n → f_X2_firstPartingRing_L3 (nI c) kx tx (nI a) (nI b) (nI n) (nI i) = if lst c kn tn a (lN i) n (n - 1) = lst c kn tn b (lN i) n (n - 1) then some (.inr (nI (i + 1))) else some (.inl (nI i)) := by
    intro i hi
    have g : ¬ nI (2 ^ n) ≤ nI i := by rw [le_nI (by omega) (by omega)]; omega
    simp only [f_X2_firstPartingRing_L3, shl_nI hn, if_neg g, nI_L (show i < 2 ^ 31 by omega), nI_dif (show 1 ≤ n by omega), X2_strikesAt_lst hX (show a < 2 ^ 30 by omega) h0 (show n ≤ 62 by omega) (show n - 1 < 2 ^ 20 by omega), X2_strikesAt_lst hX (show b < 2 ^ 30 by omega) h0 (show n ≤ 62 by omega) (show n - 1 < 2 ^ 20 by omega), Option.bind_some, eq_b2, nI_add]
  unfold f_X2_firstPartingRing
  exact xl_find (st := fun i => nI i) (p := fun i => ptq c kn tn a b n i (n - 1)) (2 ^ n) (fun i => nI i) (v1 := -1) rfl (by omega) (fun i hi hp => by rw [st i hi, if_pos (xor_ne.mp hp)]) (fun i hi hp => by rw [st i hi, if_neg (xor_ne'.mp hp)]) (by
    have g : nI (2 ^ n) ≤ nI (2 ^ n) := by rw [le_nI (by omega) (by omega)]; omega
    simp only [f_X2_firstPartingRing_L3, shl_nI hn, if_pos g])
theorem m38_eq {a b : Nat} {p3 : Int32} (hM : LwX c kn tn km tm) (ha : a < c) (hb : b < c) (hn : n ≤ 12) (hI : ∀ m, 1 ≤ m → m < n → ∀ w, w < 2 ^ m → ptq c kn tn a b m w (m - 1) = false) (h0 : 0 < n) {i : Nat} (hi : i < 2 ^ n) : f_X7_parts_L38 km tm rm (nI a) (nI b) p3 (nI n) (nI i) = if ptq c kn tn a b n i (n - 1) = false then some (.inr (nI (i + 1))) else some (.inl (.inl (if p3 = nI 0 then nI n else nI i, rm))) := by
  have h2 := two_le hn
  have hc := hM.1
  have g : ¬ nI (2 ^ n) ≤ nI i := by rw [le_nI (by omega) (by omega)]; omega
  simp only [f_X7_parts_L38, shl_nI hn, if_neg g, nI_L (show i < 2 ^ 31 by omega), X7_struckBits_eq hM ha (show n ≤ 62 by omega), X7_struckBits_eq hM hb (show n ≤ 62 by omega), Option.bind_some, xcmp_0, nI_add, bI_eq (show n ≤ 64 by omega)]
  by_cases q : ptq c kn tn a b n i (n - 1) = false
  · rw [if_pos q, if_pos (pt_last hn hi hI q)]
  · rw [if_neg q, if_neg (fun z => q (xor_ne.mpr (z (n - 1) (by omega))))]
    by_cases q3 : p3 = nI 0
    · rw [if_pos q3, if_pos q3]
    · rw [if_neg q3, if_neg q3]
theorem e_parts (hX : LwX c kn tn kx tx) (hM : LwX c kn tn km tm) (hR : RR rx rm) (p1 p2 p3 : Int32) : Pub (f_X6_parts (nI c) kx tx rx p1 p2 p3) (f_X7_parts (nI c) km tm rm p1 p2 p3) := by
  have hc := hX.1
  simp only [f_X6_parts, f_X7_parts, X6_two_eq, X7_two_eq, X6_isWithin_eq, X7_within_eq, Option.bind_some, ifb]
  by_cases g : twoL c p1 p2 = true
  · obtain ⟨a, b, ha, hb, rfl, rfl⟩ := twoL_of hc g
    by_cases g2 : wi p3 (nI 0) (nI 1) = true
    · simp only [g, g2, if_true]
      refine pub_of (xl_pair (fun i s t => s = nI (i + 1) ∧ t = nI (i + 1) ∧ ∀ m, 1 ≤ m → m < i + 1 → ∀ w, w < 2 ^ m → ptq c kn tn a b m w (m - 1) = false) _ 12 (by omega) ⟨rfl, rfl, fun m hm hm2 w hw => by omega⟩ (fun i s t hi hI => ?_))
      obtain ⟨rfl, rfl, hI⟩ := hI
      by_cases h : i < 12
      · have ga : ¬ nI 12 < nI (i + 1) := by rw [lt_nI (by omega) (by omega)]; omega
        have gb : ¬ nI 13 ≤ nI (i + 1) := by rw [le_nI (by omega) (by omega)]; omega
        have hn : i + 1 ≤ 12 := by omega
        have h2 := two_le hn
        simp only [f_X6_parts_L28, f_X7_parts_L28, if_neg ga, if_neg gb, nI_add]
        have hm : (∃ k, k < 2 ^ (i + 1) ∧ ptq c kn tn a b (i + 1) k (i + 1 - 1) = true ∧ (∀ j, j < k → ptq c kn tn a b (i + 1) j (i + 1 - 1) = false) ∧ xloop (f_X7_parts_L38 km tm rm (nI a) (nI b) p3 (nI (i + 1))) xN (nI 0) = some (.inl (if p3 = nI 0 then nI (i + 1) else nI k, rm))) ∨ ((∀ j, j < 2 ^ (i + 1) → ptq c kn tn a b (i + 1) j (i + 1 - 1) = false) ∧ xloop (f_X7_parts_L38 km tm rm (nI a) (nI b) p3 (nI (i + 1))) xN (nI 0) = some (.inr (nI (i + 1 + 1)))) := by
          refine xl_find (R := (Int32 × (Nat → Int32)) ⊕ Int32) (body := f_X7_parts_L38 km tm rm (nI a) (nI b) p3 (nI (i + 1))) (st := fun i => nI i) (p := fun v => ptq c kn tn a b (i + 1) v (i + 1 - 1)) (2 ^ (i + 1)) (fun v => .inl (if p3 = nI 0 then nI (i + 1) else nI v, rm)) rfl (by omega) (fun v hv hp => by rw [m38_eq hM ha hb hn hI (by omega) hv, if_pos hp]) (fun v hv hp => by rw [m38_eq hM ha hb hn hI (by omega) hv, if_neg (by rw [hp]; decide)]) (by
            have g : nI (2 ^ (i + 1)) ≤ nI (2 ^ (i + 1)) := by rw [le_nI (by omega) (by omega)]; omega
            simp only [f_X7_parts_L38, shl_nI hn, if_pos g, nI_add])
        rcases fpr_eq (n := i + 1) hX ha hb (by omega) hn with ⟨k, k1, k2, k3, k4⟩ | ⟨k1, k4⟩
        · rcases hm with ⟨q, q1, q2, q3, q4⟩ | ⟨q1, q4⟩
          · have e : k = q := by
              rcases Nat.lt_trichotomy k q with z | z | z
              · have := q3 k z; rw [k2] at this; cases this
              · exact z
              · have := k3 q z; rw [q2] at this; cases this
            subst e
            have g3 : ¬ nI k = (-1 : Int32) := nI_nm1 (by omega)
            left
            rw [k4, q4]
            simp only [Option.bind_some, if_neg g3]
            by_cases q5 : p3 = nI 0
            · simp only [if_pos q5]; exact ⟨_, _, rfl, rfl, rfl, hR⟩
            · simp only [if_neg q5]; exact ⟨_, _, rfl, rfl, rfl, hR⟩
          · have := q1 k k1; rw [k2] at this; cases this
        · rcases hm with ⟨q, q1, q2, q3, q4⟩ | ⟨q1, q4⟩
          · have := k1 q q1; rw [q2] at this; cases this
          · right
            rw [k4, q4]
            refine ⟨h, _, _, by simp only [Option.bind_some, if_true], rfl, rfl, rfl, fun m hm hm2 w hw => ?_⟩
            by_cases z : m = i + 1
            · subst z; exact k1 w hw
            · exact hI m hm (by omega) w hw
      · have e : i = 12 := by omega
        subst e
        have ga : nI 12 < nI (12 + 1) := by rw [lt_nI (by omega) (by omega)]; omega
        have gb : nI 13 ≤ nI (12 + 1) := by rw [le_nI (by omega) (by omega)]; omega
        simp only [f_X6_parts_L28, f_X7_parts_L28, if_pos ga, if_pos gb]
        exact Or.inl ⟨_, _, rfl, rfl, rfl, hR⟩
    · simp only [g, g2, if_true, if_false]; exact no2 hR
  · simp only [g, if_false]; exact no2 hR
end P
