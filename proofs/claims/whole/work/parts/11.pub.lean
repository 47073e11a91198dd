-- PURE: a public method of both: the same answer, refusals alike
def RR (rx rm : Nat → Int32) : Prop := ∀ i, i < 5 → rx i = rm (i + 2)
def Pub (a b : Option (Int32 × (Nat → Int32))) : Prop := ∃ (v : Int32) (rx rm : Nat → Int32), a = some (v, rx) ∧ b = some (v, rm) ∧ RR rx rm
theorem pub_v {rx rm : Nat → Int32} (h : RR rx rm) (v : Int32) : Pub (some (v, rx)) (some (v, rm)) := ⟨v, rx, rm, rfl, rfl, h⟩
theorem RR_up {rx rm : Nat → Int32} (h : RR rx rm) (k : Nat) (hk : k < 5) : RR (upd rx k (rx k + nI 1)) (upd rm (k + 2) (rm (k + 2) + nI 1)) := by
  intro i hi
  show (if i = k then _ else _) = (if i + 2 = k + 2 then _ else _)
  by_cases e : i = k
  · subst e; rw [if_pos rfl, if_pos rfl, h i hi]
  · rw [if_neg e, if_neg (by omega), h i hi]
theorem pub_no (k : Nat) (hk : k < 5) {c : Int32} (hc : c = (-2 : Int32) - nI k) {rx rm : Nat → Int32} (h : RR rx rm) : Pub ((f_X6_refuse rx c).bind fun u => some (u.1, u.2)) ((f_X7_no rm c).bind fun u => some (u.1, u.2)) := by
  subst hc
  refine ⟨(-2 : Int32) - nI k, _, _, ?_, ?_, RR_up h k hk⟩
  · have e : (-2 : Int32) - ((-2 : Int32) - nI k) = nI k := by
      rcases (show k = 0 ∨ k = 1 ∨ k = 2 ∨ k = 3 ∨ k = 4 by omega) with rfl | rfl | rfl | rfl | rfl <;> decide
    have g1 : ¬ nI k < nI 0 := nI_nneg (by omega)
    have g2 : ¬ nI 5 ≤ nI k := by rw [le_nI (by omega) (by omega)]; omega
    have g3 : ¬ 5 ≤ k := by omega
    simp [f_X6_refuse, e, g1, g2, xout_nI (show k < 2 ^ 31 by omega), g3, xat_nI (show k < 2 ^ 31 by omega)]
  · have e : -((-2 : Int32) - nI k) = nI (k + 2) := by
      rcases (show k = 0 ∨ k = 1 ∨ k = 2 ∨ k = 3 ∨ k = 4 by omega) with rfl | rfl | rfl | rfl | rfl <;> decide
    have g3 : ¬ 7 ≤ k + 2 := by omega
    simp [f_X7_no, e, xout_nI (show k + 2 < 2 ^ 31 by omega), g3, xat_nI (show k + 2 < 2 ^ 31 by omega)]
theorem no2 {rx rm : Nat → Int32} (h : RR rx rm) : Pub ((f_X6_refuse rx (-2)).bind fun u => some (u.1, u.2)) ((f_X7_no rm (-2)).bind fun u => some (u.1, u.2)) := pub_no 0 (by decide) (by decide) h
theorem no3 {rx rm : Nat → Int32} (h : RR rx rm) : Pub ((f_X6_refuse rx (-3)).bind fun u => some (u.1, u.2)) ((f_X7_no rm (-3)).bind fun u => some (u.1, u.2)) := pub_no 1 (by decide) (by decide) h
theorem no4 {rx rm : Nat → Int32} (h : RR rx rm) : Pub ((f_X6_refuse rx (-4)).bind fun u => some (u.1, u.2)) ((f_X7_no rm (-4)).bind fun u => some (u.1, u.2)) := pub_no 2 (by decide) (by decide) h
theorem no5 {rx rm : Nat → Int32} (h : RR rx rm) : Pub ((f_X6_refuse rx (-5)).bind fun u => some (u.1, u.2)) ((f_X7_no rm (-5)).bind fun u => some (u.1, u.2)) := pub_no 3 (by decide) (by decide) h
theorem no6 {rx rm : Nat → Int32} (h : RR rx rm) : Pub ((f_X6_refuse rx (-6)).bind fun u => some (u.1, u.2)) ((f_X7_no rm (-6)).bind fun u => some (u.1, u.2)) := pub_no 4 (by decide) (by decide) h
theorem X7_within_eq (v lo hi : Int32) : f_X7_within v lo hi = some (b2 (wi v lo hi)) := wi_step
theorem X6_isStep_eq (n v : Int32) : f_X6_isStep n v = some (b2 (wi v (nI 0) (n - nI 1))) := by simp only [f_X6_isStep, X6_isWithin_eq, Option.bind_some]
theorem X7_isStep_eq (n v : Int32) : f_X7_isStep n v = some (b2 (wi v (nI 0) (n - nI 1))) := by simp only [f_X7_isStep, X7_within_eq, Option.bind_some]
theorem X7_isLaw_eq (n v : Int32) : f_X7_isLaw n v = some (b2 (wi v (nI 0) (n - nI 1))) := by simp only [f_X7_isLaw, X7_within_eq, Option.bind_some]
theorem X6_asNumber_eq (b : Bool) : f_X6_asNumber (b2 b) = some (b2 b) := by cases b <;> decide
theorem X6_asNumber_1 : f_X6_asNumber (nI 1) = some (nI 1) := by decide
theorem X6_asNumber_0 : f_X6_asNumber (nI 0) = some (nI 0) := by decide
theorem ifb {α : Type} (b : Bool) (x y : α) : (if b2 b = nI 0 then x else y) = if b = true then y else x := by cases b <;> rfl
theorem ifs (b : Bool) : (if b2 b = nI 0 then some (nI 0) else some (nI 1)) = some (b2 b) := by cases b <;> rfl
theorem X6_firstIn_eq {p : Nat → Bool} {n a : Nat} (hn : n ≤ 62) (ha : a ≤ n) : (∃ k, a ≤ k ∧ k < n ∧ p k = true ∧ (∀ j, a ≤ j → j < k → p j = false) ∧ f_X6_firstIn (bI p n) (nI a) (nI n) = some (nI k)) ∨ ((∀ j, a ≤ j → j < n → p j = false) ∧ f_X6_firstIn (bI p n) (nI a) (nI n) = some (-1)) := by
  have st : ∀ i, i < n - a → f_X6_firstIn_L3 (bI p n) (nI n) (nI (a + i)) = if p (a + i) = true then some (.inl (nI (a + i))) else some (.inr (nI (a + (i + 1)))) := by
    intro i hi
    have g : ¬ nI n ≤ nI (a + i) := by rw [le_nI (by omega) (by omega)]; omega
    have h2 := bt_bI p n (by omega) (a + i)
    rw [show decide (a + i < n) = true by simp; omega, Bool.true_and] at h2
    simp only [f_X6_firstIn_L3, if_neg g, X6_isIn_eq (show a + i < 64 by omega), Option.bind_some, h2, ifb, nI_add, Nat.add_assoc]
  rcases xl_find (st := fun i => nI (a + i)) (p := fun i => p (a + i)) (body := f_X6_firstIn_L3 (bI p n) (nI n)) (s0 := nI a) (n - a) (fun i => nI (a + i)) (v1 := -1) rfl (by omega) (fun i hi hp => by rw [st i hi, if_neg (by simp [hp])]) (fun i hi hp => by rw [st i hi, if_pos hp]) (by
    have g : nI n ≤ nI (a + (n - a)) := by rw [le_nI (by omega) (by omega)]; omega
    simp only [f_X6_firstIn_L3, if_pos g]) with ⟨k, h1, h2, h3, h4⟩ | ⟨h1, h2⟩
  · refine Or.inl ⟨a + k, by omega, by omega, h2, fun j h5 h6 => ?_, h4⟩
    have := h3 (j - a) (by omega)
    rwa [show a + (j - a) = j by omega] at this
  · refine Or.inr ⟨fun j h5 h6 => ?_, h2⟩
    have := h1 (j - a) (by omega)
    rwa [show a + (j - a) = j by omega] at this
section A
variable {c f d n : Nat} {kn tn : Nat → Nat} {kx tx km tm rx rm : Nat → Int32} {r : Int64}
theorem e_strikes (hX : LwX c kn tn kx tx) (hM : LwX c kn tn km tm) (hf : FOk c f) (hn : n ≤ 40) (hR : RR rx rm) (p1 : Int32) : Pub (f_X6_strikes (nI f) r (nI n) (nI c) kx tx rx p1) (f_X7_strikes (nI c) (nI f) r (nI n) km tm rm p1) := by
  have hc := hX.1
  have hfl := hf.lt hc
  simp only [f_X6_strikes, f_X7_strikes, X6_isStep_eq, X7_isStep_eq, Option.bind_some, ifb]
  by_cases g : wi p1 (nI 0) (nI n - nI 1) = true
  · obtain ⟨t, ht, rfl⟩ := (wi_lt (by omega)).mp g
    simp only [g, if_true]
    by_cases g2 : nI c = nI 0
    · simp only [g2, if_true]; exact no5 hR
    · simp only [g2, if_false, f_X0_wouldStrike, X2_strikesAt_lst hX hfl (show 0 < n by omega) (show n ≤ 62 by omega) (show t < 2 ^ 20 by omega), X7_strikesNow_eq hM hf (show 0 < n by omega) (show n ≤ 62 by omega) (show t < 2 ^ 20 by omega), Option.bind_some, X6_asNumber_eq, ifb]
      cases lst c kn tn f r n t <;> exact pub_v hR _
  · simp only [g, if_false]; exact no2 hR
theorem e_strikesBy (hX : LwX c kn tn kx tx) (hM : LwX c kn tn km tm) (hn : n ≤ 40) (hR : RR rx rm) (p1 p2 : Int32) : Pub (f_X6_strikesBy r (nI n) (nI c) kx tx rx p1 p2) (f_X7_strikesBy (nI c) r (nI n) km tm rm p1 p2) := by
  have hc := hX.1
  simp only [f_X6_strikesBy, f_X7_strikesBy, X2_isThere_eq, X7_isLaw_eq, X6_isStep_eq, X7_isStep_eq, Option.bind_some, ifb]
  by_cases g : wi p1 (nI 0) (nI c - nI 1) = true
  · obtain ⟨l, hl, rfl⟩ := (wi_lt (by omega)).mp g
    by_cases g2 : wi p2 (nI 0) (nI n - nI 1) = true
    · obtain ⟨t, ht, rfl⟩ := (wi_lt (by omega)).mp g2
      simp only [g, g2, if_true, X2_strikesAt_lst hX (show l < 2 ^ 30 by omega) (show 0 < n by omega) (show n ≤ 62 by omega) (show t < 2 ^ 20 by omega), X7_strikesAt_lst hM hl (show 0 < n by omega) (show n ≤ 62 by omega) (show t < 2 ^ 20 by omega), Option.bind_some, X6_asNumber_eq, ifb]
      cases lst c kn tn l r n t <;> exact pub_v hR _
    · simp only [g, g2, if_true, if_false]; exact no2 hR
  · simp only [g, if_false]; exact no2 hR
theorem e_heard (hX : LwX c kn tn kx tx) (hM : LwX c kn tn km tm) (hf : FOk c f) (hd : d ≤ 9) (hn : n ≤ 40) (hr : ROk n r) (hR : RR rx rm) (p1 p2 : Int32) : Pub (f_X6_heard (nI f) (nI d) r (nI n) (nI c) kx tx rx p1 p2) (f_X7_heard (nI c) (nI f) (nI d) r (nI n) km tm rm p1 p2) := by
  have hc := hX.1
  have hfl := hf.lt hc
  simp only [f_X6_heard, f_X7_heard, X6_isStep_eq, X7_isStep_eq, X6_isWithin_eq, X7_within_eq, Option.bind_some, ifb]
  by_cases g : wi p1 (nI 0) (nI n - nI 1) = true
  · obtain ⟨t, ht, rfl⟩ := (wi_lt (by omega)).mp g
    by_cases g2 : wi p2 (nI 0) (nI 2) = true
    · obtain ⟨w, -, hw, rfl⟩ := (wi_nI (by omega) (by omega)).mp g2
      simp only [g, g2, if_true, X0_sounds_eq hX hfl (show n ≤ 62 by omega) hd hw hr, X7_is_eq hM hf (show 0 < n by omega) (show n ≤ 62 by omega) (show t < 62 by omega) hd hw, X6_isIn_eq (show t < 64 by omega), Option.bind_some, X6_asNumber_eq, ifb]
      rw [bt_bI _ _ (by omega), show decide (t < n) = true by simpa using ht, Bool.true_and]
      cases isw w (lst c kn tn f r n) d r t <;> exact pub_v hR _
    · simp only [g, g2, if_true, if_false]; exact no2 hR
  · simp only [g, if_false]; exact no2 hR
theorem e_all (hX : LwX c kn tn kx tx) (hM : LwX c kn tn km tm) (hf : FOk c f) (hd : d ≤ 9) (hn : n ≤ 40) (hr : ROk n r) (hR : RR rx rm) (p1 : Int32) : Pub (f_X6_all (nI f) (nI d) r (nI n) (nI c) kx tx rx p1) (f_X7_all (nI c) (nI f) (nI d) r (nI n) km tm rm p1) := by
  have hc := hX.1
  have hfl := hf.lt hc
  simp only [f_X6_all, f_X7_all, X6_isWithin_eq, X7_within_eq, Option.bind_some, ifb]
  by_cases g2 : wi p1 (nI 0) (nI 2) = true
  · obtain ⟨w, -, hw, rfl⟩ := (wi_nI (by omega) (by omega)).mp g2
    simp only [g2, if_true, X0_sounds_eq hX hfl (show n ≤ 62 by omega) hd hw hr, X7_many_eq hM hf (show n ≤ 62 by omega) hd hw, bitCount_eq, cnt_bI _ (show n ≤ 64 by omega), Option.bind_some]
    exact pub_v hR _
  · simp only [g2, if_false]; exact no2 hR
theorem e_silent (hX : LwX c kn tn kx tx) (hM : LwX c kn tn km tm) (hf : FOk c f) (hd : d ≤ 9) (hn : n ≤ 40) (hr : ROk n r) (hR : RR rx rm) (p1 : Int32) : Pub (f_X6_silent (nI f) (nI d) r (nI n) (nI c) kx tx rx p1) (f_X7_silent (nI c) (nI f) (nI d) r (nI n) km tm rm p1) := by
  have hc := hX.1
  have hfl := hf.lt hc
  simp only [f_X6_silent, f_X7_silent, X6_isStep_eq, X7_isStep_eq, Option.bind_some, ifb]
  by_cases g : wi p1 (nI 0) (nI n - nI 1) = true
  · obtain ⟨t, ht, rfl⟩ := (wi_lt (by omega)).mp g
    simp only [g, if_true, X0_sounds_eq hX hfl (show n ≤ 62 by omega) hd (show 2 ≤ 2 by omega) hr, Option.bind_some]
    have st : ∀ i, t + i < n → f_X7_silent_L17 (nI c) (nI f) (nI d) r (nI n) km tm rm (nI (t + i)) = if isw 2 (lst c kn tn f r n) d r (t + i) = true then some (.inl (nI (t + i), rm)) else some (.inr (nI (t + (i + 1)))) := by
      intro i hi
      have g : ¬ nI n ≤ nI (t + i) := by rw [le_nI (by omega) (by omega)]; omega
      simp only [f_X7_silent_L17, if_neg g, X7_isHeard_eq hM hf (show 0 < n by omega) (show n ≤ 62 by omega) (show t + i < 62 by omega) hd, Option.bind_some, ifb, nI_add, Nat.add_assoc, isw]
      simp (decide := true) only [if_false]
      cases hrd (lst c kn tn f r n) d r (t + i) <;> simp
    rcases X6_firstIn_eq (p := isw 2 (lst c kn tn f r n) d r) (show n ≤ 62 by omega) (show t ≤ n by omega) with ⟨k, h1, h2, h3, h4, h5⟩ | ⟨h1, h2⟩
    · rw [h5]
      rw [xl_up (st := fun i => nI (t + i)) (k - t) (s0 := nI t) (r := (nI k, rm)) rfl (by omega)]
      · exact pub_v hR _
      · intro i hi
        show f_X7_silent_L17 _ _ _ _ _ _ _ _ (nI (t + i)) = _
        rw [st i (by omega), if_neg (by simp [h4 (t + i) (by omega) (by omega)])]
      · show f_X7_silent_L17 _ _ _ _ _ _ _ _ (nI (t + (k - t))) = _
        rw [st (k - t) (by omega), show t + (k - t) = k by omega, if_pos h3]
    · rw [h2]
      rw [xl_up (st := fun i => nI (t + i)) (n - t) (s0 := nI t) (r := (-1, rm)) rfl (by omega)]
      · exact pub_v hR _
      · intro i hi
        show f_X7_silent_L17 _ _ _ _ _ _ _ _ (nI (t + i)) = _
        rw [st i (by omega), if_neg (by simp [h1 (t + i) (by omega) (by omega)])]
      · have g : nI n ≤ nI (t + (n - t)) := by rw [le_nI (by omega) (by omega)]; omega
        simp only [f_X7_silent_L17, if_pos g]
  · simp only [g, if_false]; exact no2 hR
end A
