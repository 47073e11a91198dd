-- PURE: where it strikes, what is heard
def LwX (c : Nat) (kn tn : Nat → Nat) (kinds tunes : Nat → Int32) : Prop := c ≤ 6 ∧ ∀ l, l < c → kinds l = nI (kn l) ∧ tunes l = nI (tn l) ∧ kn l ≤ 5 ∧ tn l ≤ 9
/-- whether the law of a number strikes -/
def lst (c : Nat) (kn tn : Nat → Nat) (l : Nat) (r : Int64) (n t : Nat) : Bool := decide (l < c) && stk (kn l) (tn l) r n t
theorem X2_strikesAt_lst {c l n t : Nat} {kn tn : Nat → Nat} {kinds tunes : Nat → Int32} {r : Int64} (hL : LwX c kn tn kinds tunes) (hl : l < 2 ^ 30) (h0 : 0 < n) (hn : n ≤ 62) (ht : t < 2 ^ 20) :
    f_X2_strikesAt (nI c) kinds tunes (nI l) r (nI n) (nI t) = some (b2 (lst c kn tn l r n t)) := by
  obtain ⟨hc, hL⟩ := hL
  by_cases h : l < c
  · obtain ⟨a1, a2, a3, a4⟩ := hL l h
    rw [X2_strikesAt_eq hc h a1 a2 a3 a4 h0 hn ht]
    simp [lst, h]
  · have e1 : wi (nI l) (nI 0) (nI c - nI 1) = false := by
      cases q : wi (nI l) (nI 0) (nI c - nI 1) with
      | false => rfl
      | true =>
        obtain ⟨j, hj, he⟩ := (wi_lt (by omega)).mp q
        rw [nI_eq (by omega) (by omega)] at he
        omega
    simp [f_X2_strikesAt, X2_isThere_eq, e1, b2, lst, h]
theorem X7_strikesAt_lst {c l n t : Nat} {kn tn : Nat → Nat} {kinds tunes : Nat → Int32} {r : Int64} (hL : LwX c kn tn kinds tunes) (hl : l < c) (h0 : 0 < n) (hn : n ≤ 62) (ht : t < 2 ^ 20) :
    f_X7_strikesAt kinds tunes (nI l) r (nI n) (nI t) = some (b2 (lst c kn tn l r n t)) := by
  obtain ⟨hc, hL⟩ := hL
  obtain ⟨a1, a2, a3, a4⟩ := hL l hl
  rw [X7_strikesAt_eq (by omega) a1 a2 a3 a4 h0 hn ht]
  simp [lst, hl]
theorem le_nI {a b : Nat} (ha : a < 2 ^ 31) (hb : b < 2 ^ 31) : (nI a ≤ nI b) = (a ≤ b) := propext (nI_leI ha hb)
theorem X2_struck_eq {c l n f : Nat} {kn tn : Nat → Nat} {kinds tunes : Nat → Int32} {r : Int64} (hL : LwX c kn tn kinds tunes) (hl : l < 2 ^ 30) (hn : n ≤ 62) (hf : f < 2 ^ 19) :
    f_X2_struck (nI c) kinds tunes (nI l) r (nI n) (nI f) = some (bI (fun i => lst c kn tn l r n (f + i)) n) := by
  unfold f_X2_struck
  refine xl_up (st := fun i => (bI (fun i => lst c kn tn l r n (f + i)) i, nI i)) n rfl (by omega) (fun i hi => ?_) ?_
  · have g : ¬ nI n ≤ nI i := by rw [le_nI (by omega) (by omega)]; omega
    simp only [f_X2_struck_L6, if_neg g, nI_add, X2_strikesAt_lst hL hl (show 0 < n by omega) hn (show f + i < 2 ^ 20 by omega), Option.bind_some, b2_0, bI]
    by_cases hq : lst c kn tn l r n (f + i) = true <;> simp [hq]
  · have g : nI n ≤ nI n := by rw [le_nI (by omega) (by omega)]; omega
    simp only [f_X2_struck_L6, if_pos g]
theorem X0_struck_eq {c l n : Nat} {kn tn : Nat → Nat} {kinds tunes : Nat → Int32} {r : Int64} (hL : LwX c kn tn kinds tunes) (hl : l < 2 ^ 30) (hn : n ≤ 62) :
    f_X0_struck (nI n) (nI c) kinds tunes (nI l) r = some (bI (lst c kn tn l r n) n) := by
  simp only [f_X0_struck, X2_struck_eq hL hl hn (show 0 < 2 ^ 19 by omega), Option.bind_some, Nat.zero_add]
theorem cnt_bI (p : Nat → Bool) {n : Nat} (hn : n ≤ 64) : cnt (bt (bI p n)) 64 = cnt p n := cnt_ext hn (fun i _ => bt_bI p n hn i)
theorem X0_timesStruck_eq {c l n : Nat} {kn tn : Nat → Nat} {kinds tunes : Nat → Int32} {r : Int64} (hL : LwX c kn tn kinds tunes) (hl : l < 2 ^ 30) (hn : n ≤ 62) :
    f_X0_timesStruck (nI n) (nI c) kinds tunes (nI l) r = some (nI (cnt (lst c kn tn l r n) n)) := by
  simp only [f_X0_timesStruck, X0_struck_eq hL hl hn, Option.bind_some, bitCount_eq, cnt_bI _ (show n ≤ 64 by omega)]
theorem X7_struckBits_eq {c l n : Nat} {kn tn : Nat → Nat} {kinds tunes : Nat → Int32} {r : Int64} (hL : LwX c kn tn kinds tunes) (hl : l < c) (hn : n ≤ 62) :
    f_X7_struckBits kinds tunes (nI l) r (nI n) = some (bI (lst c kn tn l r n) n) := by
  unfold f_X7_struckBits
  refine xl_up (st := fun i => (bI (lst c kn tn l r n) i, nI i)) n rfl (by omega) (fun i hi => ?_) ?_
  · have g : ¬ nI n ≤ nI i := by rw [le_nI (by omega) (by omega)]; omega
    simp only [f_X7_struckBits_L6, if_neg g, nI_add, X7_strikesAt_lst hL hl (show 0 < n by omega) hn (show i < 2 ^ 20 by omega), Option.bind_some, b2_0, bI]
    cases lst c kn tn l r n i <;> simp
  · have g : nI n ≤ nI n := by rw [le_nI (by omega) (by omega)]; omega
    simp only [f_X7_struckBits_L6, if_pos g]
theorem X7_struck_eq {c l n : Nat} {kn tn : Nat → Nat} {kinds tunes : Nat → Int32} {r : Int64} (hL : LwX c kn tn kinds tunes) (hl : l < c) (hn : n ≤ 62) :
    f_X7_struck kinds tunes (nI l) r (nI n) = some (nI (cnt (lst c kn tn l r n) n)) := by
  unfold f_X7_struck
  refine xl_up (st := fun i => (nI (cnt (lst c kn tn l r n) i), nI i)) n rfl (by omega) (fun i hi => ?_) ?_
  · have g : ¬ nI n ≤ nI i := by rw [le_nI (by omega) (by omega)]; omega
    simp only [f_X7_struck_L6, if_neg g, nI_add, X7_strikesAt_lst hL hl (show 0 < n by omega) hn (show i < 2 ^ 20 by omega), Option.bind_some, b2_0, cnt]
    cases lst c kn tn l r n i <;> simp
  · have g : nI n ≤ nI n := by rw [le_nI (by omega) (by omega)]; omega
    simp only [f_X7_struck_L6, if_pos g]
/-- the law in force is there, or there is none -/
def FOk (c f : Nat) : Prop := f < c ∨ (c = 0 ∧ f = 0)
theorem FOk.lt {c f : Nat} (h : FOk c f) (hc : c ≤ 6) : f < 2 ^ 30 := by unfold FOk at h; omega
theorem cnt_none {p : Nat → Bool} : ∀ {n : Nat}, (∀ i, i < n → p i = false) → cnt p n = 0
  | 0, _ => rfl
  | n + 1, h => by rw [cnt, cnt_none (fun i hi => h i (by omega)), h n (by omega)]; simp
theorem X7_struckNow_eq {c f n : Nat} {kn tn : Nat → Nat} {kinds tunes : Nat → Int32} {r : Int64} (hL : LwX c kn tn kinds tunes) (hf : FOk c f) (hn : n ≤ 62) :
    f_X7_struckNow (nI c) (nI f) kinds tunes r (nI n) = some (nI (cnt (lst c kn tn f r n) n)) := by
  have hc := hL.1
  by_cases h : c = 0
  · subst h
    rw [cnt_none (fun i _ => by simp [lst])]
    simp [f_X7_struckNow]
  · have g : ¬ nI c = nI 0 := by rw [nI_e0 (by omega)]; exact h
    simp only [f_X7_struckNow, if_neg g, X7_struck_eq hL (show f < c by unfold FOk at hf; omega) hn, Option.bind_some]
theorem X7_strikesNow_eq {c f n t : Nat} {kn tn : Nat → Nat} {kinds tunes : Nat → Int32} {r : Int64} (hL : LwX c kn tn kinds tunes) (hf : FOk c f) (h0 : 0 < n) (hn : n ≤ 62) (ht : t < 2 ^ 20) :
    f_X7_strikesNow (nI c) (nI f) kinds tunes r (nI n) (nI t) = some (b2 (lst c kn tn f r n t)) := by
  have hc := hL.1
  by_cases h : c = 0
  · subst h
    have g : nI 0 ≤ nI 0 := by rw [le_nI (by omega) (by omega)]; omega
    simp [f_X7_strikesNow, g, lst, b2]
  · have g : ¬ nI c ≤ nI 0 := by rw [le_nI (by omega) (by omega)]; omega
    have g2 : ¬ nI t < nI 0 := nI_nneg (by omega)
    simp only [f_X7_strikesNow, if_neg g, if_neg g2, X7_strikesAt_lst hL (show f < c by unfold FOk at hf; omega) h0 hn ht, Option.bind_some, b2_0]
    cases lst c kn tn f r n t <;> simp [b2]
theorem X7_strikesNow_neg {c f n : Nat} {kinds tunes : Nat → Int32} {r : Int64} {x : Int32} (hx : x < nI 0) : f_X7_strikesNow (nI c) (nI f) kinds tunes r (nI n) x = some (nI 0) := by
  simp [f_X7_strikesNow, hx]
def hrd (p : Nat → Bool) (d : Nat) (r : Int64) (t : Nat) : Bool := bt r t || (decide (d ≤ t) && p (t - d))
def bth (p : Nat → Bool) (d : Nat) (r : Int64) (t : Nat) : Bool := bt r t && (decide (d ≤ t) && p (t - d))
def isw (w : Nat) (p : Nat → Bool) (d : Nat) (r : Int64) (t : Nat) : Bool := if w = 0 then hrd p d r t else if w = 1 then bth p d r t else !hrd p d r t
theorem X7_isHeard_eq {c f d n t : Nat} {kn tn : Nat → Nat} {kinds tunes : Nat → Int32} {r : Int64} (hL : LwX c kn tn kinds tunes) (hf : FOk c f) (h0 : 0 < n) (hn : n ≤ 62) (ht : t < 62) (hd : d ≤ 9) :
    f_X7_isHeard (nI c) (nI f) (nI d) kinds tunes r (nI n) (nI t) = some (b2 (hrd (lst c kn tn f r n) d r t)) := by
  simp only [f_X7_isHeard, X7_has_eq (show t < 64 by omega), Option.bind_some, b2_0]
  unfold hrd
  by_cases h : d ≤ t
  · rw [nI_dif h, X7_strikesNow_eq hL hf h0 hn (by omega)]
    cases bt r t <;> cases lst c kn tn f r n (t - d) <;> simp [h, b2, nI_e0]
  · rw [X7_strikesNow_neg (nI_neg (by omega) (by omega))]
    cases bt r t <;> simp [h, b2]
theorem X7_isBoth_eq {c f d n t : Nat} {kn tn : Nat → Nat} {kinds tunes : Nat → Int32} {r : Int64} (hL : LwX c kn tn kinds tunes) (hf : FOk c f) (h0 : 0 < n) (hn : n ≤ 62) (ht : t < 62) (hd : d ≤ 9) :
    f_X7_isBoth (nI c) (nI f) (nI d) kinds tunes r (nI n) (nI t) = some (b2 (bth (lst c kn tn f r n) d r t)) := by
  simp only [f_X7_isBoth, X7_has_eq (show t < 64 by omega), Option.bind_some, b2_0]
  unfold bth
  by_cases h : d ≤ t
  · rw [nI_dif h, X7_strikesNow_eq hL hf h0 hn (by omega)]
    cases bt r t <;> cases lst c kn tn f r n (t - d) <;> simp [h, b2, nI_e0]
  · rw [X7_strikesNow_neg (nI_neg (by omega) (by omega))]
    cases bt r t <;> simp [h, b2]
theorem X7_is_eq {c f d n t w : Nat} {kn tn : Nat → Nat} {kinds tunes : Nat → Int32} {r : Int64} (hL : LwX c kn tn kinds tunes) (hf : FOk c f) (h0 : 0 < n) (hn : n ≤ 62) (ht : t < 62) (hd : d ≤ 9) (hw : w ≤ 2) :
    f_X7_is (nI c) (nI f) (nI d) kinds tunes r (nI n) (nI t) (nI w) = some (b2 (isw w (lst c kn tn f r n) d r t)) := by
  have e1 : (nI w = nI 0) = (w = 0) := propext (nI_eq (by omega) (by omega))
  have e2 : (nI w = nI 1) = (w = 1) := propext (nI_eq (by omega) (by omega))
  simp only [f_X7_is, e1, e2, X7_isHeard_eq hL hf h0 hn ht hd, X7_isBoth_eq hL hf h0 hn ht hd, Option.bind_some, b2_0]
  unfold isw
  rcases (show w = 0 ∨ w = 1 ∨ w = 2 by omega) with rfl | rfl | rfl
  · simp
  · simp
  · cases hrd (lst c kn tn f r n) d r t <;> simp [b2]
theorem X7_many_eq {c f d n w : Nat} {kn tn : Nat → Nat} {kinds tunes : Nat → Int32} {r : Int64} (hL : LwX c kn tn kinds tunes) (hf : FOk c f) (hn : n ≤ 62) (hd : d ≤ 9) (hw : w ≤ 2) :
    f_X7_many (nI c) (nI f) (nI d) kinds tunes r (nI n) (nI w) = some (nI (cnt (isw w (lst c kn tn f r n) d r) n)) := by
  unfold f_X7_many
  refine xl_up (st := fun i => (nI (cnt (isw w (lst c kn tn f r n) d r) i), nI i)) n rfl (by omega) (fun i hi => ?_) ?_
  · have g : ¬ nI n ≤ nI i := by rw [le_nI (by omega) (by omega)]; omega
    simp only [f_X7_many_L6, if_neg g, nI_add, X7_is_eq hL hf (show 0 < n by omega) hn (show i < 62 by omega) hd hw, Option.bind_some, b2_0, cnt]
    cases isw w (lst c kn tn f r n) d r i <;> simp
  · have g : nI n ≤ nI n := by rw [le_nI (by omega) (by omega)]; omega
    simp only [f_X7_many_L6, if_pos g]
theorem X7_heardBits_eq {c f d n : Nat} {kn tn : Nat → Nat} {kinds tunes : Nat → Int32} {r : Int64} (hL : LwX c kn tn kinds tunes) (hf : FOk c f) (hn : n ≤ 62) (hd : d ≤ 9) :
    f_X7_heardBits (nI c) (nI f) (nI d) kinds tunes r (nI n) = some (bI (hrd (lst c kn tn f r n) d r) n) := by
  unfold f_X7_heardBits
  refine xl_up (st := fun i => (bI (hrd (lst c kn tn f r n) d r) i, nI i)) n rfl (by omega) (fun i hi => ?_) ?_
  · have g : ¬ nI n ≤ nI i := by rw [le_nI (by omega) (by omega)]; omega
    simp only [f_X7_heardBits_L6, if_neg g, nI_add, X7_isHeard_eq hL hf (show 0 < n by omega) hn (show i < 62 by omega) hd, Option.bind_some, b2_0, bI]
    cases hrd (lst c kn tn f r n) d r i <;> simp
  · have g : nI n ≤ nI n := by rw [le_nI (by omega) (by omega)]; omega
    simp only [f_X7_heardBits_L6, if_pos g]
/-- no bit stands behind the last step -/
def ROk (n : Nat) (r : Int64) : Prop := ∀ i, n ≤ i → bt r i = false
theorem bt_risen {p : Nat → Bool} {d n : Nat} (hn : n ≤ 62) (hd : d ≤ 9) (i : Nat) : bt (xlshl (bI p n) (nI d) &&& fb n) i = (decide (i < n) && (decide (d ≤ i) && p (i - d))) := by
  rw [bt_and, bt_shl _ (by omega), bt_fb hn, bt_bI _ _ (by omega)]
  by_cases h1 : i < n
  · have : i < 64 := by omega
    have : i - d < n := by omega
    simp [*]
  · simp [h1]
theorem X0_risen_eq {c l d n : Nat} {kn tn : Nat → Nat} {kinds tunes : Nat → Int32} {r : Int64} (hL : LwX c kn tn kinds tunes) (hl : l < 2 ^ 30) (hn : n ≤ 62) (hd : d ≤ 9) :
    f_X0_risen r (nI n) (nI c) kinds tunes (nI l) (nI d) = some (xlshl (bI (lst c kn tn l r n) n) (nI d) &&& fb n) := by
  simp only [f_X0_risen, X0_struck_eq hL hl hn, f_X6_firstBits, Option.bind_some]; rfl
theorem X0_sounds_eq {c f d n w : Nat} {kn tn : Nat → Nat} {kinds tunes : Nat → Int32} {r : Int64} (hL : LwX c kn tn kinds tunes) (hf : f < 2 ^ 30) (hn : n ≤ 62) (hd : d ≤ 9) (hw : w ≤ 2) (hr : ROk n r) :
    f_X0_sounds (nI f) (nI d) (nI c) kinds tunes r (nI n) (nI w) = some (bI (isw w (lst c kn tn f r n) d r) n) := by
  have e1 : (nI w = nI 0) = (w = 0) := propext (nI_eq (by omega) (by omega))
  have e2 : (nI w = nI 2) = (w = 2) := propext (nI_eq (by omega) (by omega))
  have hb := fun i => bt_risen (p := lst c kn tn f r n) hn hd i
  simp only [f_X0_sounds, X2_struck_eq hL hf hn (show 0 < 2 ^ 19 by omega), f_X6_firstBits, Option.bind_some, Nat.zero_add, e1, e2]
  rcases (show w = 0 ∨ w = 1 ∨ w = 2 by omega) with rfl | rfl | rfl
  · simp only [if_true]
    refine congrArg some (bI_of (by omega) (fun i hi => ?_))
    rw [bt_or]
    have := hb i
    unfold fb at this
    rw [this]
    unfold isw hrd
    by_cases h : i < n
    · simp [h]
    · simp [h, hr i (by omega)]
  · simp (decide := true) only [if_true, if_false]
    refine congrArg some (bI_of (by omega) (fun i hi => ?_))
    rw [bt_and]
    have := hb i
    unfold fb at this
    rw [this]
    unfold isw bth
    by_cases h : i < n
    · simp [h]
    · simp [h]
  · simp (decide := true) only [if_true, if_false]
    refine congrArg some (bI_of (by omega) (fun i hi => ?_))
    have := hb i
    have h2 := bt_fb hn i
    unfold fb at this h2
    rw [bt_and, bt_xor, bt_or, this, h2, bt_m1 i hi]
    unfold isw hrd
    by_cases h : i < n
    · simp [h]
    · simp [h]
