-- PURE: how many sums are reached
theorem cnt_ad (p : Nat → Bool) (a : Nat) : ∀ b, cnt p (a + b) = cnt p a + cnt (fun i => p (a + i)) b
  | 0 => rfl
  | b + 1 => by
    have := cnt_ad p a b
    show cnt p (a + b) + _ = _
    rw [this]
    exact Nat.add_assoc _ _ _
section R
variable {P c n : Nat} {g : Nat → Nat} {ax am rx rm sm : Nat → Int32} {sx : Nat → Int64}
def mkd (g : Nat → Nat) (P i s : Nat) : Bool := decide (∃ v, v < i ∧ sg g v P = s)
theorem mkd_s (i s : Nat) : mkd g P (i + 1) s = (mkd g P i s || decide (sg g i P = s)) := by
  unfold mkd
  by_cases h : ∃ v, v < i ∧ sg g v P = s
  · have : ∃ v, v < i + 1 ∧ sg g v P = s := by obtain ⟨v, h1, h2⟩ := h; exact ⟨v, by omega, h2⟩
    simp only [decide_eq_true h, decide_eq_true this, Bool.true_or]
  · by_cases h2 : sg g i P = s
    · have : ∃ v, v < i + 1 ∧ sg g v P = s := ⟨i, by omega, h2⟩
      simp only [decide_eq_true this, decide_eq_true h2, Bool.or_true]
    · have : ¬ ∃ v, v < i + 1 ∧ sg g v P = s := by
        rintro ⟨v, h3, h4⟩
        by_cases z : v = i
        · subst z; exact h2 h4
        · exact h ⟨v, by omega, h4⟩
      simp only [decide_eq_false h, decide_eq_false this, decide_eq_false h2, Bool.or_false]
theorem mkd_0 (s : Nat) : mkd g P 0 s = false := by
  unfold mkd
  refine decide_eq_false ?_
  rintro ⟨v, h, -⟩; omega
theorem w_all : (List.range 1000).all (fun s => xshr (nI s) (nI 6) == nI (s / 64) && (nI s &&& nI 63) == nI (s % 64)) = true := by decide +kernel
theorem w_sh {s : Nat} (h : s < 1000) : xshr (nI s) (nI 6) = nI (s / 64) ∧ (nI s &&& nI 63) = nI (s % 64) := by
  have := List.all_eq_true.mp w_all s (List.mem_range.mpr h)
  simpa using this
theorem mark_eq {s : Nat} (h : s < 1000) (e : Nat → Int64) : f_X3_mark e (nI s) = some (vp_updL e (s / 64) (e (s / 64) ||| xlshl (lN 1) (nI (s % 64)))) := by
  obtain ⟨h1, h2⟩ := w_sh h
  have g1 : ¬ nI (s / 64) < nI 0 := nI_nneg (by omega)
  have g2 : ¬ nI 16 ≤ nI (s / 64) := by rw [le_nI (by omega) (by omega)]; omega
  unfold f_X3_mark
  rw [h1, h2, if_neg g1, if_neg g2, xout_s (show s / 64 < 16 by omega) (show 16 < 2 ^ 31 by omega), xat_nI (show s / 64 < 2 ^ 31 by omega)]
  rfl
/-- what the class has marked -/
def MX (g : Nat → Nat) (P p i : Nat) (e : Nat → Int64) : Prop := ∀ w, w < 16 → ∀ b, b < 64 → bt (e w) b = (decide (64 * w + b ≤ p) && mkd g P i (64 * w + b))
def MM (g : Nat → Nat) (P i : Nat) (e : Nat → Int32) : Prop := ∀ s, s < 1000 → e s = b2 (mkd g P i s)
theorem sums_26 (h : PpOk P g ax am) {p : Nat} (hp : p ≤ 999) {i : Nat} (hi : i < 2 ^ P) {e : Nat → Int64} (he : MX g P p i e) : ∃ e', f_X3_howManySums_L26 (nI P) ax (nI p) (nI i, e) = some (.inr (nI (i + 1), e')) ∧ MX g P p (i + 1) e' := by
  have hP := h.1
  have h2 : 2 ^ P ≤ 1024 := Nat.pow_le_pow_right (n := 2) (by decide) hP
  have ga : ¬ nI (2 ^ P) ≤ nI i := by rw [le_nI (by omega) (by omega)]; omega
  have hu := h.le i
  unfold f_X3_howManySums_L26
  rw [shl_nI (show P ≤ 12 by omega), if_neg ga, agesOf_eq h (show i < 2 ^ 31 by omega), Option.bind_some, nI_add]
  by_cases q : nI p < nI (sg g i P)
  · rw [if_pos q]
    rw [lt_nI (by omega) (by omega)] at q
    refine ⟨e, rfl, fun w hw b hb => ?_⟩
    rw [he w hw b hb, mkd_s]
    by_cases z : 64 * w + b ≤ p
    · rw [decide_eq_false (show ¬ sg g i P = 64 * w + b by omega), Bool.or_false]
    · simp only [decide_eq_false z, Bool.false_and]
  · rw [if_neg q, mark_eq (show sg g i P < 1000 by omega), Option.bind_some]
    rw [lt_nI (by omega) (by omega)] at q
    refine ⟨_, rfl, fun w hw b hb => ?_⟩
    rw [mkd_s]
    by_cases z : w = sg g i P / 64
    · subst z
      rw [updL_s, bt_or, bt_one (by omega), he _ hw b hb]
      by_cases y : b = sg g i P % 64
      · have e1 : 64 * (sg g i P / 64) + b = sg g i P := by omega
        rw [e1, decide_eq_true y, decide_eq_true (show sg g i P ≤ p by omega)]; simp
      · have e1 : ¬ sg g i P = 64 * (sg g i P / 64) + b := by omega
        rw [decide_eq_false y, decide_eq_false e1, Bool.or_false, Bool.or_false]
    · have e1 : ¬ sg g i P = 64 * w + b := by omega
      rw [updL_o _ _ z, he w hw b hb, decide_eq_false e1, Bool.or_false]
theorem sums_42 (h : PpOk P g ax am) {p1 : Int32} {i : Nat} (hi : i < 2 ^ P) {e : Nat → Int32} (he : MM g P i e) : ∃ e', f_X7_reached_L42 (nI P) am rm p1 (nI i, e) = some (.inr (nI (i + 1), e')) ∧ MM g P (i + 1) e' := by
  have hP := h.1
  have h2 : 2 ^ P ≤ 1024 := Nat.pow_le_pow_right (n := 2) (by decide) hP
  have ga : ¬ nI (2 ^ P) ≤ nI i := by rw [le_nI (by omega) (by omega)]; omega
  have hu := h.le i
  unfold f_X7_reached_L42
  rw [shl_nI (show P ≤ 12 by omega), if_neg ga, ageOf7_eq h (show i < 2 ^ 31 by omega), Option.bind_some, nI_add, xout_s (show sg g i P < 1000 by omega) (show 1000 < 2 ^ 31 by omega), xat_nI (show sg g i P < 2 ^ 31 by omega)]
  refine ⟨_, rfl, fun s hs => ?_⟩
  rw [mkd_s]
  by_cases z : s = sg g i P
  · subst z; rw [upd_s, decide_eq_true rfl, Bool.or_true]; rfl
  · rw [upd_o _ _ z, show (nI i, e).snd = e from rfl, he s hs, decide_eq_false (fun y => z y.symm), Bool.or_false]
theorem sums_62 {s0 : Int32} {p : Nat} (hp : p ≤ 999) {i : Nat} {e : Nat → Int64} (he : MX g P p i e) : xloop (f_X3_howManySums_L62 (s0, e)) xN (nI 0, nI 0) = some (.inl (.inl (nI (cnt (fun s => decide (s ≤ p) && mkd g P i s) (64 * 16)), e))) := by
  refine xl_up (st := fun w => (nI (cnt (fun s => decide (s ≤ p) && mkd g P i s) (64 * w)), nI w)) 16 rfl (by omega) (fun w hw => ?_) ?_
  · have g1 : ¬ nI 16 ≤ nI w := by rw [le_nI (by omega) (by omega)]; omega
    unfold f_X3_howManySums_L62
    rw [if_neg g1, xout_s hw (show 16 < 2 ^ 31 by omega), xat_nI (show w < 2 ^ 31 by omega), bitCount_eq, cnt_congr (he w hw)]
    show some (Sum.inr (nI _ + nI _, nI w + nI 1)) = _
    rw [nI_add, nI_add, show 64 * (w + 1) = 64 * w + 64 by omega, cnt_ad]
  · have g1 : nI 16 ≤ nI 16 := by rw [le_nI (by omega) (by omega)]; omega
    unfold f_X3_howManySums_L62
    rw [if_pos g1]
theorem sums_73 {s0 : Int32} {p : Nat} (hp : p ≤ 999) {i : Nat} {e : Nat → Int32} (he : MM g P i e) : xloop (f_X7_reached_L73 rm (nI p) (s0, e)) xN (nI 0, nI 0) = some (.inl (.inl (nI (cnt (mkd g P i) (p + 1)), rm, e))) := by
  refine xl_up (st := fun s => (nI (cnt (mkd g P i) s), nI s)) (p + 1) rfl (by omega) (fun s hs => ?_) ?_
  · have g1 : ¬ nI p < nI s := by rw [lt_nI (by omega) (by omega)]; omega
    unfold f_X7_reached_L73
    simp only [if_neg g1, xout_s (show s < 1000 by omega) (show 1000 < 2 ^ 31 by omega), xat_nI (show s < 2 ^ 31 by omega), he s (by omega), b2_0, nI_add, cnt]
    cases mkd g P i s <;> simp
  · have g1 : nI p < nI (p + 1) := by rw [lt_nI (by omega) (by omega)]; omega
    unfold f_X7_reached_L73
    rw [if_pos g1]
theorem run_I {S R : Type} {body : S → Option (R ⊕ S)} {s0 : S} {Q : R → Prop} (I : Nat → S → Prop) (N : Nat) (hN : N < 20000) (h0 : I 0 s0) (h1 : ∀ i s, i < N → I i s → ∃ s', body s = some (.inr s') ∧ I (i + 1) s') (h2 : ∀ s, I N s → ∃ r, body s = some (.inl r) ∧ Q r) : ∃ r, xloop body xN s0 = some r ∧ Q r := by
  have key : ∀ (k i : Nat) (s : S), i ≤ N → N - i < k → I i s → ∃ r, xloop body k s = some r ∧ Q r := by
    intro k
    induction k with
    | zero => intro i s _ h2; omega
    | succ k ih =>
      intro i s hi hk hI
      by_cases z : i = N
      · subst z
        obtain ⟨r, q1, q2⟩ := h2 s hI
        exact ⟨r, by show (body s).bind _ = _; rw [q1]; rfl, q2⟩
      · obtain ⟨s', q1, q2⟩ := h1 i s (by omega) hI
        obtain ⟨r, q3, q4⟩ := ih (i + 1) s' (by omega) (by omega) q2
        exact ⟨r, by show (body s).bind _ = _; rw [q1]; exact q3, q4⟩
  exact key xN 0 s0 (Nat.zero_le _) (by unfold xN; omega) h0
theorem sums_X (h : PpOk P g ax am) {p : Nat} (hp : p ≤ 999) (e : Nat → Int64) : ∃ r, f_X3_howManySums (nI P) ax e (nI p) = some r ∧ r.1 = nI (cnt (mkd g P (2 ^ P)) (p + 1)) := by
  have hP := h.1
  have h2 : 2 ^ P ≤ 1024 := Nat.pow_le_pow_right (n := 2) (by decide) hP
  have hc : cnt (fun s => decide (s ≤ p) && mkd g P (2 ^ P) s) (64 * 16) = cnt (mkd g P (2 ^ P)) (p + 1) := cnt_ext (by omega) (fun i hi => by
    by_cases z : i ≤ p
    · rw [decide_eq_true z, decide_eq_true (show i < p + 1 by omega)]
    · rw [decide_eq_false z, decide_eq_false (show ¬ i < p + 1 by omega)])
  unfold f_X3_howManySums
  refine run_I (fun i s => ∃ e, s = (nI i, e) ∧ ∀ w, w < i → e w = lN 0) 16 (by omega) ⟨e, rfl, fun w hw => by omega⟩ (fun i s hi hI => ?_) (fun s hI => ?_)
  · obtain ⟨e, rfl, he⟩ := hI
    have ga : ¬ nI 16 ≤ nI i := by rw [le_nI (by omega) (by omega)]; omega
    unfold f_X3_howManySums_L2
    rw [if_neg ga, xout_s hi (show 16 < 2 ^ 31 by omega), xat_nI (show i < 2 ^ 31 by omega)]
    refine ⟨_, rfl, _, by rw [nI_add], fun w hw => ?_⟩
    by_cases z : w = i
    · subst z; rw [updL_s]
    · rw [updL_o _ _ z]; exact he w (by omega)
  · obtain ⟨e, rfl, he⟩ := hI
    have ga : nI 16 ≤ nI 16 := by rw [le_nI (by omega) (by omega)]; omega
    unfold f_X3_howManySums_L2
    rw [if_pos ga]
    obtain ⟨r, q1, q2⟩ := run_I (body := f_X3_howManySums_L26 (nI P) ax (nI p)) (s0 := (nI 0, e)) (Q := fun r => ∃ e', r = .inl (nI (cnt (mkd g P (2 ^ P)) (p + 1)), e')) (fun i s => ∃ e, s = (nI i, e) ∧ MX g P p i e) (2 ^ P) (by omega) ⟨e, rfl, fun w hw b hb => by rw [he w hw, bt_0, mkd_0]; simp⟩ (fun i s hi hI => by
      obtain ⟨e, rfl, he⟩ := hI
      obtain ⟨e', q1, q2⟩ := sums_26 h hp hi he
      exact ⟨_, q1, e', rfl, q2⟩) (fun s hI => by
      obtain ⟨e, rfl, he⟩ := hI
      have gb : nI (2 ^ P) ≤ nI (2 ^ P) := by rw [le_nI (by omega) (by omega)]; omega
      unfold f_X3_howManySums_L26
      rw [shl_nI (show P ≤ 12 by omega), if_pos gb, sums_62 hp he, hc]
      exact ⟨_, rfl, e, rfl⟩)
    obtain ⟨e', rfl⟩ := q2
    exact ⟨_, q1, rfl⟩
theorem sums_M (h : PpOk P g ax am) {p : Nat} (hp : p ≤ 999) (e : Nat → Int32) : ∃ r, xloop (f_X7_reached_L20 (nI P) am rm (nI p)) xN (nI 0, e) = some r ∧ (r.1 = nI (cnt (mkd g P (2 ^ P)) (p + 1)) ∧ r.2.1 = rm) := by
  have hP := h.1
  have h2 : 2 ^ P ≤ 1024 := Nat.pow_le_pow_right (n := 2) (by decide) hP
  refine run_I (fun i s => ∃ e, s = (nI i, e) ∧ ∀ w, w < i → e w = nI 0) 1000 (by omega) ⟨e, rfl, fun w hw => by omega⟩ (fun i s hi hI => ?_) (fun s hI => ?_)
  · obtain ⟨e, rfl, he⟩ := hI
    have ga : ¬ nI 1000 ≤ nI i := by rw [le_nI (by omega) (by omega)]; omega
    unfold f_X7_reached_L20
    rw [if_neg ga, xout_s hi (show 1000 < 2 ^ 31 by omega), xat_nI (show i < 2 ^ 31 by omega)]
    refine ⟨_, rfl, _, by rw [nI_add], fun w hw => ?_⟩
    by_cases z : w = i
    · subst z; rw [upd_s]
    · rw [upd_o _ _ z]; exact he w (by omega)
  · obtain ⟨e, rfl, he⟩ := hI
    have ga : nI 1000 ≤ nI 1000 := by rw [le_nI (by omega) (by omega)]; omega
    unfold f_X7_reached_L20
    rw [if_pos ga]
    obtain ⟨r, q1, q2⟩ := run_I (body := f_X7_reached_L42 (nI P) am rm (nI p)) (s0 := (nI 0, e)) (Q := fun r => ∃ e', r = .inl (nI (cnt (mkd g P (2 ^ P)) (p + 1)), rm, e')) (fun i s => ∃ e, s = (nI i, e) ∧ MM g P i e) (2 ^ P) (by omega) ⟨e, rfl, fun w hw => by rw [he w hw, mkd_0]; rfl⟩ (fun i s hi hI => by
      obtain ⟨e, rfl, he⟩ := hI
      obtain ⟨e', q1, q2⟩ := sums_42 h hi he
      exact ⟨_, q1, e', rfl, q2⟩) (fun s hI => by
      obtain ⟨e, rfl, he⟩ := hI
      have gb : nI (2 ^ P) ≤ nI (2 ^ P) := by rw [le_nI (by omega) (by omega)]; omega
      unfold f_X7_reached_L42
      rw [shl_nI (show P ≤ 12 by omega), if_pos gb, sums_73 hp he]
      exact ⟨_, rfl, e, rfl⟩)
    obtain ⟨e', rfl⟩ := q2
    exact ⟨_, q1, rfl, rfl⟩
theorem e_reached (h : PpOk P g ax am) (hR : RR rx rm) (p1 : Int32) : ∃ v sx' sm' rx' rm', f_X6_reached (nI P) ax sx rx p1 = some (v, sx', rx') ∧ f_X7_reached (nI P) am rm sm p1 = some (v, rm', sm') ∧ RR rx' rm' := by
  obtain ⟨v2, a, b, y1, y2, y3⟩ := noC' (show NoC (-2) by simp [NoC]) hR
  simp only [f_X6_reached, f_X7_reached, X6_isWithin_eq, X7_within_eq, Option.bind_some, ifb, y1, y2]
  cases g1 : wi p1 (nI 0) (nI 999) with
  | false => exact ⟨v2, sx, sm, a, b, rfl, rfl, y3⟩
  | true =>
    obtain ⟨p, -, hp, rfl⟩ := (wi_nI (by omega) (by omega)).mp g1
    obtain ⟨r, q1, q2⟩ := sums_X h hp sx
    obtain ⟨t, q3, q4, q5⟩ := sums_M (rm := rm) h hp sm
    simp only [if_true]
    refine ⟨r.1, r.2, t.2.2, rx, rm, by rw [q1]; rfl, ?_, hR⟩
    rw [q3, q2, ← q4]
    exact congrArg some (Prod.ext rfl (Prod.ext q5 rfl))
end R
