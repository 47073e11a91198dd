-- PURE: what the shelves hold, of both
def ShOk (c : Nat) (hx hm sx sm : Nat → Int32) (ex em : Nat → Int64) : Prop := ∀ s, s < 8 → hx s = hm s ∧ ((hm s = -1 ∧ sx s = nI 0) ∨ (∃ l, l < c ∧ hm s = nI (10 + l) ∧ sx s = nI 0) ∨ (∃ k z, k ≤ 4 ∧ z ≤ 40 ∧ hm s = nI k ∧ sx s = nI z ∧ sm s = nI z ∧ ∀ i, i < z → ex (40 * s + i) = em (40 * s + i) ∧ f_X4_lowestBits (nI k) (ex (40 * s + i)) = some (ex (40 * s + i))))
def NoC (e : Int32) : Prop := e = -2 ∨ e = -3 ∨ e = -4 ∨ e = -5
theorem NoC.nz {e : Int32} (h : NoC e) : ¬ e = nI 0 := by rcases h with rfl | rfl | rfl | rfl <;> decide
theorem NoC.ng {e : Int32} (h : NoC e) : ¬ nI 0 ≤ e := by rcases h with rfl | rfl | rfl | rfl <;> decide
theorem noC {e : Int32} (h : NoC e) {rx rm : Nat → Int32} (hR : RR rx rm) : Pub ((f_X6_refuse rx e).bind fun u => some (u.1, u.2)) ((f_X7_no rm e).bind fun u => some (u.1, u.2)) := by
  rcases h with rfl | rfl | rfl | rfl
  · exact no2 hR
  · exact no3 hR
  · exact no4 hR
  · exact no5 hR
theorem X4_isShelf_eq (p : Int32) : f_X4_isShelf p = some (b2 (wi p (nI 0) (nI 7))) := by simp only [f_X4_isShelf, X6_isWithin_eq, Option.bind_some]
theorem X7_isShelf_eq (p : Int32) : f_X7_isShelf p = some (b2 (wi p (nI 0) (nI 7))) := by simp only [f_X7_isShelf, X7_within_eq, Option.bind_some]
theorem wi7 {p : Int32} (h : wi p (nI 0) (nI 7) = true) : ∃ s, s < 8 ∧ p = nI s := by
  obtain ⟨j, -, h2, h3⟩ := (wi_nI (by omega) (by omega)).mp h
  exact ⟨j, by omega, h3⟩
theorem wi_in {v : Nat} {a n : Nat} (h1 : a ≤ v) (h2 : v ≤ n) (hn : n < 2 ^ 31) : wi (nI v) (nI a) (nI n) = true := (wi_nI hn (by omega)).mpr ⟨v, h1, h2, rfl⟩
theorem wi_out {v : Nat} {a n : Nat} (h2 : n < v) (hv : v < 2 ^ 31) (ha : a ≤ n) : wi (nI v) (nI a) (nI n) = false := by
  cases q : wi (nI v) (nI a) (nI n) with
  | false => rfl
  | true =>
    obtain ⟨j, h3, h4, h5⟩ := (wi_nI (by omega) (by omega)).mp q
    rw [nI_eq hv (by omega)] at h5; omega
theorem wi_m1 {a n : Nat} (hn : n < 2 ^ 31) (ha : a ≤ n) : wi (-1 : Int32) (nI a) (nI n) = false := by
  cases q : wi (-1 : Int32) (nI a) (nI n) with
  | false => rfl
  | true =>
    obtain ⟨j, h3, h4, h5⟩ := (wi_nI (by omega) (by omega)).mp q
    exact absurd h5.symm (nI_nm1 (by omega))
theorem xout_s {s n : Nat} (h : s < n) (hn : n < 2 ^ 31) : xout (nI s) n = false := by rw [xout_nI (by omega)]; simp; omega
theorem X6_elementOf_out {f : Nat → Int32} {p d : Int32} (h : wi p (nI 0) (nI 7) = false) : f_X6_elementOf 8 f p d = some d := by
  unfold f_X6_elementOf
  by_cases g : p < nI 0
  · rw [if_pos g]
  · rw [if_neg g]
    by_cases g2 : nI 8 ≤ p
    · rw [if_pos g2]
    · exfalso
      have h1 := nlt_le.mp g
      have h2 := nle_lt.mp g2
      have : wi p (nI 0) (nI 7) = true := by
        unfold wi
        refine decide_eq_true ⟨h1, ?_⟩
        rw [Int32.lt_iff_toInt_lt] at h2
        rw [Int32.le_iff_toInt_le]
        have e1 : (nI 8).toInt = 8 := by decide
        have e2 : (nI 7).toInt = 7 := by decide
        omega
      rw [h] at this; cases this
theorem X4_heldOn_eq {h : Nat → Int32} {s : Nat} (hs : s < 8) : f_X4_heldOn h (nI s) = some (h s) := by
  simp only [f_X4_heldOn, X6_elementOf_eq (show 8 < 2 ^ 31 by omega) hs, Option.bind_some]
theorem X4_sizeOf_eq {h : Nat → Int32} {s : Nat} (hs : s < 8) : f_X4_sizeOf h (nI s) = some (h s) := by
  simp only [f_X4_sizeOf, X6_elementOf_eq (show 8 < 2 ^ 31 by omega) hs, Option.bind_some]
section S
variable {c f d n : Nat} {kn tn : Nat → Nat} {kx tx km tm rx rm hx hm sx sm : Nat → Int32} {ex em : Nat → Int64} {r : Int64}
theorem row_cases (hS : ShOk c hx hm sx sm ex em) (hc : c ≤ 6) (p1 : Int32) : (wi p1 (nI 0) (nI 7) = false ∧ f_X6_refusalOfRow hx p1 = some (-2)) ∨ (∃ s e, s < 8 ∧ p1 = nI s ∧ wi p1 (nI 0) (nI 7) = true ∧ f_X6_refusalOfRow hx (nI s) = some e ∧ f_X7_isRow hm (nI s) = some (nI 0) ∧ f_X7_noRow hm (nI s) = some e ∧ sx s = nI 0 ∧ ((e = -3 ∧ ∃ l, l < c ∧ hm s = nI (10 + l)) ∨ (e = -4 ∧ hm s = -1))) ∨ (∃ s k z, s < 8 ∧ p1 = nI s ∧ wi p1 (nI 0) (nI 7) = true ∧ k ≤ 4 ∧ z ≤ 40 ∧ hm s = nI k ∧ sx s = nI z ∧ sm s = nI z ∧ (∀ i, i < z → ex (40 * s + i) = em (40 * s + i) ∧ f_X4_lowestBits (nI k) (ex (40 * s + i)) = some (ex (40 * s + i))) ∧ f_X6_refusalOfRow hx (nI s) = some (nI 0) ∧ f_X7_isRow hm (nI s) = some (nI 1)) := by
  cases g : wi p1 (nI 0) (nI 7) with
  | false => exact Or.inl ⟨rfl, by simp only [f_X6_refusalOfRow, X4_isShelf_eq, g, Option.bind_some, b2_f, if_true]⟩
  | true =>
    obtain ⟨s, hs, rfl⟩ := wi7 g
    obtain ⟨h0, h⟩ := hS s hs
    have hn : ¬ nI 1 = nI 0 := by decide
    have hz : (-1 : Int32) = -1 := rfl
    rcases h with ⟨h1, h2⟩ | ⟨l, hl, h1, h2⟩ | ⟨k, z, hk, hz, h1, h2, h3, h4⟩
    · refine Or.inr (Or.inl ⟨s, -4, hs, rfl, rfl, ?_, ?_, ?_, h2, Or.inr ⟨rfl, h1⟩⟩)
      · simp only [f_X6_refusalOfRow, X4_isShelf_eq, g, Option.bind_some, b2_t, if_neg hn, f_X4_lawOn, f_X4_holdsRow, X4_heldOn_eq hs, h0, h1, if_pos (show (-1 : Int32) < nI 10 by decide), if_true, X6_isWithin_eq, wi_m1 (show 4 < 2 ^ 31 by omega) (show 0 ≤ 4 by omega), b2_f]
      · simp only [f_X7_isRow, xout_s hs (show 8 < 2 ^ 31 by omega), xat_nI (show s < 2 ^ 31 by omega), h1, X7_within_eq, wi_m1 (show 4 < 2 ^ 31 by omega) (show 0 ≤ 4 by omega), Option.bind_some, b2_f]
        rfl
      · simp only [f_X7_noRow, xout_s hs (show 8 < 2 ^ 31 by omega), xat_nI (show s < 2 ^ 31 by omega), h1]
        decide
    · have e1 : ¬ nI (10 + l) < nI 10 := by rw [lt_nI (by omega) (by omega)]; omega
      have e2 : nI (10 + l) - nI 10 = nI l := by rw [nI_dif (by omega)]; congr 1; omega
      have e3 : ¬ nI l = (-1 : Int32) := nI_nm1 (by omega)
      refine Or.inr (Or.inl ⟨s, -3, hs, rfl, rfl, ?_, ?_, ?_, h2, Or.inl ⟨rfl, l, hl, h1⟩⟩)
      · simp only [f_X6_refusalOfRow, X4_isShelf_eq, g, Option.bind_some, b2_t, if_neg hn, f_X4_lawOn, X4_heldOn_eq hs, h0, h1, if_neg e1, e2, if_neg e3]
      · simp only [f_X7_isRow, xout_s hs (show 8 < 2 ^ 31 by omega), xat_nI (show s < 2 ^ 31 by omega), h1, X7_within_eq, wi_out (show 4 < 10 + l by omega) (show 10 + l < 2 ^ 31 by omega) (show 0 ≤ 4 by omega), Option.bind_some, b2_f]
        rfl
      · simp only [f_X7_noRow, xout_s hs (show 8 < 2 ^ 31 by omega), xat_nI (show s < 2 ^ 31 by omega), h1, if_neg e1]
        rfl
    · refine Or.inr (Or.inr ⟨s, k, z, hs, rfl, rfl, hk, hz, h1, h2, h3, h4, ?_, ?_⟩)
      · have e1 : nI k < nI 10 := by rw [lt_nI (by omega) (by omega)]; omega
        simp only [f_X6_refusalOfRow, X4_isShelf_eq, g, Option.bind_some, b2_t, if_neg hn, f_X4_lawOn, f_X4_holdsRow, X4_heldOn_eq hs, h0, h1, if_pos e1, if_true, X6_isWithin_eq, wi_in (Nat.zero_le k) hk (show 4 < 2 ^ 31 by omega)]
      · simp only [f_X7_isRow, xout_s hs (show 8 < 2 ^ 31 by omega), xat_nI (show s < 2 ^ 31 by omega), h1, X7_within_eq, wi_in (Nat.zero_le k) hk (show 4 < 2 ^ 31 by omega), Option.bind_some, b2_t]
        rfl
theorem elementAt_eq {s z j : Nat} (hs : s < 8) (hz : z ≤ 40) (h2 : sx s = nI z) (hj : j < z) : f_X4_elementAt ex sx (nI s) (nI j) = some (ex (40 * s + j)) := by
  have e1 : wi (nI j) (nI 0) (nI z - nI 1) = true := (wi_lt (by omega)).mpr ⟨j, hj, rfl⟩
  have e2 : ¬ nI (40 * s + j) < nI 0 := nI_nneg (by omega)
  have e3 : ¬ nI 320 ≤ nI (40 * s + j) := by rw [le_nI (by omega) (by omega)]; omega
  have hn : ¬ nI 1 = nI 0 := by decide
  simp only [f_X4_elementAt, f_X4_placeOf, X4_sizeOf_eq hs, h2, X6_isWithin_eq, e1, b2_t, if_neg hn, Option.bind_some, pk_mul, Nat.mul_comm s 40, nI_add, if_neg e2, if_neg e3, xout_s (show 40 * s + j < 320 by omega) (show 320 < 2 ^ 31 by omega), xat_nI (show 40 * s + j < 2 ^ 31 by omega)]
  rfl
theorem toldAt_eq {s j : Nat} (hs : s < 8) (hj : j < 40) : f_X7_toldAt em (nI s) (nI j) = some (em (40 * s + j)) := by
  simp only [f_X7_toldAt, pk_mul, nI_add, xout_s (show 40 * s + j < 320 by omega) (show 320 < 2 ^ 31 by omega), xat_nI (show 40 * s + j < 2 ^ 31 by omega)]
  rfl
def tld (e : Nat → Int64) (s i : Nat) : Bool := !decide (e (40 * s + i) = lN 0)
theorem asBits_eq {s z m : Nat} (hs : s < 8) (hz : z ≤ 40) (h2 : sx s = nI z) (hm' : m ≤ z) : f_X4_elementsAsBits ex sx (nI s) (nI m) = some (bI (tld ex s) m) := by
  unfold f_X4_elementsAsBits
  refine xl_up (st := fun i => (bI (tld ex s) i, nI i)) m rfl (by omega) (fun i hi => ?_) ?_
  · have g : ¬ nI m ≤ nI i := by rw [le_nI (by omega) (by omega)]; omega
    simp only [f_X4_elementsAsBits_L5, if_neg g, elementAt_eq hs hz h2 (show i < z by omega), Option.bind_some, xcmp_0, nI_add, bI, tld]
    by_cases q : ex (40 * s + i) = lN 0
    · simp [q]
    · simp [q]
  · have g : nI m ≤ nI m := by rw [le_nI (by omega) (by omega)]; omega
    simp only [f_X4_elementsAsBits_L5, if_pos g]
def rgt (e : Nat → Int64) (s i : Nat) : Bool := decide (e (40 * s + i) = lN 0) || decide (e (40 * s + i) = lN 1)
def fw (e : Nat → Int64) (s m : Nat) (v : Int32) : Prop := (v = -1 ∧ ∀ i, i < m → rgt e s i = true) ∨ ∃ k, k < m ∧ v = nI k
theorem wrong_both {s z m : Nat} (hs : s < 8) (hz : z ≤ 40) (h2 : sx s = nI z) (h4 : ∀ i, i < z → ex (40 * s + i) = em (40 * s + i)) (hm' : m ≤ z) : ∃ v, f_X4_firstWrong ex sx (nI s) (nI m) = some v ∧ f_X7_wrong em (nI s) (nI m) = some v ∧ fw ex s m v := by
  unfold f_X4_firstWrong f_X7_wrong
  obtain ⟨a, b, q1, q2, q3, q4⟩ := xl_pair (bx := f_X4_firstWrong_L2 ex sx (nI s) (nI m)) (bm := f_X7_wrong_L2 em (nI s) (nI m)) (fun i a b => a = nI i ∧ b = nI i ∧ ∀ j, j < i → rgt ex s j = true) (fun a b => a = b ∧ fw ex s m a) m (s0 := nI 0) (t0 := nI 0) (by omega) ⟨rfl, rfl, fun j hj => by omega⟩ (fun i a b hi hI => by
    obtain ⟨rfl, rfl, hI⟩ := hI
    by_cases h : i < m
    · have g : ¬ nI m ≤ nI i := by rw [le_nI (by omega) (by omega)]; omega
      simp only [f_X4_firstWrong_L2, f_X7_wrong_L2, if_neg g, elementAt_eq hs hz h2 (show i < z by omega), toldAt_eq hs (show i < 40 by omega), ← h4 i (by omega), Option.bind_some, xcmp_0, nI_add]
      by_cases a1 : ex (40 * s + i) = lN 0
      · rw [if_pos a1]
        refine Or.inr ⟨h, _, _, rfl, rfl, rfl, rfl, fun j hj => ?_⟩
        by_cases z1 : j = i
        · subst z1; simp [rgt, a1]
        · exact hI j (by omega)
      · rw [if_neg a1]
        by_cases a2 : ex (40 * s + i) = lN 1
        · rw [if_pos a2]
          refine Or.inr ⟨h, _, _, rfl, rfl, rfl, rfl, fun j hj => ?_⟩
          by_cases z1 : j = i
          · subst z1; simp [rgt, a2]
          · exact hI j (by omega)
        · rw [if_neg a2]
          exact Or.inl ⟨_, _, rfl, rfl, rfl, Or.inr ⟨i, h, rfl⟩⟩
    · have e : i = m := by omega
      subst e
      have g : nI i ≤ nI i := by rw [le_nI (by omega) (by omega)]; omega
      simp only [f_X4_firstWrong_L2, f_X7_wrong_L2, if_pos g]
      exact Or.inl ⟨_, _, rfl, rfl, rfl, Or.inl ⟨rfl, hI⟩⟩)
  subst q3
  exact ⟨a, q1, q2, q4⟩
theorem told_eq {s z m : Nat} (hs : s < 8) (hz : z ≤ 40) (h4 : ∀ i, i < z → ex (40 * s + i) = em (40 * s + i)) (hm' : m ≤ z) (hr : ∀ i, i < m → rgt ex s i = true) : f_X7_told em (nI s) (nI m) = some (bI (tld ex s) m) := by
  unfold f_X7_told
  refine xl_up (st := fun i => (bI (tld ex s) i, nI i)) m rfl (by omega) (fun i hi => ?_) ?_
  · have g : ¬ nI m ≤ nI i := by rw [le_nI (by omega) (by omega)]; omega
    have h5 := hr i hi
    simp only [f_X7_told_L5, if_neg g, toldAt_eq hs (show i < 40 by omega), ← h4 i (by omega), Option.bind_some, xcmp_0, nI_add, bI, tld]
    unfold rgt at h5
    by_cases q : ex (40 * s + i) = lN 0
    · have q1 : ¬ (lN 0 = lN 1) := by decide
      simp [q, q1]
    · have q2 : ex (40 * s + i) = lN 1 := by simpa [q] using h5
      have q1 : ¬ (lN 1 = lN 0) := by decide
      simp [q2, q1]
  · have g : nI m ≤ nI m := by rw [le_nI (by omega) (by omega)]; omega
    simp only [f_X7_told_L5, if_pos g]
/-- a told row: refused alike, or all is there -/
theorem toldRow_cases (hS : ShOk c hx hm sx sm ex em) (hc : c ≤ 6) (p1 p2 : Int32) : (∃ e, NoC e ∧ f_X6_refusalOfToldRow hx sx p1 p2 = some e ∧ f_X7_noRing hm sm p1 p2 = some e) ∨ (∃ s m z, s < 8 ∧ p1 = nI s ∧ p2 = nI m ∧ m ≤ z ∧ z ≤ 40 ∧ sx s = nI z ∧ (∀ i, i < z → ex (40 * s + i) = em (40 * s + i)) ∧ f_X6_refusalOfToldRow hx sx p1 p2 = some (nI 0) ∧ f_X7_noRing hm sm p1 p2 = some (nI 0)) := by
  have hn : ¬ nI 1 = nI 0 := by decide
  simp only [f_X6_refusalOfToldRow, f_X7_noRing, X6_isWithin_eq, X7_within_eq, X7_isShelf_eq, Option.bind_some, ifb]
  cases g2 : wi p2 (nI 0) (nI 40) with
  | false =>
    refine Or.inl ⟨-2, Or.inl rfl, by simp, ?_⟩
    cases wi p1 (nI 0) (nI 7) <;> simp
  | true =>
    obtain ⟨m, -, hm', rfl⟩ := (wi_nI (by omega) (by omega)).mp g2
    rcases row_cases hS hc p1 with ⟨h1, h2⟩ | ⟨s, e, hs, rfl, h1, h2, h3, h4, h5, h6⟩ | ⟨s, k, z, hs, rfl, h1, hk, hz, h3, h4, h5, h6, h7, h8⟩
    · refine Or.inl ⟨-2, Or.inl rfl, ?_, ?_⟩
      · simp only [if_true, h2, Option.bind_some]; rfl
      · simp [h1]
    · have he : NoC e := by rcases h6 with ⟨rfl, -⟩ | ⟨rfl, -⟩ <;> simp [NoC]
      refine Or.inl ⟨e, he, ?_, ?_⟩
      · simp only [if_true, h2, Option.bind_some, if_neg he.nz]
      · simp only [if_true, h1, h3, h4, Option.bind_some]
    · by_cases q : m ≤ z
      · have q2 : nI m ≤ nI z := by rw [le_nI (by omega) (by omega)]; exact q
        refine Or.inr ⟨s, m, z, hs, rfl, rfl, q, hz, h4, fun i hi => (h6 i hi).1, ?_, ?_⟩
        · simp only [if_true, h7, X4_sizeOf_eq hs, h4, Option.bind_some, if_pos q2]
        · simp only [if_true, h1, h8, Option.bind_some, if_neg hn, xout_s hs (show 8 < 2 ^ 31 by omega), xat_nI (show s < 2 ^ 31 by omega), h5, if_pos q2]
          rfl
      · have q2 : ¬ nI m ≤ nI z := by rw [le_nI (by omega) (by omega)]; exact q
        refine Or.inl ⟨-2, Or.inl rfl, ?_, ?_⟩
        · simp only [if_true, h7, X4_sizeOf_eq hs, h4, Option.bind_some, if_neg q2]
        · simp only [if_true, h1, h8, Option.bind_some, if_neg hn, xout_s hs (show 8 < 2 ^ 31 by omega), xat_nI (show s < 2 ^ 31 by omega), h5, if_neg q2]
          rfl
end S
