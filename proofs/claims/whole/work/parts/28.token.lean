-- PURE: the tape's words
def cls (b : Nat) : Nat := if 97 ≤ b ∧ b ≤ 122 then 1 else if 48 ≤ b ∧ b ≤ 57 then 2 else if b = 59 then 3 else 4
theorem cls_all : (List.range 256).all (fun b => f_X5_tokenBegunBy (nI b) == some (nI (cls b)) && f_X7_isLetter (nI b) == some (b2 (decide (cls b = 1))) && f_X7_isDigit (nI b) == some (b2 (decide (cls b = 2))) && (decide (nI b = nI 59) == decide (cls b = 3)) && (decide (nI b = nI 32) == decide (b = 32)) && decide (1 ≤ cls b) && decide (cls b ≤ 4)) = true := by decide +kernel
theorem cls_eq {b : Nat} (h : b < 256) : f_X5_tokenBegunBy (nI b) = some (nI (cls b)) ∧ f_X7_isLetter (nI b) = some (b2 (decide (cls b = 1))) ∧ f_X7_isDigit (nI b) = some (b2 (decide (cls b = 2))) ∧ (nI b = nI 59 ↔ cls b = 3) ∧ (nI b = nI 32 ↔ b = 32) ∧ 1 ≤ cls b ∧ cls b ≤ 4 := by
  have := List.all_eq_true.mp cls_all b (List.mem_range.mpr h)
  simp only [Bool.and_eq_true, beq_iff_eq, decide_eq_true_eq, decide_eq_decide] at this
  obtain ⟨⟨⟨⟨⟨⟨h1, h2⟩, h3⟩, h4⟩, h5⟩, h6⟩, h7⟩ := this
  exact ⟨h1, h2, h3, h4, h5, h6, h7⟩
def TpOk (sz : Nat) (y : Nat → Nat) (bx bm : Nat → Int32) : Prop := sz ≤ 250 ∧ ∀ i, i < sz → y i < 256 ∧ bx i = nI (y i) ∧ bm i = nI (y i)
def nv (bm : Nat → Int32) (a : Nat) : Nat → Int32
  | 0 => nI 0
  | k + 1 => ((nI 10) * nv bm a k + bm (a + k)) - nI 48
def TokR (bm : Nat → Int32) (sz e : Nat) (x : Int32 × Int32 × Int32) (z : Int32 × Int32 × Int32 × Int32) : Prop := ∃ a b k q v, x = (nI k, nI a, nI b) ∧ z = (nI a, nI b, nI q, v) ∧ e ≤ a ∧ a ≤ b ∧ b ≤ sz ∧ ((k = 0 ∧ q = 101) ∨ (k = 1 ∧ q = 119 ∧ a < b) ∨ (k = 2 ∧ a < b ∧ ((b - a ≤ 3 ∧ q = 48 ∧ v = nv bm a (b - a)) ∨ (3 < b - a ∧ q = 120))) ∨ (k = 3 ∧ q = 59 ∧ a < b) ∨ (k = 4 ∧ q = 120 ∧ a < b))
section U
variable {sz : Nat} {y : Nat → Nat} {bx bm : Nat → Int32}
theorem byteAt_eq (h : TpOk sz y bx bm) {i : Nat} (hi : i < sz) : f_X5_byteAt (nI sz) bx (nI i) = some (nI (y i)) := by
  have hz := h.1
  have g1 : ¬ nI i < nI 0 := nI_nneg (by omega)
  have g2 : ¬ nI sz ≤ nI i := by rw [le_nI (by omega) (by omega)]; omega
  have g3 : ¬ nI 250 ≤ nI i := by rw [le_nI (by omega) (by omega)]; omega
  unfold f_X5_byteAt
  rw [if_neg g1, if_neg g2, if_neg g3, xout_s (show i < 250 by omega) (show 250 < 2 ^ 31 by omega), xat_nI (show i < 2 ^ 31 by omega), (h.2 i hi).2.1]
  rfl
theorem byteAt_end (hz : sz ≤ 250) : f_X5_byteAt (nI sz) bx (nI sz) = some (-1) := by
  have g1 : ¬ nI sz < nI 0 := nI_nneg (by omega)
  unfold f_X5_byteAt
  rw [if_neg g1, if_pos (Int32.le_refl _)]
theorem xmin_lt {a b : Nat} (h : a ≤ b) (hb : b < 2 ^ 31) : xmin (nI a) (nI b) = nI a := by
  have : ¬ nI b < nI a := by rw [lt_nI (by omega) (by omega)]; omega
  unfold xmin; rw [if_neg this]
theorem xmin_end {b : Nat} (hb : b < 2 ^ 30) : xmin (nI (b + 1)) (nI b) = nI b := by
  have : nI b < nI (b + 1) := by rw [lt_nI (by omega) (by omega)]; omega
  unfold xmin; rw [if_pos this]
theorem L93_eq (h : TpOk sz y bx bm) {a p k : Nat} (hp : p < sz) : f_X5_nextToken_L93 (nI sz) bx (nI a) (nI k) (nI p) = if nI (cls (y p)) = nI k then some (.inr (nI (p + 1))) else some (.inl (.inl (nI k, nI a, nI p))) := by
  have hz := h.1
  have g2 : ¬ nI sz ≤ nI p := by rw [le_nI (by omega) (by omega)]; omega
  unfold f_X5_nextToken_L93
  rw [if_neg g2, byteAt_eq h hp, Option.bind_some, (cls_eq (h.2 p hp).1).1, Option.bind_some, nI_add]
theorem L96_eq (h : TpOk sz y bx bm) {a p : Nat} {v : Int32} (hp : p < sz) : f_X7_next_L96 (nI sz) v bm (nI a) (nI p) = if cls (y p) = 1 then some (.inr (nI (p + 1))) else some (.inl (.inl (nI a, nI p, nI 119, v))) := by
  have hz := h.1
  have g2 : ¬ nI sz ≤ nI p := by rw [le_nI (by omega) (by omega)]; omega
  unfold f_X7_next_L96
  rw [if_neg g2, xout_s (show p < 250 by omega) (show 250 < 2 ^ 31 by omega), xat_nI (show p < 2 ^ 31 by omega), (h.2 p hp).2.2, (cls_eq (h.2 p hp).1).2.1]
  simp only [Bool.false_eq_true, if_false, Option.bind_some, ifb, decide_eq_true_eq, nI_add]
theorem tok_word (h : TpOk sz y bx bm) {a : Nat} (ha : a < sz) (v : Int32) : ∃ b, a < b ∧ b ≤ sz ∧ xloop (f_X5_nextToken_L93 (nI sz) bx (nI a) (nI 1)) xN (nI (a + 1)) = some (.inl (nI 1, nI a, nI b)) ∧ xloop (f_X7_next_L96 (nI sz) v bm (nI a)) xN (nI (a + 1)) = some (.inl (nI a, nI b, nI 119, v)) := by
  have hz := h.1
  obtain ⟨p, q, q1, q2, b, h1, h2, rfl, rfl⟩ := xl_pair (bx := f_X5_nextToken_L93 (nI sz) bx (nI a) (nI 1)) (bm := f_X7_next_L96 (nI sz) v bm (nI a)) (fun i s t => s = nI (a + 1 + i) ∧ t = nI (a + 1 + i)) (fun p q => ∃ b, a < b ∧ b ≤ sz ∧ p = .inl (nI 1, nI a, nI b) ∧ q = .inl (nI a, nI b, nI 119, v)) (sz - (a + 1)) (s0 := nI (a + 1)) (t0 := nI (a + 1)) (by omega) ⟨rfl, rfl⟩ (fun i s t hi hI => by
    obtain ⟨rfl, rfl⟩ := hI
    by_cases z : i < sz - (a + 1)
    · rw [L93_eq h (show a + 1 + i < sz by omega), L96_eq h (show a + 1 + i < sz by omega)]
      have hc := (cls_eq (h.2 (a + 1 + i) (by omega)).1).2.2.2.2.2
      simp only [show (nI (cls (y (a + 1 + i))) = nI 1) = (cls (y (a + 1 + i)) = 1) from propext (nI_eq (by omega) (by omega))]
      by_cases w : cls (y (a + 1 + i)) = 1
      · rw [if_pos w, if_pos w]
        exact Or.inr ⟨z, _, _, rfl, rfl, rfl, rfl⟩
      · rw [if_neg w, if_neg w]
        exact Or.inl ⟨_, _, rfl, rfl, a + 1 + i, by omega, by omega, rfl, rfl⟩
    · have e : a + 1 + i = sz := by omega
      rw [e]
      unfold f_X5_nextToken_L93 f_X7_next_L96
      rw [if_pos (Int32.le_refl _), if_pos (Int32.le_refl _)]
      exact Or.inl ⟨_, _, rfl, rfl, sz, by omega, by omega, rfl, rfl⟩)
  exact ⟨b, h1, h2, q1, q2⟩
theorem J235_eq {a p : Nat} {v : Int32} (hp : a ≤ p) (hz : p ≤ 250) : f_X7_next_J235 (nI a) (nI p, v) = if p - a ≤ 3 then some (.inl (.inl (nI a, nI p, nI 48, v))) else some (.inl (.inl (nI a, nI p, nI 120, v))) := by
  unfold f_X7_next_J235
  simp only [nI_dif hp, le_nI (show p - a < 2 ^ 31 by omega) (show 3 < 2 ^ 31 by omega)]
theorem L159_eq (h : TpOk sz y bx bm) {a p : Nat} {v : Int32} (ha : a ≤ p) (hp : p < sz) : f_X7_next_L159 (nI sz) bm (nI a) (nI p, v) = if cls (y p) = 2 then (if 3 ≤ p - a then some (.inr (nI (p + 1), v)) else some (.inr (nI (p + 1), ((nI 10) * v + bm p) - nI 48))) else f_X7_next_J235 (nI a) (nI p, v) := by
  have hz := h.1
  have g2 : ¬ nI sz ≤ nI p := by rw [le_nI (by omega) (by omega)]; omega
  unfold f_X7_next_L159 f_X7_next_J222
  rw [show (nI p, v).1 = nI p from rfl, if_neg g2, xout_s (show p < 250 by omega) (show 250 < 2 ^ 31 by omega), xat_nI (show p < 2 ^ 31 by omega), (h.2 p hp).2.2, (cls_eq (h.2 p hp).1).2.2.1, nI_dif ha]
  simp only [le_nI (show 3 < 2 ^ 31 by omega) (show p - a < 2 ^ 31 by omega), Bool.false_eq_true, if_false, Option.bind_some, ifb, decide_eq_true_eq, nI_add]
theorem tok_num (h : TpOk sz y bx bm) {a : Nat} (ha : a < sz) : ∃ b v q, a < b ∧ b ≤ sz ∧ ((b - a ≤ 3 ∧ q = 48 ∧ v = nv bm a (b - a)) ∨ (3 < b - a ∧ q = 120)) ∧ xloop (f_X5_nextToken_L93 (nI sz) bx (nI a) (nI 2)) xN (nI (a + 1)) = some (.inl (nI 2, nI a, nI b)) ∧ xloop (f_X7_next_L159 (nI sz) bm (nI a)) xN (nI (a + 1), nv bm a 1) = some (.inl (nI a, nI b, nI q, v)) := by
  have hz := h.1
  have fin : ∀ p v, a < p → p ≤ sz → (p - a ≤ 3 → v = nv bm a (p - a)) → ∃ z, f_X7_next_J235 (nI a) (nI p, v) = some (.inl z) ∧ ∃ b v q, a < b ∧ b ≤ sz ∧ ((b - a ≤ 3 ∧ q = 48 ∧ v = nv bm a (b - a)) ∨ (3 < b - a ∧ q = 120)) ∧ (Sum.inl (nI 2, nI a, nI p) : (Int32 × Int32 × Int32) ⊕ Int32) = .inl (nI 2, nI a, nI b) ∧ z = .inl (nI a, nI b, nI q, v) := by
    intro p v h1 h2 h3
    rw [J235_eq (show a ≤ p by omega) (show p ≤ 250 by omega)]
    by_cases w : p - a ≤ 3
    · rw [if_pos w]
      exact ⟨_, rfl, p, v, 48, h1, h2, Or.inl ⟨w, rfl, h3 w⟩, rfl, rfl⟩
    · rw [if_neg w]
      exact ⟨_, rfl, p, v, 120, h1, h2, Or.inr ⟨by omega, rfl⟩, rfl, rfl⟩
  obtain ⟨p, q, q1, q2, b, v, k, h1, h2, h3, rfl, rfl⟩ := xl_pair (bx := f_X5_nextToken_L93 (nI sz) bx (nI a) (nI 2)) (bm := f_X7_next_L159 (nI sz) bm (nI a)) (fun i s t => s = nI (a + 1 + i) ∧ ∃ v, t = (nI (a + 1 + i), v) ∧ (i + 1 ≤ 3 → v = nv bm a (i + 1))) (fun p q => ∃ b v k, a < b ∧ b ≤ sz ∧ ((b - a ≤ 3 ∧ k = 48 ∧ v = nv bm a (b - a)) ∨ (3 < b - a ∧ k = 120)) ∧ p = .inl (nI 2, nI a, nI b) ∧ q = .inl (nI a, nI b, nI k, v)) (sz - (a + 1)) (s0 := nI (a + 1)) (t0 := (nI (a + 1), nv bm a 1)) (by omega) ⟨rfl, _, rfl, fun _ => rfl⟩ (fun i s t hi hI => by
    obtain ⟨rfl, v, rfl, hv⟩ := hI
    by_cases z : i < sz - (a + 1)
    · rw [L93_eq h (show a + 1 + i < sz by omega), L159_eq h (show a ≤ a + 1 + i by omega) (show a + 1 + i < sz by omega)]
      have hc := (cls_eq (h.2 (a + 1 + i) (by omega)).1).2.2.2.2.2
      simp only [show (nI (cls (y (a + 1 + i))) = nI 2) = (cls (y (a + 1 + i)) = 2) from propext (nI_eq (by omega) (by omega))]
      by_cases w : cls (y (a + 1 + i)) = 2
      · rw [if_pos w, if_pos w]
        refine Or.inr ⟨z, ?_⟩
        by_cases w3 : 3 ≤ a + 1 + i - a
        · rw [if_pos w3]
          exact ⟨_, _, rfl, rfl, rfl, v, rfl, fun u => by omega⟩
        · rw [if_neg w3]
          refine ⟨_, _, rfl, rfl, rfl, _, rfl, fun u => ?_⟩
          rw [hv (by omega), show a + 1 + i = a + (i + 1) by omega]; rfl
      · rw [if_neg w, if_neg w]
        obtain ⟨x, f1, f2⟩ := fin (a + 1 + i) v (by omega) (by omega) (fun u => by rw [hv (by omega)]; congr 1; omega)
        exact Or.inl ⟨_, x, rfl, f1, f2⟩
    · have e : a + 1 + i = sz := by omega
      have hv2 : sz - a ≤ 3 → v = nv bm a (sz - a) := fun u => by rw [hv (by omega)]; congr 1; omega
      rw [e]
      unfold f_X5_nextToken_L93 f_X7_next_L159
      rw [if_pos (Int32.le_refl _), if_pos (Int32.le_refl _)]
      obtain ⟨x, f1, f2⟩ := fin sz v (by omega) (by omega) hv2
      exact Or.inl ⟨_, x, rfl, f1, f2⟩)
  exact ⟨b, v, k, h1, h2, h3, q1, q2⟩
end U
