-- PURE: steps read from the tape
section V2
variable {sz : Nat} {y : Nat → Nat} {bx bm : Nat → Int32}
def stb (y : Nat → Nat) (p : Nat) : Int32 := if y p = 115 then nI 1 else nI 0
def srr (y : Nat → Nat) (r : Int64) (n a : Nat) : Nat → Int64
  | 0 => r
  | i + 1 => rput (srr y r n a i) (n + i) (stb y (a + i))
theorem srr_ok {y : Nat → Nat} {r : Int64} {n a : Nat} (hr : ROk n r) : ∀ i, n + i ≤ 40 → ROk (n + i) (srr y r n a i)
  | 0, _ => hr
  | i + 1, h => ROk_put (by omega) (srr_ok hr i (by omega)) _
def sgq (y : Nat → Nat) (p : Nat) : Bool := decide (y p = 115) || decide (y p = 103)
theorem sg_c {b : Nat} (hb : b < 256) : (nI b = nI 115) = (b = 115) ∧ (nI b = nI 103) = (b = 103) := ⟨propext (nI_eq (by omega) (by omega)), propext (nI_eq (by omega) (by omega))⟩
theorem L60_eq (h : TpOk sz y bx bm) {k a b p n : Nat} {r : Int64} (hp : p < b) (hb : b ≤ sz) (hn : n < 40) : f_X1_readSteps_L60 (nI sz) bx (nI k) (nI a) (nI b) (nI p, r, nI n) = if sgq y p = true then some (.inr (nI (p + 1), rput r n (stb y p), nI (n + 1))) else some (.inl (nI 0, r, nI n, nI k, nI a, nI b)) := by
  have hz := h.1
  have g : ¬ nI b ≤ nI p := by rw [le_nI (by omega) (by omega)]; omega
  obtain ⟨s1, s2⟩ := sg_c (h.2 p (by omega)).1
  unfold f_X1_readSteps_L60 f_X1_readSteps_J94 sgq stb
  simp only [if_neg g, byteAt_eq h (show p < sz by omega), Option.bind_some, s1, s2, addStep_eq hn, nI_add]
  by_cases z1 : y p = 115
  · simp [z1]
  · by_cases z2 : y p = 103
    · simp [z2]
    · simp [z1, z2]
theorem L39_eq (h : TpOk sz y bx bm) {fr tok v : Int32} {p b : Nat} (hp : p < b) (hb : b ≤ sz) : f_X7_isTold_L39 bm fr (nI b) tok v (nI p) = if sgq y p = true then some (.inr (nI (p + 1))) else some (.inl (nI 0, fr, nI b, tok, v)) := by
  have hz := h.1
  have g : ¬ nI b ≤ nI p := by rw [le_nI (by omega) (by omega)]; omega
  obtain ⟨s1, s2⟩ := sg_c (h.2 p (by omega)).1
  unfold f_X7_isTold_L39 sgq
  simp only [if_neg g, xout_s (show p < 250 by omega) (show 250 < 2 ^ 31 by omega), xat_nI (show p < 2 ^ 31 by omega), (h.2 p (by omega)).2.2, s1, s2, nI_add]
  by_cases z1 : y p = 115
  · simp [z1]
  · by_cases z2 : y p = 103
    · simp [z2]
    · simp [z1, z2]
theorem L189_eq (h : TpOk sz y bx bm) {l f d m pp : Int32} {ag kk ow : Nat → Int32} {fr tok v : Int32} {p b n : Nat} {r : Int64} (hp : p < b) (hb : b ≤ sz) : f_X7_statement_L189 l f d m pp ag kk ow bm fr (nI b) tok v (nI p, r, nI n) = some (.inr (nI (p + 1), rput r n (stb y p), nI (n + 1))) := by
  have hz := h.1
  have g : ¬ nI b ≤ nI p := by rw [le_nI (by omega) (by omega)]; omega
  obtain ⟨s1, s2⟩ := sg_c (h.2 p (by omega)).1
  unfold f_X7_statement_L189 stb
  simp only [if_neg g, xout_s (show p < 250 by omega) (show 250 < 2 ^ 31 by omega), xat_nI (show p < 2 ^ 31 by omega), (h.2 p (by omega)).2.2, s1, s2, nI_add, adds_eq, Option.bind_some]
  by_cases z1 : y p = 115
  · simp [z1]
  · simp [z1]
/-- reading steps: both alike -/
theorem steps_eq (h : TpOk sz y bx bm) {e n : Nat} {r : Int64} (he : e ≤ sz) (hn : n < 40) (hr : ROk n r) (tk ts fr tok val : Int32) (l f d m pp : Int32) (ag kk ow : Nat → Int32) : (∃ r' n' k a b fr' to' q v', f_X1_readSteps r (nI n) (nI sz) tk ts (nI e) bx = some (nI 1, r', nI n', k, a, b) ∧ f_X7_isTold (nI n) (nI sz) fr (nI e) tok val bm = some (nI 1, fr', to', q, v') ∧ xloop (f_X7_statement_L189 l f d m pp ag kk ow bm fr' to' q v') xN (fr', r, nI n) = some (nI 1, l, f, d, m, r', nI n', pp, fr', to', q, v', ag, kk, ow) ∧ n' ≤ 40 ∧ ROk n' r' ∧ At sz e k a b fr' to') ∨ (∃ r' n' k a b fr' to' q v', f_X1_readSteps r (nI n) (nI sz) tk ts (nI e) bx = some (nI 0, r', nI n', k, a, b) ∧ f_X7_isTold (nI n) (nI sz) fr (nI e) tok val bm = some (nI 0, fr', to', q, v') ∧ At sz e k a b fr' to') := by
  have hz := h.1
  obtain ⟨x, z, t1, t2, a, b, k, q, v, rfl, rfl, h1, h2, h3, h4⟩ := tok_eq h he tk ts fr tok val
  have at' : At sz e (nI k) (nI a) (nI b) (nI a) (nI b) := ⟨a, b, rfl, rfl, rfl, rfl, by omega, h3⟩
  have kz : k < 10 := by rcases h4 with h4 | h4 | h4 | h4 | h4 <;> omega
  have qz : q < 1000 := by rcases h4 with h4 | h4 | h4 | h4 | h4 <;> omega
  have ga : ¬ nI 40 ≤ nI n := by rw [le_nI (by omega) (by omega)]; omega
  have gc : ¬ nI 1 = nI 0 := by decide
  have kk' : (nI k = nI 1) = (k = 1) := propext (nI_eq (by omega) (by omega))
  have qq : (nI q = nI 119) = (q = 119) := propext (nI_eq (by omega) (by omega))
  have hkq : (k = 1) = (q = 119) := propext (by rcases h4 with h4 | h4 | h4 | h4 | h4 <;> omega)
  unfold f_X1_readSteps f_X7_isTold f_X0_hasRoom
  simp only [if_neg ga, if_neg gc, t1, t2, Option.bind_some, kk', qq, f_X5_tokenLength, nI_dif h2, nI_dif (show n ≤ 40 by omega), hkq, le_nI (show b - a < 2 ^ 31 by omega) (show 40 - n < 2 ^ 31 by omega)]
  by_cases z1 : q = 119
  · by_cases z2 : b - a ≤ 40 - n
    · simp only [if_pos z1, if_pos z2]
      by_cases all : ∀ i, i < b - a → sgq y (a + i) = true
      · refine Or.inl ⟨srr y r n a (b - a), n + (b - a), nI k, nI a, nI b, nI a, nI b, nI q, v, ?_, ?_, ?_, by omega, srr_ok hr _ (by omega), at'⟩
        · refine xl_up (st := fun i => (nI (a + i), srr y r n a i, nI (n + i))) (b - a) rfl (by omega) (fun i hi => ?_) ?_
          · rw [L60_eq h (show a + i < b by omega) h3 (show n + i < 40 by omega), if_pos (all i hi)]; rfl
          · have g : nI b ≤ nI (a + (b - a)) := by rw [le_nI (by omega) (by omega)]; omega
            unfold f_X1_readSteps_L60
            rw [if_pos g]
        · refine xl_up (st := fun i => nI (a + i)) (b - a) rfl (by omega) (fun i hi => ?_) ?_
          · rw [L39_eq h (show a + i < b by omega) h3, if_pos (all i hi)]; rfl
          · have g : nI b ≤ nI (a + (b - a)) := by rw [le_nI (by omega) (by omega)]; omega
            unfold f_X7_isTold_L39
            rw [if_pos g]
        · refine xl_up (st := fun i => (nI (a + i), srr y r n a i, nI (n + i))) (b - a) rfl (by omega) (fun i hi => ?_) ?_
          · rw [L189_eq h (show a + i < b by omega) h3]; rfl
          · have g : nI b ≤ nI (a + (b - a)) := by rw [le_nI (by omega) (by omega)]; omega
            unfold f_X7_statement_L189
            rw [if_pos g]
      · have hex : ∃ i, i < b - a ∧ sgq y (a + i) = false := by
          refine Classical.byContradiction fun hh => all fun i hi => ?_
          cases q : sgq y (a + i) with
          | true => rfl
          | false => exact absurd ⟨i, hi, q⟩ hh
        obtain ⟨i, ⟨hi, hp⟩, hl⟩ := pk_least (fun i => i < b - a ∧ sgq y (a + i) = false) hex
        have hl2 : ∀ j, j < i → sgq y (a + j) = true := fun j hj => by
          cases q : sgq y (a + j) with
          | true => rfl
          | false => exact absurd ⟨by omega, q⟩ (hl j hj)
        refine Or.inr ⟨srr y r n a i, n + i, nI k, nI a, nI b, nI a, nI b, nI q, v, ?_, ?_, at'⟩
        · refine xl_up (st := fun i => (nI (a + i), srr y r n a i, nI (n + i))) i rfl (by omega) (fun j hj => ?_) ?_
          · rw [L60_eq h (show a + j < b by omega) h3 (show n + j < 40 by omega), if_pos (hl2 j hj)]; rfl
          · rw [L60_eq h (show a + i < b by omega) h3 (show n + i < 40 by omega), if_neg (by rw [hp]; decide)]
        · refine xl_up (st := fun i => nI (a + i)) i rfl (by omega) (fun j hj => ?_) ?_
          · rw [L39_eq h (show a + j < b by omega) h3, if_pos (hl2 j hj)]; rfl
          · rw [L39_eq h (show a + i < b by omega) h3, if_neg (by rw [hp]; decide)]
    · simp only [if_pos z1, if_neg z2]
      exact Or.inr ⟨_, n, _, _, _, _, _, _, _, rfl, rfl, at'⟩
  · simp only [if_neg z1]
    exact Or.inr ⟨_, n, _, _, _, _, _, _, _, rfl, rfl, at'⟩
end V2
