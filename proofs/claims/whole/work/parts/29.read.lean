-- PURE: words, numbers and steps read from the tape
section V
variable {sz : Nat} {y : Nat → Nat} {bx bm : Nat → Int32}
theorem tok_J (h : TpOk sz y bx bm) {e a : Nat} (he : e ≤ a) (ha : a ≤ sz) (val : Int32) : ∃ x z, f_X5_nextToken_J45 (nI sz) bx (nI a) = some (.inl x) ∧ f_X7_next_J46 (nI sz) val bm (nI a) = some (.inl z) ∧ TokR bm sz e x z := by
  have hz := h.1
  unfold f_X5_nextToken_J45 f_X7_next_J46
  by_cases w : a = sz
  · subst w
    rw [byteAt_end hz, Option.bind_some, show f_X5_tokenBegunBy (-1) = some (nI 0) from by decide, Option.bind_some, if_neg (show ¬ nI 0 = nI 1 by decide), if_neg (show ¬ nI 0 = nI 2 by decide), nI_add, xmin_end (show a < 2 ^ 30 by omega), if_pos rfl]
    exact ⟨_, _, rfl, rfl, a, a, 0, 101, val, rfl, rfl, he, Nat.le_refl _, Nat.le_refl _, Or.inl ⟨rfl, rfl⟩⟩
  · have hlt : a < sz := by omega
    obtain ⟨c1, c2, c3, c4, -, c6, c7⟩ := cls_eq (h.2 a hlt).1
    have g1 : ¬ nI a = nI sz := by rw [nI_eq (by omega) (by omega)]; exact w
    have k1 : (nI (cls (y a)) = nI 1) = (cls (y a) = 1) := propext (nI_eq (by omega) (by omega))
    have k2 : (nI (cls (y a)) = nI 2) = (cls (y a) = 2) := propext (nI_eq (by omega) (by omega))
    rw [byteAt_eq h hlt, Option.bind_some, c1, Option.bind_some, nI_add, xmin_lt (show a + 1 ≤ sz by omega) (by omega), if_neg g1, xout_s (show a < 250 by omega) (show 250 < 2 ^ 31 by omega), xat_nI (show a < 2 ^ 31 by omega), (h.2 a hlt).2.2, c2, c3]
    simp only [k1, k2, c4, Bool.false_eq_true, if_false, Option.bind_some, ifb, decide_eq_true_eq]
    by_cases z1 : cls (y a) = 1
    · obtain ⟨b, b1, b2', b3, b4⟩ := tok_word h hlt val
      rw [if_pos z1, if_pos z1, z1, b3, b4]
      exact ⟨_, _, rfl, rfl, a, b, 1, 119, val, rfl, rfl, he, by omega, b2', Or.inr (Or.inl ⟨rfl, rfl, b1⟩)⟩
    · rw [if_neg z1, if_neg z1]
      by_cases z2 : cls (y a) = 2
      · obtain ⟨b, v, q, b1, b2', b3, b4, b5⟩ := tok_num h hlt
        rw [if_pos z2, if_pos z2, z2, b4]
        have e1 : nI (y a) - nI 48 = nv bm a 1 := by
          show _ = ((nI 10) * nI 0 + bm (a + 0)) - nI 48
          rw [Nat.add_zero, (h.2 a hlt).2.2, pk_mul, nI_add]; congr 2; omega
        rw [e1, b5]
        exact ⟨_, _, rfl, rfl, a, b, 2, q, v, rfl, rfl, he, by omega, b2', Or.inr (Or.inr (Or.inl ⟨rfl, b1, b3⟩))⟩
      · rw [if_neg z2, if_neg z2]
        by_cases z3 : cls (y a) = 3
        · rw [if_pos z3, z3]
          exact ⟨_, _, rfl, rfl, a, a + 1, 3, 59, val, rfl, rfl, he, by omega, by omega, Or.inr (Or.inr (Or.inr (Or.inl ⟨rfl, rfl, by omega⟩)))⟩
        · have z4 : cls (y a) = 4 := by omega
          rw [if_neg z3, z4]
          exact ⟨_, _, rfl, rfl, a, a + 1, 4, 120, val, rfl, rfl, he, by omega, by omega, Or.inr (Or.inr (Or.inr (Or.inr ⟨rfl, rfl, by omega⟩)))⟩
theorem tok_eq (h : TpOk sz y bx bm) {e : Nat} (he : e ≤ sz) (tk ts fr tok val : Int32) : ∃ x z, f_X5_nextToken (nI sz) tk ts (nI e) bx = some x ∧ f_X7_next (nI sz) fr (nI e) tok val bm = some z ∧ TokR bm sz e x z := by
  have hz := h.1
  unfold f_X5_nextToken f_X7_next
  refine xl_pair (bx := f_X5_nextToken_L8 (nI sz) bx) (bm := f_X7_next_L8 (nI sz) val bm) (fun i s t => s = nI (e + i) ∧ t = nI (e + i)) (fun x z => TokR bm sz e x z) (sz - e) (by omega) ⟨rfl, rfl⟩ (fun i s t hi hI => ?_)
  obtain ⟨rfl, rfl⟩ := hI
  obtain ⟨x, z, q1, q2, q3⟩ := tok_J h (show e ≤ e + i by omega) (show e + i ≤ sz by omega) val
  unfold f_X5_nextToken_L8 f_X7_next_L8
  by_cases w : i < sz - e
  · have g : ¬ nI sz ≤ nI (e + i) := by rw [le_nI (by omega) (by omega)]; omega
    have hlt : e + i < sz := by omega
    rw [if_neg g, if_neg g, byteAt_eq h hlt, Option.bind_some, xout_s (show e + i < 250 by omega) (show 250 < 2 ^ 31 by omega), xat_nI (show e + i < 2 ^ 31 by omega), (h.2 _ hlt).2.2, q1, q2]
    simp only [Bool.false_eq_true, if_false]
    by_cases u : nI (y (e + i)) = nI 32
    · rw [if_pos u, if_pos u]
      exact Or.inr ⟨w, _, _, rfl, rfl, by rw [nI_add, Nat.add_assoc], by rw [nI_add, Nat.add_assoc]⟩
    · rw [if_neg u, if_neg u]
      exact Or.inl ⟨x, z, rfl, rfl, q3⟩
  · have e1 : e + i = sz := by omega
    have g : nI sz ≤ nI (e + i) := by rw [le_nI (by omega) (by omega)]; omega
    rw [if_pos g, if_pos g]
    exact Or.inl ⟨x, z, q1, q2, q3⟩
theorem len_eq {w : Nat} (hw : w < 7) : ∃ L, L ≤ 20 ∧ f_J0_length_8abf5 w = some (nI L) ∧ ∀ i, i < L → ∃ c, f_J0_charAt_5068e w (nI i) = some c := by
  have g : ¬ 7 ≤ w := by omega
  have hl : xLen.getD w 0 ≤ 20 := by
    rcases (show w = 0 ∨ w = 1 ∨ w = 2 ∨ w = 3 ∨ w = 4 ∨ w = 5 ∨ w = 6 by omega) with rfl | rfl | rfl | rfl | rfl | rfl | rfl <;> decide
  refine ⟨xLen.getD w 0, hl, by unfold f_J0_length_8abf5; rw [if_neg g], fun i hi => ?_⟩
  unfold f_J0_charAt_5068e
  rw [if_neg g, xout_nI (show i < 2 ^ 31 by omega), decide_eq_false (show ¬ xLen.getD w 0 ≤ i by omega)]
  exact ⟨_, rfl⟩
theorem word_eq (h : TpOk sz y bx bm) {e a b k q w : Nat} {v : Int32} (hT : TokR bm sz e (nI k, nI a, nI b) (nI a, nI b, nI q, v)) (hk : k < 10) (hq : q < 1000) (ha : a < 1000) (hb : b < 1000) (hw : w < 7) : ∃ u, f_X5_isWord (nI sz) (nI k) (nI a) (nI b) bx w = some u ∧ f_X7_isWord (nI a) (nI b) (nI q) bm w = some u ∧ (u = nI 0 ∨ a < b) := by
  have hz := h.1
  obtain ⟨a', b', k', q', v', e1, e2, h1, h2, h3, h4⟩ := hT
  simp only [Prod.mk.injEq] at e1 e2
  obtain ⟨ek, ea, eb⟩ := e1
  obtain ⟨-, -, eq, ev⟩ := e2
  have hk' : k = k' := (nI_eq (by omega) (by omega)).mp ek
  have hq' : q = q' := (nI_eq (by omega) (by omega)).mp eq
  have ha' : a = a' := (nI_eq (by omega) (by omega)).mp ea
  have hb' : b = b' := (nI_eq (by omega) (by omega)).mp eb
  subst hk' hq' ha' hb'
  obtain ⟨L, hL, l1, l2⟩ := len_eq hw
  unfold f_X5_isWord f_X7_isWord f_X5_tokenLength
  by_cases z : k = 1
  · subst z
    have zq : q = 119 ∧ a < b := by
      rcases h4 with h4 | h4 | h4 | h4 | h4 <;> omega
    obtain ⟨rfl, hlt⟩ := zq
    rw [if_pos rfl, if_pos rfl, Option.bind_some, l1, Option.bind_some, Option.bind_some, nI_dif h2]
    by_cases zl : b - a = L
    · subst zl
      rw [if_pos rfl, if_pos rfl]
      obtain ⟨p, p', q1, q2, q3⟩ := xl_pair (bx := f_X5_isWord_L23 (nI sz) (nI a) bx w) (bm := f_X7_isWord_L29 (nI a) bm w) (fun i s t => s = nI i ∧ t = nI i) (fun p q => p = q) (b - a) (s0 := nI 0) (t0 := nI 0) (by omega) ⟨rfl, rfl⟩ (fun i s t hi hI => by
        obtain ⟨rfl, rfl⟩ := hI
        unfold f_X5_isWord_L23 f_X7_isWord_L29
        rw [l1, Option.bind_some, Option.bind_some]
        by_cases w1 : i < b - a
        · have g : ¬ nI (b - a) ≤ nI i := by rw [le_nI (by omega) (by omega)]; omega
          obtain ⟨c, hc⟩ := l2 i w1
          have hlt2 : a + i < sz := by omega
          rw [if_neg g, if_neg g, nI_add, byteAt_eq h hlt2, hc, xout_s (show a + i < 250 by omega) (show 250 < 2 ^ 31 by omega), xat_nI (show a + i < 2 ^ 31 by omega), (h.2 _ hlt2).2.2]
          simp only [Option.bind_some, Bool.false_eq_true, if_false, nI_add]
          by_cases w2 : nI (y (a + i)) = c
          · rw [if_pos w2]; exact Or.inr ⟨w1, _, _, rfl, rfl, rfl, rfl⟩
          · rw [if_neg w2]; exact Or.inl ⟨_, _, rfl, rfl, rfl⟩
        · have g : nI (b - a) ≤ nI i := by rw [le_nI (by omega) (by omega)]; omega
          rw [if_pos g, if_pos g]
          exact Or.inl ⟨_, _, rfl, rfl, rfl⟩)
      subst q3
      exact ⟨p, q1, q2, Or.inr hlt⟩
    · have g : ¬ nI (b - a) = nI L := by rw [nI_eq (by omega) (by omega)]; exact zl
      rw [if_neg g, if_neg g]
      exact ⟨_, rfl, rfl, Or.inl rfl⟩
  · have zq : ¬ q = 119 := by
      rcases h4 with h4 | h4 | h4 | h4 | h4 <;> omega
    have g1 : ¬ nI k = nI 1 := by rw [nI_eq (by omega) (by omega)]; exact z
    have g2 : ¬ nI q = nI 119 := by rw [nI_eq (by omega) (by omega)]; exact zq
    rw [if_neg g1, if_neg g2]
    exact ⟨_, rfl, rfl, Or.inl rfl⟩
/-- where both stand on the tape behind a token -/
def At (sz e : Nat) (k a b : Int32) (fr to : Int32) : Prop := ∃ a' b', a = nI a' ∧ fr = nI a' ∧ b = nI b' ∧ to = nI b' ∧ e ≤ b' ∧ b' ≤ sz
theorem num_eq (h : TpOk sz y bx bm) {e : Nat} (he : e ≤ sz) (nb tk ts fr tok val lo hi : Int32) (hlo : wi (-1) lo hi = false) : (∃ v k a b fr' to' q v', f_X1_readNumber nb (nI sz) tk ts (nI e) bx lo hi = some (nI 1, v, k, a, b) ∧ f_X7_number (nI sz) fr (nI e) tok val bm lo hi = some (v, fr', to', q, v') ∧ wi v lo hi = true ∧ ¬ v = -1 ∧ At sz e k a b fr' to') ∨ (∃ nb' k a b fr' to' q v', f_X1_readNumber nb (nI sz) tk ts (nI e) bx lo hi = some (nI 0, nb', k, a, b) ∧ f_X7_number (nI sz) fr (nI e) tok val bm lo hi = some (-1, fr', to', q, v') ∧ At sz e k a b fr' to') := by
  have hz := h.1
  obtain ⟨x, z, t1, t2, a, b, k, q, v, rfl, rfl, h1, h2, h3, h4⟩ := tok_eq h he tk ts fr tok val
  unfold f_X1_readNumber f_X7_number
  rw [t1, t2, Option.bind_some, Option.bind_some]
  have at' : At sz e (nI k) (nI a) (nI b) (nI a) (nI b) := ⟨a, b, rfl, rfl, rfl, rfl, by omega, h3⟩
  have kz : k < 10 := by rcases h4 with h4 | h4 | h4 | h4 | h4 <;> omega
  have qz : q < 1000 := by rcases h4 with h4 | h4 | h4 | h4 | h4 <;> omega
  have kk : (nI k = nI 2) = (k = 2) := propext (nI_eq (by omega) (by omega))
  have qq : (nI q = nI 48) = (q = 48) := propext (nI_eq (by omega) (by omega))
  simp only [kk, qq, f_X5_tokenLength, Option.bind_some, nI_dif h2, X7_within_eq, ifb]
  by_cases z2 : k = 2
  · rw [if_pos z2]
    have hlt : a < b := by rcases h4 with h4 | h4 | h4 | h4 | h4 <;> omega
    by_cases z3 : b - a ≤ 3
    · have g : nI (b - a) ≤ nI 3 := by rw [le_nI (by omega) (by omega)]; exact z3
      have hq : q = 48 ∧ v = nv bm a (b - a) := by
        rcases h4 with h4 | h4 | ⟨-, -, ⟨-, h5, h6⟩ | h4⟩ | h4 | h4
        · omega
        · omega
        · exact ⟨h5, h6⟩
        · omega
        · omega
        · omega
      obtain ⟨rfl, rfl⟩ := hq
      rw [if_pos g, if_pos rfl]
      have lp : xloop (f_X1_readNumber_L44 (nI sz) bx lo hi (nI k) (nI a) (nI b)) xN (nI a, nI 0) = some (b2 (wi (nv bm a (b - a)) lo hi), nv bm a (b - a), nI k, nI a, nI b) := by
        refine xl_up (st := fun i => (nI (a + i), nv bm a i)) (b - a) rfl (by omega) (fun i hi => ?_) ?_
        · have g : ¬ nI b ≤ nI (a + i) := by rw [le_nI (by omega) (by omega)]; omega
          unfold f_X1_readNumber_L44
          simp only [if_neg g, byteAt_eq h (show a + i < sz by omega), Option.bind_some, nI_add, nv, (h.2 (a + i) (by omega)).2.2, Nat.add_assoc]
        · have g : nI b ≤ nI (a + (b - a)) := by rw [le_nI (by omega) (by omega)]; omega
          unfold f_X1_readNumber_L44
          simp only [if_pos g, X6_isWithin_eq, Option.bind_some]
      rw [lp]
      cases w : wi (nv bm a (b - a)) lo hi with
      | true =>
        refine Or.inl ⟨_, _, _, _, _, _, _, _, rfl, rfl, w, fun u => ?_, at'⟩
        rw [u, hlo] at w; cases w
      | false => exact Or.inr ⟨_, _, _, _, _, _, _, _, rfl, rfl, at'⟩
    · have g : ¬ nI (b - a) ≤ nI 3 := by rw [le_nI (by omega) (by omega)]; exact z3
      have hq : ¬ q = 48 := by rcases h4 with h4 | h4 | h4 | h4 | h4 <;> omega
      rw [if_neg g, if_neg hq]
      exact Or.inr ⟨_, _, _, _, _, _, _, _, rfl, rfl, at'⟩
  · have hq : ¬ q = 48 := by rcases h4 with h4 | h4 | h4 | h4 | h4 <;> omega
    rw [if_neg z2, if_neg hq]
    exact Or.inr ⟨_, _, _, _, _, _, _, _, rfl, rfl, at'⟩
end V
