-- PURE: copy
def cpf (e : Nat → Int64) (A B i : Nat) : Nat → Int64 := fun j => if B ≤ j ∧ j < B + i then e (j - B + A) else e j
def cpb (e : Nat → Int64) (A B L i : Nat) : Nat → Int64 := fun j => if B + (L - i) ≤ j ∧ j < B + L then e (j - B + A) else e j
theorem cpf_0 (e : Nat → Int64) (A B : Nat) : cpf e A B 0 = e := by funext j; unfold cpf; rw [if_neg (by omega)]
theorem cpb_0 (e : Nat → Int64) (A B L : Nat) : cpb e A B L 0 = e := by funext j; unfold cpb; rw [if_neg (by omega)]
theorem cpb_L (e : Nat → Int64) (A B L : Nat) : cpb e A B L L = cpf e A B L := by
  funext j; unfold cpb cpf; rw [Nat.sub_self, Nat.add_zero]
theorem cpf_s (e : Nat → Int64) (A B i : Nat) : vp_updL (cpf e A B i) (B + i) (e (A + i)) = cpf e A B (i + 1) := by
  funext j
  by_cases h : j = B + i
  · subst h; rw [updL_s]; unfold cpf; rw [if_pos (by omega)]; congr 1; omega
  · rw [updL_o _ _ h]; unfold cpf
    by_cases h2 : B ≤ j ∧ j < B + i
    · rw [if_pos h2, if_pos (by omega)]
    · rw [if_neg h2, if_neg (by omega)]
theorem cpb_s (e : Nat → Int64) (A B L i k : Nat) (hk : k + 1 + i = L) : vp_updL (cpb e A B L i) (B + k) (e (A + k)) = cpb e A B L (i + 1) := by
  funext j
  by_cases h : j = B + k
  · subst h; rw [updL_s]; unfold cpb; rw [if_pos (by omega)]; congr 1; omega
  · rw [updL_o _ _ h]; unfold cpb
    by_cases h2 : B + (L - i) ≤ j ∧ j < B + L
    · rw [if_pos h2, if_pos (by omega)]
    · rw [if_neg h2, if_neg (by omega)]
theorem cpf_at {e : Nat → Int64} {A B i : Nat} (h : B ≤ A ∨ A + i < B) : cpf e A B i (A + i) = e (A + i) := by unfold cpf; rw [if_neg (by omega)]
theorem cpb_at {e : Nat → Int64} {A B L i k : Nat} (hk : k + 1 + i = L) (h : A ≤ B ∨ B + L ≤ A) : cpb e A B L i (A + k) = e (A + k) := by unfold cpb; rw [if_neg (by omega)]
section C2
variable {c s t k z w i3 i4 L : Nat} {rx rm hx hm sx sm : Nat → Int32} {ex em : Nat → Int64}
/-- the class's copying -/
theorem copyX (hs : s < 8) (ht : t < 8) (hz : z ≤ 40) (hw : w ≤ 40) (h1 : hx t = nI k) (h2 : sx s = nI z) (h3 : sx t = nI w) (h4 : ∀ i, i < z → f_X4_lowestBits (nI k) (ex (40 * s + i)) = some (ex (40 * s + i))) (b3 : i3 + L ≤ z) (b4 : i4 + L ≤ w) : f_X4_copyElements ex hx sx (nI s) (nI t) (nI i3) (nI i4) (nI L) = some (cpf ex (40 * s + i3) (40 * t + i4) L) := by
  have dj : s = t ∨ 40 * s + 40 ≤ 40 * t ∨ 40 * t + 40 ≤ 40 * s := by omega
  have step : ∀ (e : Nat → Int64) (j : Nat), j < L → e (40 * s + i3 + j) = ex (40 * s + i3 + j) → ∀ q : Int32, f_X4_copyElements_J40 hx sx (nI s) (nI t) (nI i3) (nI i4) (q, e) (nI j) = some (.inr (q + nI 1, vp_updL e (40 * t + i4 + j) (ex (40 * s + i3 + j)))) := by
    intro e j hj he q
    unfold f_X4_copyElements_J40
    rw [nI_add, nI_add, elementAt_eq hs hz h2 (show i3 + j < z by omega), Option.bind_some]
    have e1 : (q, e).2 (40 * s + (i3 + j)) = ex (40 * s + (i3 + j)) := by rw [← Nat.add_assoc]; exact he
    rw [e1, putElement_eq ht hw h1 h3 (show i4 + j < w by omega) (h4 (i3 + j) (by omega)), Option.bind_some, ← Nat.add_assoc, ← Nat.add_assoc]
  unfold f_X4_copyElements
  by_cases g : i4 ≤ i3
  · have ga : nI i4 ≤ nI i3 := by rw [le_nI (by omega) (by omega)]; exact g
    rw [if_pos ga]
    refine xl_up (st := fun i => (nI i, cpf ex (40 * s + i3) (40 * t + i4) i)) L (by rw [cpf_0]) (by omega) (fun i hi => ?_) ?_
    · have gb : ¬ nI L ≤ nI i := by rw [le_nI (by omega) (by omega)]; omega
      unfold f_X4_copyElements_L16
      rw [if_neg gb, if_pos rfl]
      rw [show (nI i, cpf ex (40 * s + i3) (40 * t + i4) i).1 = nI i from rfl, step _ i hi (cpf_at (by omega)), cpf_s, nI_add]
    · have gb : nI L ≤ nI L := Int32.le_refl _
      unfold f_X4_copyElements_L16
      rw [if_pos gb]
  · have ga : ¬ nI i4 ≤ nI i3 := by rw [le_nI (by omega) (by omega)]; exact g
    rw [if_neg ga, ← cpb_L]
    refine xl_up (st := fun i => (nI i, cpb ex (40 * s + i3) (40 * t + i4) L i)) L (by rw [cpb_0]) (by omega) (fun i hi => ?_) ?_
    · have gb : ¬ nI L ≤ nI i := by rw [le_nI (by omega) (by omega)]; omega
      unfold f_X4_copyElements_L16
      rw [if_neg gb, if_neg (show ¬ nI 1 = nI 0 by decide)]
      rw [show (nI i, cpb ex (40 * s + i3) (40 * t + i4) L i).1 = nI i from rfl, nI_dif (show 1 ≤ L by omega), nI_dif (show i ≤ L - 1 by omega), step _ (L - 1 - i) (by omega) (cpb_at (by omega) (by omega)), cpb_s _ _ _ _ _ _ (by omega), nI_add]
    · have gb : nI L ≤ nI L := Int32.le_refl _
      unfold f_X4_copyElements_L16
      rw [if_pos gb]
theorem m225 (hs : s < 8) (ht : t < 8) (b3 : i3 + L ≤ 40) (b4 : i4 + L ≤ 40) (hd : ¬ s = t ∨ i4 ≤ i3) : xloop (f_X7_copy_L225 rm (nI s) (nI t) (nI i3) (nI i4) (nI L)) xN (nI 0, em) = some (nI L, rm, cpf em (40 * s + i3) (40 * t + i4) L) := by
  refine xl_up (st := fun i => (nI i, cpf em (40 * s + i3) (40 * t + i4) i)) L (by rw [cpf_0]) (by omega) (fun i hi => ?_) ?_
  · have gb : ¬ nI L ≤ nI i := by rw [le_nI (by omega) (by omega)]; omega
    unfold f_X7_copy_L225
    rw [if_neg gb]
    simp only [pk_mul, nI_add, xout_s (show 40 * s + i3 + i < 320 by omega) (show 320 < 2 ^ 31 by omega), xout_s (show 40 * t + i4 + i < 320 by omega) (show 320 < 2 ^ 31 by omega), xat_nI (show 40 * s + i3 + i < 2 ^ 31 by omega), xat_nI (show 40 * t + i4 + i < 2 ^ 31 by omega), Bool.false_eq_true, if_false]
    rw [cpf_at (by omega), cpf_s]
  · unfold f_X7_copy_L225
    rw [if_pos (Int32.le_refl _)]
theorem m179_run (hs : s < 8) (ht : t < 8) (b3 : i3 + L ≤ 40) (b4 : i4 + L ≤ 40) (hd : s = t ∧ i3 ≤ i4) : ∀ (k fuel : Nat), k ≤ L → k < fuel → xloop (f_X7_copy_L179 rm (nI s) (nI t) (nI i3) (nI i4) (nI L)) fuel (nI k - nI 1, cpb em (40 * s + i3) (40 * t + i4) L (L - k)) = some (nI L, rm, cpb em (40 * s + i3) (40 * t + i4) L L) := by
  intro k
  induction k with
  | zero =>
    intro fuel hk hf
    obtain ⟨fuel, rfl⟩ : ∃ q, fuel = q + 1 := ⟨fuel - 1, by omega⟩
    show (f_X7_copy_L179 _ _ _ _ _ _ _).bind _ = _
    unfold f_X7_copy_L179
    rw [if_pos (show (nI 0 - nI 1, cpb em (40 * s + i3) (40 * t + i4) L (L - 0)).1 < nI 0 from nI_neg (by omega) (by omega))]
    rfl
  | succ k ih =>
    intro fuel hk hf
    obtain ⟨fuel, rfl⟩ : ∃ q, fuel = q + 1 := ⟨fuel - 1, by omega⟩
    show (f_X7_copy_L179 _ _ _ _ _ _ _).bind _ = _
    have st : f_X7_copy_L179 rm (nI s) (nI t) (nI i3) (nI i4) (nI L) (nI (k + 1) - nI 1, cpb em (40 * s + i3) (40 * t + i4) L (L - (k + 1))) = some (.inr (nI k - nI 1, cpb em (40 * s + i3) (40 * t + i4) L (L - k))) := by
      have gn : ¬ nI k < nI 0 := nI_nneg (by omega)
      unfold f_X7_copy_L179
      rw [nI_sub1, if_neg gn]
      simp only [pk_mul, nI_add, xout_s (show 40 * s + i3 + k < 320 by omega) (show 320 < 2 ^ 31 by omega), xout_s (show 40 * t + i4 + k < 320 by omega) (show 320 < 2 ^ 31 by omega), xat_nI (show 40 * s + i3 + k < 2 ^ 31 by omega), xat_nI (show 40 * t + i4 + k < 2 ^ 31 by omega), Bool.false_eq_true, if_false, nI_m1]
      rw [cpb_at (by omega) (by omega), cpb_s _ _ _ _ _ _ (by omega), show L - (k + 1) + 1 = L - k by omega]
    rw [st]
    exact ih fuel (by omega) (by omega)
theorem m179 (hs : s < 8) (ht : t < 8) (b3 : i3 + L ≤ 40) (b4 : i4 + L ≤ 40) (hd : s = t ∧ i3 ≤ i4) : xloop (f_X7_copy_L179 rm (nI s) (nI t) (nI i3) (nI i4) (nI L)) xN (nI L - nI 1, em) = some (nI L, rm, cpf em (40 * s + i3) (40 * t + i4) L) := by
  have := m179_run (rm := rm) (em := em) hs ht b3 b4 hd L xN (Nat.le_refl _) (by unfold xN; omega)
  rw [Nat.sub_self, cpb_0, cpb_L] at this
  exact this
/-- what fits on a shelf -/
def fits (p q : Int32) (z : Nat) : Prop := 0 ≤ p.toInt ∧ 0 ≤ q.toInt ∧ p.toInt + q.toInt ≤ (z : Int)
theorem hasE (hs : s < 8) (hz : z ≤ 40) (h2 : sx s = nI z) (p q : Int32) : ∃ b, f_X4_hasElements sx (nI s) p q = some (b2 b) ∧ (b = true ↔ fits p q z) := by
  have zi := nI_toInt (show z < 2 ^ 31 by omega)
  have z0 := nI_toInt (show 0 < 2 ^ 31 by omega)
  unfold f_X4_hasElements
  rw [X4_sizeOf_eq hs, h2, Option.bind_some, X6_isWithin_eq, Option.bind_some]
  cases g : wi p (nI 0) (nI z) with
  | false =>
    refine ⟨false, by rw [b2_f, if_pos rfl], ?_⟩
    constructor
    · intro x; cases x
    · intro x
      exfalso
      unfold wi at g
      have g := of_decide_eq_false g
      apply g
      rw [Int32.le_iff_toInt_le, Int32.le_iff_toInt_le, zi, z0]
      unfold fits at x
      omega
  | true =>
    obtain ⟨a, -, ha, rfl⟩ := (wi_nI (by omega) (by omega)).mp g
    rw [b2_t, if_neg (show ¬ nI 1 = nI 0 by decide), X6_isWithin_eq, Option.bind_some, nI_dif ha]
    have ai := nI_toInt (show a < 2 ^ 31 by omega)
    have zai := nI_toInt (show z - a < 2 ^ 31 by omega)
    refine ⟨wi q (nI 0) (nI (z - a)), ?_, ?_⟩
    · rw [ifs]
    · unfold wi fits
      rw [decide_eq_true_eq, Int32.le_iff_toInt_le, Int32.le_iff_toInt_le, zai, z0, ai]
      omega
theorem gtL (p q : Int32) (hz : z ≤ 40) : (nI 0 < xcmp (Int32.toInt64 p + Int32.toInt64 q) (Int32.toInt64 (nI z))) ↔ (z : Int) < p.toInt + q.toInt := by
  have zi := nI_toInt (show z < 2 ^ 31 by omega)
  rw [xcmp_gt, Int64.lt_iff_toInt_lt]
  have e1 : (Int32.toInt64 p + Int32.toInt64 q).toInt = p.toInt + q.toInt := by
    rw [Int64.toInt_add, Int32.toInt_toInt64, Int32.toInt_toInt64]
    have h1 := p.toInt_lt
    have h2 := q.toInt_lt
    have h3 := p.le_toInt
    have h4 := q.le_toInt
    rw [Int.bmod_eq_of_le (by omega) (by omega)]
  rw [e1, Int32.toInt_toInt64, zi]
theorem fits_nat {p q : Int32} {z : Nat} (h : fits p q z) (hz : z ≤ 40) : ∃ a b, p = nI a ∧ q = nI b ∧ a + b ≤ z := by
  have zi := nI_toInt (show z < 2 ^ 31 by omega)
  have z0 := nI_toInt (show 0 < 2 ^ 31 by omega)
  obtain ⟨h1, h2, h3⟩ := h
  have g1 : wi p (nI 0) (nI z) = true := by
    unfold wi
    rw [decide_eq_true_eq, Int32.le_iff_toInt_le, Int32.le_iff_toInt_le, zi, z0]; omega
  have g2 : wi q (nI 0) (nI z) = true := by
    unfold wi
    rw [decide_eq_true_eq, Int32.le_iff_toInt_le, Int32.le_iff_toInt_le, zi, z0]; omega
  obtain ⟨a, -, ha, rfl⟩ := (wi_nI (by omega) (by omega)).mp g1
  obtain ⟨b, -, hb, rfl⟩ := (wi_nI (by omega) (by omega)).mp g2
  rw [nI_toInt (by omega), nI_toInt (by omega)] at h3
  exact ⟨a, b, rfl, rfl, by omega⟩
theorem neg_nfits {p q : Int32} {z : Nat} : (p < nI 0 → ¬ fits p q z) ∧ (q < nI 0 → ¬ fits p q z) := by
  have z0 := nI_toInt (show 0 < 2 ^ 31 by omega)
  constructor
  · intro h x
    rw [Int32.lt_iff_toInt_lt, z0] at h; unfold fits at x; omega
  · intro h x
    rw [Int32.lt_iff_toInt_lt, z0] at h; unfold fits at x; omega
theorem fits_of {p q : Int32} (hz : z ≤ 40) (h1 : ¬ p < nI 0) (h2 : ¬ q < nI 0) (h3 : ¬ nI 0 < xcmp (Int32.toInt64 p + Int32.toInt64 q) (Int32.toInt64 (nI z))) : fits p q z := by
  have z0 := nI_toInt (show 0 < 2 ^ 31 by omega)
  rw [gtL p q hz] at h3
  rw [Int32.lt_iff_toInt_lt, z0] at h1 h2
  unfold fits; omega
/-- the reference's copying between two rows of one kind -/
theorem J81_no (hs : s < 8) (ht : t < 8) (hk : k ≤ 4) (hz : z ≤ 40) (hw : w ≤ 40) (h1 : hm s = nI k) (h2 : hm t = nI k) (h3 : sm s = nI z) (h4 : sm t = nI w) {v2 : Int32} {b : Nat → Int32} (y2 : f_X7_no rm (-2) = some (v2, b)) (p3 p4 p5 : Int32) (hn : ¬ (fits p3 p5 z ∧ fits p4 p5 w)) : f_X7_copy_J81 hm rm sm em (nI s) (nI t) p3 p4 p5 = some (v2, b, em) := by
  have hk0 : ¬ nI k < nI 0 := nI_nneg (by omega)
  have hk1 : nI 0 ≤ nI k := by rw [le_nI (by omega) (by omega)]; omega
  unfold f_X7_copy_J81
  rw [xout_s hs (show 8 < 2 ^ 31 by omega), xat_nI (show s < 2 ^ 31 by omega), h1, if_neg (by decide), if_neg hk0, xout_s ht (show 8 < 2 ^ 31 by omega), xat_nI (show t < 2 ^ 31 by omega), h2, if_neg (by decide), if_pos hk1, y2, h3, h4]
  by_cases a1 : p5 < nI 0
  · rw [if_pos a1]; rfl
  · rw [if_neg a1]
    by_cases a2 : p3 < nI 0
    · rw [if_pos a2]; rfl
    · rw [if_neg a2]
      by_cases a3 : p4 < nI 0
      · rw [if_pos a3]; rfl
      · rw [if_neg a3, if_neg (by decide)]
        by_cases a4 : nI 0 < xcmp (Int32.toInt64 p3 + Int32.toInt64 p5) (Int32.toInt64 (nI z))
        · rw [if_pos a4]; rfl
        · rw [if_neg a4, if_neg (by decide)]
          by_cases a5 : nI 0 < xcmp (Int32.toInt64 p4 + Int32.toInt64 p5) (Int32.toInt64 (nI w))
          · rw [if_neg (fun x => nlt_le.mpr x a5)]; rfl
          · exact absurd ⟨fits_of hz a2 a1 a4, fits_of hw a3 a1 a5⟩ hn
theorem J81_yes (hs : s < 8) (ht : t < 8) (hk : k ≤ 4) (hz : z ≤ 40) (hw : w ≤ 40) (h1 : hm s = nI k) (h2 : hm t = nI k) (h3 : sm s = nI z) (h4 : sm t = nI w) (b3 : i3 + L ≤ z) (b4 : i4 + L ≤ w) : f_X7_copy_J81 hm rm sm em (nI s) (nI t) (nI i3) (nI i4) (nI L) = some (nI L, rm, cpf em (40 * s + i3) (40 * t + i4) L) := by
  have hk0 : ¬ nI k < nI 0 := nI_nneg (by omega)
  have hk1 : nI 0 ≤ nI k := by rw [le_nI (by omega) (by omega)]; omega
  have c1 : ¬ nI 0 < xcmp (Int32.toInt64 (nI i3) + Int32.toInt64 (nI L)) (Int32.toInt64 (nI z)) := by
    rw [gtL _ _ hz, nI_toInt (by omega), nI_toInt (by omega)]; omega
  have c2 : ¬ nI 0 < xcmp (Int32.toInt64 (nI i4) + Int32.toInt64 (nI L)) (Int32.toInt64 (nI w)) := by
    rw [gtL _ _ hw, nI_toInt (by omega), nI_toInt (by omega)]; omega
  unfold f_X7_copy_J81
  rw [xout_s hs (show 8 < 2 ^ 31 by omega), xat_nI (show s < 2 ^ 31 by omega), h1, if_neg (by decide), if_neg hk0, xout_s ht (show 8 < 2 ^ 31 by omega), xat_nI (show t < 2 ^ 31 by omega), h2, if_neg (by decide), if_pos hk1, if_neg (nI_nneg (show L < 2 ^ 31 by omega)), if_neg (nI_nneg (show i3 < 2 ^ 31 by omega)), if_neg (nI_nneg (show i4 < 2 ^ 31 by omega)), if_neg (by decide), h3, if_neg c1, if_neg (by decide), h4, if_pos (nlt_le.mp c2)]
  by_cases e : s = t
  · subst e
    rw [if_pos rfl]
    by_cases g : i4 ≤ i3
    · rw [if_pos (by rw [le_nI (by omega) (by omega)]; exact g)]
      exact m225 hs hs (by omega) (by omega) (Or.inr g)
    · rw [if_neg (by rw [le_nI (by omega) (by omega)]; exact g)]
      exact m179 hs hs (by omega) (by omega) ⟨rfl, by omega⟩
  · rw [if_neg (by rw [nI_eq (by omega) (by omega)]; exact e)]
    exact m225 hs ht (by omega) (by omega) (Or.inl e)
theorem cpf_o {e : Nat → Int64} {A B i j : Nat} (h : ¬ (B ≤ j ∧ j < B + i)) : cpf e A B i j = e j := by unfold cpf; rw [if_neg h]
theorem cpf_i {e : Nat → Int64} {A B i j : Nat} (h : B ≤ j ∧ j < B + i) : cpf e A B i j = e (j - B + A) := by unfold cpf; rw [if_pos h]
theorem two_nz : ¬ (-2 : Int32) = nI 0 := by decide
theorem e_copy (hc : c ≤ 6) (hR : RR rx rm) (hS : ShOk c hx hm sx sm ex em) (p1 p2 p3 p4 p5 : Int32) : ∃ v rx' rm' ex' em', f_X6_copy rx ex hx sx p1 p2 p3 p4 p5 = some (v, rx', ex') ∧ f_X7_copy hm rm sm em p1 p2 p3 p4 p5 = some (v, rm', em') ∧ RR rx' rm' ∧ ShOk c hx hm sx sm ex' em' := by
  have gc : ¬ nI 1 = nI 0 := by decide
  obtain ⟨v2, a2, b2', y1, y2, y3⟩ := noC' (show NoC (-2) by simp [NoC]) hR
  obtain ⟨v3, a3, b3', z1, z2, z3⟩ := noC' (show NoC (-3) by simp [NoC]) hR
  obtain ⟨v4, a4, b4', w1, w2, w3⟩ := noC' (show NoC (-4) by simp [NoC]) hR
  have refX : ∀ e v a, f_X6_refusalOfTwoRows hx p1 p2 = some e → NoC e → f_X6_refuse rx e = some (v, a) → f_X6_copy rx ex hx sx p1 p2 p3 p4 p5 = some (v, a, ex) := by
    intro e v a h1 h2 h3
    unfold f_X6_copy f_X6_copy_J46
    rw [h1, Option.bind_some, if_neg h2.nz, if_neg h2.nz, h3, Option.bind_some]
  have n23 : ¬ (-3 : Int32) = -2 := by decide
  have n24 : ¬ (-4 : Int32) = -2 := by decide
  have n34 : ¬ (-4 : Int32) = -3 := by decide
  have n02 : ¬ nI 0 = (-2 : Int32) := by decide
  have n03 : ¬ nI 0 = (-3 : Int32) := by decide
  have n04 : ¬ nI 0 = (-4 : Int32) := by decide
  rcases row_cases hS hc p1 with ⟨h1, h2⟩ | ⟨s, e, hs, rfl, h1, h2, h3, h4, h5, h6⟩ | ⟨s, k, z, hs, rfl, h1, hk, hz, h3, h4, h5, h6, h7, h8⟩
  · obtain ⟨u, hu⟩ : ∃ u, f_X6_refusalOfRow hx p2 = some u := by
      rcases row_cases hS hc p2 with ⟨-, q⟩ | ⟨s, e, -, rfl, -, q, -⟩ | ⟨s, k, z, -, rfl, -, -, -, -, -, -, -, q, -⟩
      · exact ⟨_, q⟩
      · exact ⟨_, q⟩
      · exact ⟨_, q⟩
    refine ⟨v2, a2, b2', ex, em, refX (-2) v2 a2 ?_ (by simp [NoC]) y1, ?_, y3, hS⟩
    · unfold f_X6_refusalOfTwoRows
      rw [h2, Option.bind_some, hu, Option.bind_some, if_pos rfl]
    · unfold f_X7_copy
      rw [X7_isShelf_eq, Option.bind_some, h1, b2_f, if_pos rfl, y2, Option.bind_some]
  · rcases row_cases hS hc p2 with ⟨g1, g2⟩ | ⟨t, e', ht, rfl, g1, g2, g3, g4, g5, g6⟩ | ⟨t, k', w, ht, rfl, g1, hk', hw, g3, g4, g5, g6, g7, g8⟩
    · refine ⟨v2, a2, b2', ex, em, refX (-2) v2 a2 ?_ (by simp [NoC]) y1, ?_, y3, hS⟩
      · unfold f_X6_refusalOfTwoRows
        rw [h2, Option.bind_some, g2, Option.bind_some, if_pos rfl]
        split <;> rfl
      · unfold f_X7_copy
        rw [X7_isShelf_eq, Option.bind_some, h1, b2_t, if_neg gc, X7_isShelf_eq, Option.bind_some, g1, b2_f, if_pos rfl, y2, Option.bind_some]
    · rcases h6 with ⟨rfl, l, hl, hh⟩ | ⟨rfl, hh⟩
      · have b1 : nI 10 ≤ nI (10 + l) := by rw [le_nI (by omega) (by omega)]; omega
        refine ⟨v3, a3, b3', ex, em, refX (-3) v3 a3 ?_ (by simp [NoC]) z1, ?_, z3, hS⟩
        · unfold f_X6_refusalOfTwoRows
          rw [h2, Option.bind_some, g2, Option.bind_some, if_neg n23, if_neg (by rcases g6 with ⟨rfl, -⟩ | ⟨rfl, -⟩ <;> decide), if_pos rfl]
        · unfold f_X7_copy
          rw [X7_isShelf_eq, Option.bind_some, h1, b2_t, if_neg gc, X7_isShelf_eq, Option.bind_some, g1, b2_t, if_neg gc, xout_s hs (show 8 < 2 ^ 31 by omega), xat_nI (show s < 2 ^ 31 by omega), hh, if_neg (by decide), if_pos b1, z2, Option.bind_some]
      · have b1 : ¬ nI 10 ≤ (-1 : Int32) := by decide
        rcases g6 with ⟨rfl, l, hl, gg⟩ | ⟨rfl, gg⟩
        · have b2 : nI 10 ≤ nI (10 + l) := by rw [le_nI (by omega) (by omega)]; omega
          refine ⟨v3, a3, b3', ex, em, refX (-3) v3 a3 ?_ (by simp [NoC]) z1, ?_, z3, hS⟩
          · unfold f_X6_refusalOfTwoRows
            rw [h2, Option.bind_some, g2, Option.bind_some, if_neg n24, if_neg n23, if_neg n34, if_pos rfl]
          · unfold f_X7_copy
            rw [X7_isShelf_eq, Option.bind_some, h1, b2_t, if_neg gc, X7_isShelf_eq, Option.bind_some, g1, b2_t, if_neg gc, xout_s hs (show 8 < 2 ^ 31 by omega), xat_nI (show s < 2 ^ 31 by omega), hh, if_neg (by decide), if_neg b1, xout_s ht (show 8 < 2 ^ 31 by omega), xat_nI (show t < 2 ^ 31 by omega), gg, if_neg (by decide), if_pos b2, z2, Option.bind_some]
        · refine ⟨v4, a4, b4', ex, em, refX (-4) v4 a4 ?_ (by simp [NoC]) w1, ?_, w3, hS⟩
          · unfold f_X6_refusalOfTwoRows
            rw [h2, Option.bind_some, g2, Option.bind_some, if_neg n24, if_neg n24, if_neg n34, if_neg n34, if_pos rfl]
          · unfold f_X7_copy f_X7_copy_J81
            rw [X7_isShelf_eq, Option.bind_some, h1, b2_t, if_neg gc, X7_isShelf_eq, Option.bind_some, g1, b2_t, if_neg gc, xout_s hs (show 8 < 2 ^ 31 by omega), xat_nI (show s < 2 ^ 31 by omega), hh, if_neg (by decide), if_neg b1, xout_s ht (show 8 < 2 ^ 31 by omega), xat_nI (show t < 2 ^ 31 by omega), gg, if_neg (by decide), if_neg b1, h3, Option.bind_some, if_pos rfl, if_neg (by decide), if_pos (show (-1 : Int32) < nI 0 by decide), w2, Option.bind_some]
    · have hx10 : ¬ nI 10 ≤ nI k' := by rw [le_nI (by omega) (by omega)]; omega
      rcases h6 with ⟨rfl, l, hl, hh⟩ | ⟨rfl, hh⟩
      · have b1 : nI 10 ≤ nI (10 + l) := by rw [le_nI (by omega) (by omega)]; omega
        refine ⟨v3, a3, b3', ex, em, refX (-3) v3 a3 ?_ (by simp [NoC]) z1, ?_, z3, hS⟩
        · unfold f_X6_refusalOfTwoRows
          rw [h2, Option.bind_some, g7, Option.bind_some, if_neg n23, if_neg n02, if_pos rfl]
        · unfold f_X7_copy
          rw [X7_isShelf_eq, Option.bind_some, h1, b2_t, if_neg gc, X7_isShelf_eq, Option.bind_some, g1, b2_t, if_neg gc, xout_s hs (show 8 < 2 ^ 31 by omega), xat_nI (show s < 2 ^ 31 by omega), hh, if_neg (by decide), if_pos b1, z2, Option.bind_some]
      · have b1 : ¬ nI 10 ≤ (-1 : Int32) := by decide
        refine ⟨v4, a4, b4', ex, em, refX (-4) v4 a4 ?_ (by simp [NoC]) w1, ?_, w3, hS⟩
        · unfold f_X6_refusalOfTwoRows
          rw [h2, Option.bind_some, g7, Option.bind_some, if_neg n24, if_neg n02, if_neg n34, if_neg n03, if_pos rfl]
        · unfold f_X7_copy f_X7_copy_J81
          rw [X7_isShelf_eq, Option.bind_some, h1, b2_t, if_neg gc, X7_isShelf_eq, Option.bind_some, g1, b2_t, if_neg gc, xout_s hs (show 8 < 2 ^ 31 by omega), xat_nI (show s < 2 ^ 31 by omega), hh, if_neg (by decide), if_neg b1, xout_s ht (show 8 < 2 ^ 31 by omega), xat_nI (show t < 2 ^ 31 by omega), g3, if_neg (by decide), if_neg hx10, h3, Option.bind_some, if_pos rfl, if_neg (by decide), if_pos (show (-1 : Int32) < nI 0 by decide), w2, Option.bind_some]
  · have hk10 : ¬ nI 10 ≤ nI k := by rw [le_nI (by omega) (by omega)]; omega
    have hk0 : ¬ nI k < nI 0 := nI_nneg (by omega)
    rcases row_cases hS hc p2 with ⟨g1, g2⟩ | ⟨t, e', ht, rfl, g1, g2, g3, g4, g5, g6⟩ | ⟨t, k', w, ht, rfl, g1, hk', hw, g3, g4, g5, g6, g7, g8⟩
    · refine ⟨v2, a2, b2', ex, em, refX (-2) v2 a2 ?_ (by simp [NoC]) y1, ?_, y3, hS⟩
      · unfold f_X6_refusalOfTwoRows
        rw [h7, Option.bind_some, g2, Option.bind_some, if_neg n02, if_pos rfl]
      · unfold f_X7_copy
        rw [X7_isShelf_eq, Option.bind_some, h1, b2_t, if_neg gc, X7_isShelf_eq, Option.bind_some, g1, b2_f, if_pos rfl, y2, Option.bind_some]
    · rcases g6 with ⟨rfl, l, hl, gg⟩ | ⟨rfl, gg⟩
      · have b2 : nI 10 ≤ nI (10 + l) := by rw [le_nI (by omega) (by omega)]; omega
        refine ⟨v3, a3, b3', ex, em, refX (-3) v3 a3 ?_ (by simp [NoC]) z1, ?_, z3, hS⟩
        · unfold f_X6_refusalOfTwoRows
          rw [h7, Option.bind_some, g2, Option.bind_some, if_neg n02, if_neg n23, if_neg n03, if_pos rfl]
        · unfold f_X7_copy
          rw [X7_isShelf_eq, Option.bind_some, h1, b2_t, if_neg gc, X7_isShelf_eq, Option.bind_some, g1, b2_t, if_neg gc, xout_s hs (show 8 < 2 ^ 31 by omega), xat_nI (show s < 2 ^ 31 by omega), h3, if_neg (by decide), if_neg hk10, xout_s ht (show 8 < 2 ^ 31 by omega), xat_nI (show t < 2 ^ 31 by omega), gg, if_neg (by decide), if_pos b2, z2, Option.bind_some]
      · refine ⟨v4, a4, b4', ex, em, refX (-4) v4 a4 ?_ (by simp [NoC]) w1, ?_, w3, hS⟩
        · unfold f_X6_refusalOfTwoRows
          rw [h7, Option.bind_some, g2, Option.bind_some, if_neg n02, if_neg n24, if_neg n03, if_neg n34, if_neg n04, if_pos rfl]
        · unfold f_X7_copy f_X7_copy_J81
          rw [X7_isShelf_eq, Option.bind_some, h1, b2_t, if_neg gc, X7_isShelf_eq, Option.bind_some, g1, b2_t, if_neg gc, xout_s hs (show 8 < 2 ^ 31 by omega), xat_nI (show s < 2 ^ 31 by omega), h3, if_neg (by decide), if_neg hk10, xout_s ht (show 8 < 2 ^ 31 by omega), xat_nI (show t < 2 ^ 31 by omega), gg, if_neg (by decide), if_neg (show ¬ nI 10 ≤ (-1 : Int32) by decide), h8, Option.bind_some, if_neg gc, g3, Option.bind_some, if_pos rfl, if_neg (by decide), if_neg hk0, if_neg (by decide), if_neg (show ¬ nI 0 ≤ (-1 : Int32) by decide), w2, Option.bind_some]
    · have hk2 : ¬ nI 10 ≤ nI k' := by rw [le_nI (by omega) (by omega)]; omega
      have u0 : f_X6_refusalOfTwoRows hx (nI s) (nI t) = if nI k = nI k' then some (nI 0) else some (-3) := by
        unfold f_X6_refusalOfTwoRows
        rw [h7, Option.bind_some, g7, Option.bind_some, if_neg n02, if_neg n02, if_neg n03, if_neg n03, if_neg n04, if_neg n04, X4_heldOn_eq hs, Option.bind_some, X4_heldOn_eq ht, Option.bind_some, (hS s hs).1, (hS t ht).1, h3, g3]
      have m0 : f_X7_copy hm rm sm em (nI s) (nI t) p3 p4 p5 = if nI k = nI k' then f_X7_copy_J81 hm rm sm em (nI s) (nI t) p3 p4 p5 else some (v3, b3', em) := by
        unfold f_X7_copy
        rw [X7_isShelf_eq, Option.bind_some, h1, b2_t, if_neg gc, X7_isShelf_eq, Option.bind_some, g1, b2_t, if_neg gc, xout_s hs (show 8 < 2 ^ 31 by omega), xat_nI (show s < 2 ^ 31 by omega), h3, if_neg (by decide), if_neg hk10, xout_s ht (show 8 < 2 ^ 31 by omega), xat_nI (show t < 2 ^ 31 by omega), g3, if_neg (by decide), if_neg hk2, h8, Option.bind_some, if_neg gc, g8, Option.bind_some, if_neg gc, if_neg (by decide), if_neg (by decide), z2, Option.bind_some]
      by_cases ek : k = k'
      · subst ek
        rw [if_pos rfl] at u0 m0
        obtain ⟨q1, r1, r2⟩ := hasE hs hz h4 p3 p5
        obtain ⟨q2, r3, r4⟩ := hasE ht hw g4 p4 p5
        by_cases fit : fits p3 p5 z ∧ fits p4 p5 w
        · obtain ⟨i3, L, rfl, rfl, f1⟩ := fits_nat fit.1 hz
          obtain ⟨i4, L', rfl, eL, f2⟩ := fits_nat fit.2 hw
          have eL2 : L = L' := (nI_eq (by omega) (by omega)).mp eL
          subst eL2
          have hcx := copyX (L := L) (i3 := i3) (i4 := i4) hs ht hz hw ((hS t ht).1.trans g3) h4 g4 (fun i hi => (h6 i hi).2) f1 f2
          refine ⟨nI L, rx, rm, cpf ex (40 * s + i3) (40 * t + i4) L, cpf em (40 * s + i3) (40 * t + i4) L, ?_, m0.trans (J81_yes hs ht hk hz hw h3 g3 h5 g5 f1 f2), hR, ShOk_up (s := t) hS (fun t' ht' hne => ⟨rfl, rfl, rfl, rfl, fun i hi => ⟨cpf_o (by omega), cpf_o (by omega)⟩⟩) ⟨(hS t ht).1, Or.inr (Or.inr ⟨k, w, hk, hw, g3, g4, g5, fun i hi => ?_⟩)⟩⟩
          · unfold f_X6_copy f_X6_copy_J46
            rw [u0, Option.bind_some, if_pos rfl, r1, Option.bind_some, r2.mpr fit.1, b2_t, if_neg gc, r3, Option.bind_some, r4.mpr fit.2, b2_t, if_neg gc, if_pos rfl, hcx, Option.bind_some]
          · by_cases ir : i4 ≤ i ∧ i < i4 + L
            · rw [cpf_i (by omega), cpf_i (by omega), show 40 * t + i - (40 * t + i4) + (40 * s + i3) = 40 * s + (i3 + (i - i4)) by omega]
              exact h6 _ (by omega)
            · rw [cpf_o (by omega), cpf_o (by omega)]
              exact g6 i hi
        · refine ⟨v2, a2, b2', ex, em, ?_, m0.trans (J81_no hs ht hk hz hw h3 g3 h5 g5 y2 p3 p4 p5 fit), y3, hS⟩
          unfold f_X6_copy f_X6_copy_J42 f_X6_copy_J46
          rw [u0, Option.bind_some, if_pos rfl, r1, Option.bind_some]
          cases q1 with
          | false => rw [b2_f, if_pos rfl, if_neg two_nz, y1, Option.bind_some]
          | true =>
            rw [b2_t, if_neg gc, r3, Option.bind_some]
            cases q2 with
            | false => rw [b2_f, if_pos rfl, if_neg two_nz, y1, Option.bind_some]
            | true => exact absurd ⟨r2.mp rfl, r4.mp rfl⟩ fit
      · have ek2 : ¬ nI k = nI k' := by rw [nI_eq (by omega) (by omega)]; exact ek
        rw [if_neg ek2] at u0 m0
        exact ⟨v3, a3, b3', ex, em, refX (-3) v3 a3 u0 (by simp [NoC]) z1, m0, z3, hS⟩
end C2
