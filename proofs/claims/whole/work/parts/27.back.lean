-- PURE: image, back, feed, says
section B2
variable {c f d n P m : Nat} {g kn tn : Nat → Nat} {kx tx km tm ax am rx rm hx hm sx sm : Nat → Int32} {ex em : Nat → Int64} {r : Int64}
/-- the kept lake, of the class (k..) and of the reference (o, q) -/
def KpL (ki kd kms : Int32) (kr : Int64) (ks kseed kc : Int32) (kk kt : Nat → Int32) (kP : Int32) (ka : Nat → Int32) (q : Int64) (o : Nat → Int32) : Prop := ∃ c f d m n P kn tn g, ki = nI f ∧ kd = nI d ∧ kms = nI m ∧ kr = q ∧ ks = nI n ∧ kc = nI c ∧ kP = nI P ∧ o 22 = nI c ∧ o 23 = nI f ∧ o 24 = nI d ∧ o 25 = nI m ∧ o 26 = nI n ∧ o 27 = nI P ∧ o 28 = kseed ∧ FOk c f ∧ d ≤ 9 ∧ m ≤ 100 ∧ n ≤ 40 ∧ ROk n q ∧ LwX c kn tn kk kt ∧ LwX c kn tn (fun l => o l) (fun l => o (6 + l)) ∧ PpOk P g ka (fun l => o (12 + l))
theorem LwX_c {a b a' b' : Nat → Int32} (h : LwX c kn tn a b) (e : ∀ l, l < 6 → a' l = a l ∧ b' l = b l) : LwX c kn tn a' b' := by
  refine ⟨h.1, fun l hl => ?_⟩
  have hc := h.1
  obtain ⟨e1, e2⟩ := e l (by omega)
  rw [e1, e2]; exact h.2 l hl
theorem PpOk_c {a b a' b' : Nat → Int32} (h : PpOk P g a b) (e : ∀ l, l < 10 → a' l = a l) (e2 : ∀ l, l < 10 → b' l = b l) : PpOk P g a' b' := by
  have hP := h.1
  refine ⟨h.1, fun l hl => ?_⟩
  rw [e l (by omega), e2 l (by omega)]; exact h.2 l hl
theorem e_image (hX : LwX c kn tn kx tx) (hM : LwX c kn tn km tm) (h : PpOk P g ax am) (hf : FOk c f) (hd : d ≤ 9) (hm' : m ≤ 100) (hn : n ≤ 40) (hr : ROk n r) (s isK ki kd kms : Int32) (kr : Int64) (ks kseed kc : Int32) (kk kt : Nat → Int32) (kP : Int32) (ka : Nat → Int32) (img : Int32) (q : Int64) (o : Nat → Int32) : ∃ ki' kd' kms' kr' ks' kseed' kc' kk' kt' kP' ka' q' o', f_X6_image isK ki kd kms kr ks kseed kc kk kt kP ka (nI f) (nI d) (nI m) r (nI n) s (nI c) kx tx (nI P) ax = some (nI 1, nI 1, ki', kd', kms', kr', ks', kseed', kc', kk', kt', kP', ka') ∧ f_X7_image (nI c) (nI f) (nI d) (nI m) r (nI n) (nI P) s img q am km o tm = some (nI 1, nI 1, q', o') ∧ KpL ki' kd' kms' kr' ks' kseed' kc' kk' kt' kP' ka' q' o' := by
  obtain ⟨k1, t1, x1, x2⟩ := X2_take (kx := kk) (tx := kt) kc kx tx (nI c)
  obtain ⟨a1, y1, y2⟩ := X3_take (ax := ka) kP ax (nI P)
  obtain ⟨e, z1, z2, z3, z4, z5, z6, z7, z8, z9, z10⟩ := keep_eq (am := am) (km := km) (tm := tm) (nI c) (nI f) (nI d) (nI m) (nI n) (nI P) s o
  unfold f_X6_image f_X7_image f_X0_takeFrom
  rw [x1, y1, z1]
  refine ⟨_, _, _, _, _, _, _, _, _, _, _, _, _, rfl, rfl, c, f, d, m, n, P, kn, tn, g, rfl, rfl, rfl, rfl, rfl, rfl, rfl, z4, z5, z6, z7, z8, z9, z10, hf, hd, hm', hn, hr, LwX_c hX x2, LwX_c hM z2, PpOk_c h y2 z3⟩
def ShE (c : Nat) (hx hm sx sm : Nat → Int32) (ex em : Nat → Int64) (s : Nat) : Prop := hx s = hm s ∧ ((hm s = -1 ∧ sx s = nI 0) ∨ (∃ l, l < c ∧ hm s = nI (10 + l) ∧ sx s = nI 0) ∨ (∃ k z, k ≤ 4 ∧ z ≤ 40 ∧ hm s = nI k ∧ sx s = nI z ∧ sm s = nI z ∧ ∀ i, i < z → ex (40 * s + i) = em (40 * s + i) ∧ f_X4_lowestBits (nI k) (ex (40 * s + i)) = some (ex (40 * s + i))))
theorem ShE_c {hx' hm' sx' : Nat → Int32} {s : Nat} (h : ShE c hx hm sx sm ex em s) (e1 : hx' s = hx s) (e2 : hm' s = hm s) (e3 : sx' s = sx s) : ShE c hx' hm' sx' sm ex em s := by
  unfold ShE; rw [e1, e2, e3]; exact h
theorem ShOk_mono {c' : Nat} (h : ShOk c hx hm sx sm ex em) (hc : c ≤ c') : ShOk c' hx hm sx sm ex em := by
  intro s hs
  obtain ⟨h0, h⟩ := h s hs
  refine ⟨h0, ?_⟩
  rcases h with h | ⟨l, hl, h⟩ | h
  · exact Or.inl h
  · exact Or.inr (Or.inl ⟨l, by omega, h⟩)
  · exact Or.inr (Or.inr h)
theorem clear_eq {c' : Nat} (hS : ShOk c hx hm sx sm ex em) (hc : c ≤ 6) (hc' : c' ≤ 6) {R : Type} (fin : (Nat → Int32) → R) (body : Int32 × (Nat → Int32) → Option (R ⊕ Int32 × (Nat → Int32))) (hb : ∀ s, body s = if (nI 8) ≤ s.1 then some (.inl (fin s.2)) else if xout s.1 8 then none else if (s.2 (xat s.1)) < ((nI 10) + nI c') then some (.inr (s.1 + (nI 1), s.2)) else if xout s.1 8 then none else some (.inr (s.1 + (nI 1), upd s.2 (xat s.1) (-1 : Int32)))) : ∃ hx' sx' hm', f_X4_clearLawsFrom hx sx (nI c') = some (hx', sx') ∧ xloop body xN (nI 0, hm) = some (fin hm') ∧ ShOk c' hx' hm' sx' sm ex em := by
  unfold f_X4_clearLawsFrom
  obtain ⟨a, b, q1, q2, hx', sx', hm', rfl, rfl, q3⟩ := xl_pair (bx := f_X4_clearLawsFrom_L2 (nI c')) (bm := body) (fun i s t => s.1 = nI i ∧ t.1 = nI i ∧ ∀ j, j < 8 → if j < i then ShE c' s.2.1 t.2 s.2.2 sm ex em j else ShE c s.2.1 t.2 s.2.2 sm ex em j) (fun a b => ∃ hx' sx' hm', a = (hx', sx') ∧ b = fin hm' ∧ ShOk c' hx' hm' sx' sm ex em) 8 (s0 := (nI 0, hx, sx)) (t0 := (nI 0, hm)) (by omega) ⟨rfl, rfl, fun j hj => by rw [if_neg (by omega)]; exact hS j hj⟩ (fun i s t hi hI => by
    obtain ⟨s1, s2, s3⟩ := s
    obtain ⟨t1, t2⟩ := t
    obtain ⟨rfl, rfl, hI⟩ := hI
    rw [hb]
    by_cases h : i < 8
    · have ga : ¬ nI 8 ≤ nI i := by rw [le_nI (by omega) (by omega)]; omega
      refine Or.inr ⟨h, ?_⟩
      have hE : ShE c s2 t2 s3 sm ex em i := by
        have := hI i h
        rwa [if_neg (by omega)] at this
      have keep : ∀ (x : ShE c' s2 t2 s3 sm ex em i), ∀ j, j < 8 → if j < i + 1 then ShE c' s2 t2 s3 sm ex em j else ShE c s2 t2 s3 sm ex em j := by
        intro x j hj
        by_cases z : j < i + 1
        · rw [if_pos z]
          by_cases z2 : j = i
          · subst z2; exact x
          · have := hI j hj; rwa [if_pos (by omega)] at this
        · rw [if_neg z]
          have := hI j hj; rwa [if_neg (by omega)] at this
      obtain ⟨e0, hE2⟩ := hE
      simp only [f_X4_clearLawsFrom_L2, if_neg ga, f_X4_lawOn, X4_heldOn_eq h, e0, Option.bind_some, xout_s h (show 8 < 2 ^ 31 by omega), xat_nI (show i < 2 ^ 31 by omega), nI_add, Bool.false_eq_true, if_false]
      rcases hE2 with ⟨h1, h2⟩ | ⟨l, hl, h1, h2⟩ | ⟨k, z, hk, hz, h1, h2, h3, h4⟩
      · rw [h1]
        have g1 : (-1 : Int32) < nI 10 := by decide
        have g2 : (-1 : Int32) < nI c' := by
          rcases (show c' = 0 ∨ c' = 1 ∨ c' = 2 ∨ c' = 3 ∨ c' = 4 ∨ c' = 5 ∨ c' = 6 by omega) with rfl | rfl | rfl | rfl | rfl | rfl | rfl <;> decide
        have g3 : (-1 : Int32) < nI (10 + c') := by
          rcases (show c' = 0 ∨ c' = 1 ∨ c' = 2 ∨ c' = 3 ∨ c' = 4 ∨ c' = 5 ∨ c' = 6 by omega) with rfl | rfl | rfl | rfl | rfl | rfl | rfl <;> decide
        simp only [if_pos g1, if_pos g2, if_pos g3, Option.bind_some]
        exact ⟨_, _, rfl, rfl, rfl, rfl, keep ⟨e0, Or.inl ⟨h1, h2⟩⟩⟩
      · rw [h1]
        have g1 : ¬ nI (10 + l) < nI 10 := by rw [lt_nI (by omega) (by omega)]; omega
        have e2 : nI (10 + l) - nI 10 = nI l := by rw [nI_dif (by omega)]; congr 1; omega
        simp only [if_neg g1, e2, Option.bind_some]
        by_cases z : l < c'
        · have g2 : nI l < nI c' := by rw [lt_nI (by omega) (by omega)]; exact z
          have g3 : nI (10 + l) < nI (10 + c') := by rw [lt_nI (by omega) (by omega)]; omega
          simp only [if_pos g2, if_pos g3]
          exact ⟨_, _, rfl, rfl, rfl, rfl, keep ⟨e0, Or.inr (Or.inl ⟨l, z, h1, h2⟩)⟩⟩
        · have g2 : ¬ nI l < nI c' := by rw [lt_nI (by omega) (by omega)]; exact z
          have g3 : ¬ nI (10 + l) < nI (10 + c') := by rw [lt_nI (by omega) (by omega)]; omega
          simp only [if_neg g2, if_neg g3, f_X4_putNothing, X4_put_eq h, Option.bind_some]
          refine ⟨_, _, rfl, rfl, rfl, rfl, fun j hj => ?_⟩
          by_cases z1 : j < i + 1
          · rw [if_pos z1]
            by_cases z2 : j = i
            · subst z2
              exact ⟨by show upd s2 j (-1) j = upd t2 j (-1) j; rw [upd_s, upd_s], Or.inl ⟨upd_s _ _ _, upd_s _ _ _⟩⟩
            · have := hI j hj; rw [if_pos (by omega)] at this
              exact ShE_c this (upd_o _ _ z2) (upd_o _ _ z2) (upd_o _ _ z2)
          · rw [if_neg z1]
            have := hI j hj; rw [if_neg (by omega)] at this
            exact ShE_c this (upd_o _ _ (by omega)) (upd_o _ _ (by omega)) (upd_o _ _ (by omega))
      · rw [h1]
        have g1 : nI k < nI 10 := by rw [lt_nI (by omega) (by omega)]; omega
        have g2 : (-1 : Int32) < nI c' := by
          rcases (show c' = 0 ∨ c' = 1 ∨ c' = 2 ∨ c' = 3 ∨ c' = 4 ∨ c' = 5 ∨ c' = 6 by omega) with rfl | rfl | rfl | rfl | rfl | rfl | rfl <;> decide
        have g3 : nI k < nI (10 + c') := by rw [lt_nI (by omega) (by omega)]; omega
        simp only [if_pos g1, if_pos g2, if_pos g3, Option.bind_some]
        exact ⟨_, _, rfl, rfl, rfl, rfl, keep ⟨e0, Or.inr (Or.inr ⟨k, z, hk, hz, h1, h2, h3, h4⟩)⟩⟩
    · have e : i = 8 := by omega
      subst e
      simp only [f_X4_clearLawsFrom_L2, Int32.le_refl, if_true]
      refine Or.inl ⟨_, _, rfl, rfl, s2, s3, t2, rfl, rfl, fun j hj => ?_⟩
      have := hI j hj
      rwa [if_pos hj] at this)
  exact ⟨hx', sx', hm', q1, q2, q3⟩
theorem e_back0 (hR : RR rx rm) : ∃ v rx' rm', f_X6_refuse rx (-5) = some (v, rx') ∧ f_X7_no rm (-5) = some (v, rm') ∧ RR rx' rm' := noC' (show NoC (-5) by simp [NoC]) hR
theorem e_feed {sz : Nat} {bx bm : Nat → Int32} (hz : sz ≤ 250) (hB : ∀ i, i < sz → ∃ b, b < 256 ∧ bx i = nI b ∧ bm i = nI b) (hR : RR rx rm) (p1 : Int32) : ∃ v sz' bx' bm' rx' rm', f_X6_feed (nI sz) bx rx p1 = some (v, nI sz', bx', rx') ∧ f_X7_feed (nI sz) rm bm p1 = some (v, nI sz', rm', bm') ∧ sz' ≤ 250 ∧ (∀ i, i < sz' → ∃ b, b < 256 ∧ bx' i = nI b ∧ bm' i = nI b) ∧ RR rx' rm' := by
  obtain ⟨v2, a, b, y1, y2, y3⟩ := noC' (show NoC (-2) by simp [NoC]) hR
  obtain ⟨v6, a6, b6, z1, z2, z3⟩ := noC6 hR
  simp only [f_X6_feed, f_X7_feed, X6_isWithin_eq, X7_within_eq, Option.bind_some, ifb, y1, y2, z1, z2]
  cases g1 : wi p1 (nI 0) (nI 255) with
  | false => exact ⟨v2, sz, bx, bm, a, b, rfl, rfl, hz, hB, y3⟩
  | true =>
    obtain ⟨k, -, hk, rfl⟩ := (wi_nI (by omega) (by omega)).mp g1
    simp only [if_true]
    by_cases z : sz = 250
    · subst z
      simp only [f_X5_hasRoom, Int32.le_refl, if_true, Option.bind_some]
      exact ⟨v6, 250, bx, bm, a6, b6, rfl, rfl, hz, hB, z3⟩
    · have ga : ¬ nI 250 ≤ nI sz := by rw [le_nI (by omega) (by omega)]; omega
      have gb : ¬ nI sz = nI 250 := by rw [nI_eq (by omega) (by omega)]; exact z
      have gc : ¬ nI 1 = nI 0 := by decide
      have gd : ¬ nI sz < nI 0 := nI_nneg (by omega)
      simp only [f_X5_hasRoom, f_X5_add, if_neg ga, if_neg gb, if_neg gc, if_neg gd, Option.bind_some, xout_s (show sz < 250 by omega) (show 250 < 2 ^ 31 by omega), xat_nI (show sz < 2 ^ 31 by omega), nI_add]
      refine ⟨_, sz + 1, upd bx sz (nI k), upd bm sz (nI k), rx, rm, rfl, rfl, by omega, fun i hi => ?_, hR⟩
      by_cases q : i = sz
      · subst q; rw [upd_s, upd_s]; exact ⟨k, by omega, rfl, rfl⟩
      · rw [upd_o _ _ q, upd_o _ _ q]; exact hB i (by omega)
theorem isUnder_eq (a b : Int32) : f_X7_isUnder a b = f_X2_isUnder a b := by
  unfold f_X7_isUnder f_X2_isUnder f_X7_isUnder_J19 f_X2_isUnder_J21
  by_cases z : a = b
  · simp only [if_pos z, if_pos z.symm]
  · have z2 : ¬ b = a := fun y => z y.symm
    simp only [if_neg z, if_neg z2]
end B2
