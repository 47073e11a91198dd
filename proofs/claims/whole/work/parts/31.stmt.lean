-- PURE: one statement of a told lake
def Dr (c0 : Nat) (fi dp ms : Int32) (rg : Int64) (st ct : Int32) (kx tx : Nat → Int32) (pc : Int32) (ax km tm am : Nat → Int32) : Prop := ∃ c f d m n P kn tn g, fi = nI f ∧ dp = nI d ∧ ms = nI m ∧ st = nI n ∧ ct = nI c ∧ pc = nI P ∧ (c0 ≤ c ∧ FOk c f) ∧ d ≤ 9 ∧ m ≤ 100 ∧ n ≤ 40 ∧ ROk n rg ∧ LwX c kn tn kx tx ∧ LwX c kn tn km tm ∧ PpOk P g ax am
abbrev Int32F := Nat → Int32
def Out (c0 sz e : Nat) (X : Option (Int32 × Int32 × Int32 × Int32 × Int32 × Int64 × Int32 × Int32 × Int32F × Int32F × Int32 × Int32F × Int32 × Int32 × Int32)) (M : Option (Int32 × Int32 × Int32 × Int32 × Int32 × Int64 × Int32 × Int32 × Int32 × Int32 × Int32 × Int32 × Int32F × Int32F × Int32F)) : Prop := (∃ nb fi dp ms rg st ct kx tx pc ax km tm am k a b fr to q v, X = some (nI 1, nb, fi, dp, ms, rg, st, ct, kx, tx, pc, ax, k, a, b) ∧ M = some (nI 1, ct, fi, dp, ms, rg, st, pc, fr, to, q, v, am, km, tm) ∧ Dr c0 fi dp ms rg st ct kx tx pc ax km tm am ∧ At sz e k a b fr to) ∨ (∃ nb fi dp ms rg st ct kx tx pc ax k a b fr to q v l1 l2 l3 l4 l5 l6 l7 am km tm, X = some (nI 0, nb, fi, dp, ms, rg, st, ct, kx, tx, pc, ax, k, a, b) ∧ M = some (nI 0, l1, l2, l3, l4, l5, l6, l7, fr, to, q, v, am, km, tm) ∧ At sz 0 k a b fr to)
theorem At_0 {sz e : Nat} {k a b fr to : Int32} (h : At sz e k a b fr to) {e' : Nat} (he : e' ≤ e) : At sz e' k a b fr to := by
  obtain ⟨x, y, h1, h2, h3, h4, h5, h6⟩ := h
  exact ⟨x, y, h1, h2, h3, h4, by omega, h6⟩
theorem wi_m1l (n : Nat) (hn : n < 2 ^ 31) : wi (-1) (nI 0) (nI n - nI 1) = false := by
  cases q : wi (-1 : Int32) (nI 0) (nI n - nI 1) with
  | false => rfl
  | true =>
    obtain ⟨j, hj, e⟩ := (wi_lt hn).mp q
    exact absurd e.symm (nI_nm1 (by omega))
section Y
variable {c0 sz : Nat} {y : Nat → Nat} {bx bm : Nat → Int32}
theorem stmt_eq (h : TpOk sz y bx bm) {e a b k q : Nat} {v : Int32} (hT : TokR bm sz e (nI k, nI a, nI b) (nI a, nI b, nI q, v)) (hk : k < 10) (hq : q < 1000) (h2 : a ≤ b) (h3 : b ≤ sz) (h1 : e ≤ a) (nb : Int32) {fi dp ms : Int32} {rg : Int64} {st ct : Int32} {kx tx : Nat → Int32} {pc : Int32} {ax km tm am : Nat → Int32} (hD : Dr c0 fi dp ms rg st ct kx tx pc ax km tm am) : Out c0 sz (e + 1) (f_X1_readStatement nb fi dp ms rg st ct kx tx pc ax (nI sz) (nI k) (nI a) (nI b) bx) (f_X7_statement ct fi dp ms rg st pc (nI sz) (nI a) (nI b) (nI q) v am km tm bm) := by
  have hz := h.1
  have at0 : At sz 0 (nI k) (nI a) (nI b) (nI a) (nI b) := ⟨a, b, rfl, rfl, rfl, rfl, by omega, h3⟩
  have gc : ¬ nI 1 = nI 0 := by decide
  obtain ⟨u0, w0, v0, x0⟩ := word_eq h hT hk hq (by omega) (by omega) (show 0 < 7 by omega)
  obtain ⟨u1, w1, v1, x1⟩ := word_eq h hT hk hq (by omega) (by omega) (show 1 < 7 by omega)
  obtain ⟨u2, w2, v2, x2⟩ := word_eq h hT hk hq (by omega) (by omega) (show 2 < 7 by omega)
  obtain ⟨u3, w3, v3, x3⟩ := word_eq h hT hk hq (by omega) (by omega) (show 3 < 7 by omega)
  obtain ⟨u4, w4, v4, x4⟩ := word_eq h hT hk hq (by omega) (by omega) (show 4 < 7 by omega)
  obtain ⟨u5, w5, v5, x5⟩ := word_eq h hT hk hq (by omega) (by omega) (show 5 < 7 by omega)
  obtain ⟨u6, w6, v6, x6⟩ := word_eq h hT hk hq (by omega) (by omega) (show 6 < 7 by omega)
  obtain ⟨c, f, d, m, n, P, kn, tn, g, rfl, rfl, rfl, rfl, rfl, rfl, hf, hd, hm, hn, hr, hX, hM, hP⟩ := hD
  have hc := hX.1
  have hP1 := hP.1
  unfold f_X1_readStatement f_X7_statement
  simp only [w0, v0, w1, v1, w2, v2, w3, v3, w4, v4, w5, v5, w6, v6, Option.bind_some]
  by_cases z0 : u0 = nI 0
  · simp only [if_pos z0]
    by_cases z1 : u1 = nI 0
    · simp only [if_pos z1]
      by_cases z2 : u2 = nI 0
      · simp only [if_pos z2]
        by_cases z3 : u3 = nI 0
        · simp only [if_pos z3]
          by_cases z4 : u4 = nI 0
          · simp only [if_pos z4]
            by_cases z5 : u5 = nI 0
            · simp only [if_pos z5]
              by_cases z6 : u6 = nI 0
              · simp only [if_pos z6]
                exact Or.inr ⟨_, _, _, _, _, _, _, _, _, _, _, _, _, _, _, _, _, _, _, _, _, _, _, _, _, _, _, _, rfl, rfl, at0⟩
              · simp only [if_neg z6, f_X0_clearRing, Option.bind_some]
                have hlt : a < b := by rcases x6 with x6 | x6; · exact absurd x6 z6
                                       · exact x6
                exact Or.inl ⟨_, _, _, _, _, _, _, _, _, _, _, _, _, _, _, _, _, _, _, _, _, rfl, rfl, ⟨c, f, d, m, 0, P, kn, tn, g, rfl, rfl, rfl, rfl, rfl, rfl, hf, hd, hm, by omega, fun i _ => bt_0 i, hX, hM, hP⟩, ⟨a, b, rfl, rfl, rfl, rfl, by omega, h3⟩⟩
            · simp only [if_neg z5]
              have hlt : a < b := by rcases x5 with x5 | x5; · exact absurd x5 z5
                                     · exact x5
              unfold f_X1_readPerson f_X3_hasRoom
              by_cases zp : P = 10
              · subst zp
                simp only [Int32.le_refl, if_true, Option.bind_some]
                exact Or.inr ⟨_, _, _, _, _, _, _, _, _, _, _, _, _, _, _, _, _, _, _, _, _, _, _, _, _, _, _, _, rfl, rfl, at0⟩
              · have ga : ¬ nI 10 ≤ nI P := by rw [le_nI (by omega) (by omega)]; omega
                have gb : ¬ nI P = nI 10 := by rw [nI_eq (by omega) (by omega)]; exact zp
                have gd : ¬ nI P < nI 0 := nI_nneg (by omega)
                rcases num_eq h h3 nb (nI k) (nI a) (nI a) (nI q) v (nI 1) (nI 99) (wi_m1 (by omega) (by omega)) with ⟨p1, p2, p3, p4, p5, p6, p7, p8, p9, p10, p11, p12, p13⟩ | ⟨p1, p2, p3, p4, p5, p6, p7, p8, p9, p10, p13⟩
                · obtain ⟨t, -, ht, rfl⟩ := (wi_nI (by omega) (by omega)).mp p11
                  simp only [if_neg ga, if_neg gb, if_neg gc, Option.bind_some, p9, p10, if_neg p12, f_X3_add, f_X3_write, if_neg gd, xout_s (show P < 10 by omega) (show 10 < 2 ^ 31 by omega), xat_nI (show P < 2 ^ 31 by omega), f_X7_newOne, nI_add]
                  exact Or.inl ⟨_, _, _, _, _, _, _, _, _, _, _, _, _, _, _, _, _, _, _, _, _, rfl, rfl, ⟨c, f, d, m, n, P + 1, kn, tn, _, rfl, rfl, rfl, rfl, rfl, rfl, hf, hd, hm, hn, hr, hX, hM, PpOk_add hP (by omega) ht⟩, At_0 p13 (by omega)⟩
                · simp only [if_neg ga, if_neg gb, if_neg gc, Option.bind_some, p9, p10, if_true]
                  exact Or.inr ⟨_, _, _, _, _, _, _, _, _, _, _, _, _, _, _, _, _, _, _, _, _, _, _, _, _, _, _, _, rfl, rfl, At_0 p13 (by omega)⟩
          · simp only [if_neg z4]
            have hlt : a < b := by rcases x4 with x4 | x4; · exact absurd x4 z4
                                   · exact x4
            by_cases zn : n = 40
            · subst zn
              unfold f_X1_readSteps f_X0_hasRoom
              simp only [Int32.le_refl, if_true, Option.bind_some]
              exact Or.inr ⟨_, _, _, _, _, _, _, _, _, _, _, _, _, _, _, _, _, _, _, _, _, _, _, _, _, _, _, _, rfl, rfl, at0⟩
            · have gb : ¬ nI n = nI 40 := by rw [nI_eq (by omega) (by omega)]; exact zn
              rcases steps_eq h h3 (show n < 40 by omega) hr (nI k) (nI a) (nI a) (nI q) v (nI c) (nI f) (nI d) (nI m) (nI P) am km tm with ⟨p1, p2, p3, p4, p5, p6, p7, p8, p9, q1, q2, q3, q4, q5, q6⟩ | ⟨p1, p2, p3, p4, p5, p6, p7, p8, p9, q1, q2, q6⟩
              · simp only [if_neg gb, q1, q2, q3, Option.bind_some, if_neg gc]
                exact Or.inl ⟨_, _, _, _, _, _, _, _, _, _, _, _, _, _, _, _, _, _, _, _, _, rfl, rfl, ⟨c, f, d, m, p2, P, kn, tn, g, rfl, rfl, rfl, rfl, rfl, rfl, hf, hd, hm, q4, q5, hX, hM, hP⟩, At_0 q6 (by omega)⟩
              · simp only [if_neg gb, q1, q2, Option.bind_some, if_true]
                exact Or.inr ⟨_, _, _, _, _, _, _, _, _, _, _, _, _, _, _, _, _, _, _, _, _, _, _, _, _, _, _, _, rfl, rfl, At_0 q6 (by omega)⟩
        · simp only [if_neg z3]
          have hlt : a < b := by rcases x3 with x3 | x3; · exact absurd x3 z3
                                 · exact x3
          unfold f_X1_readMiss
          rcases num_eq h h3 nb (nI k) (nI a) (nI a) (nI q) v (nI 0) (nI 100) (wi_m1 (by omega) (by omega)) with ⟨p1, p2, p3, p4, p5, p6, p7, p8, p9, p10, p11, p12, p13⟩ | ⟨p1, p2, p3, p4, p5, p6, p7, p8, p9, p10, p13⟩
          · obtain ⟨t, -, ht, rfl⟩ := (wi_nI (by omega) (by omega)).mp p11
            simp only [p9, p10, Option.bind_some, if_neg gc, if_neg p12]
            exact Or.inl ⟨_, _, _, _, _, _, _, _, _, _, _, _, _, _, _, _, _, _, _, _, _, rfl, rfl, ⟨c, f, d, t, n, P, kn, tn, g, rfl, rfl, rfl, rfl, rfl, rfl, hf, hd, ht, hn, hr, hX, hM, hP⟩, At_0 p13 (by omega)⟩
          · simp only [p9, p10, Option.bind_some, if_true]
            exact Or.inr ⟨_, _, _, _, _, _, _, _, _, _, _, _, _, _, _, _, _, _, _, _, _, _, _, _, _, _, _, _, rfl, rfl, At_0 p13 (by omega)⟩
      · simp only [if_neg z2]
        have hlt : a < b := by rcases x2 with x2 | x2; · exact absurd x2 z2
                               · exact x2
        unfold f_X1_readDepth
        rcases num_eq h h3 nb (nI k) (nI a) (nI a) (nI q) v (nI 0) (nI 9) (wi_m1 (by omega) (by omega)) with ⟨p1, p2, p3, p4, p5, p6, p7, p8, p9, p10, p11, p12, p13⟩ | ⟨p1, p2, p3, p4, p5, p6, p7, p8, p9, p10, p13⟩
        · obtain ⟨t, -, ht, rfl⟩ := (wi_nI (by omega) (by omega)).mp p11
          simp only [p9, p10, Option.bind_some, if_neg gc, if_neg p12]
          exact Or.inl ⟨_, _, _, _, _, _, _, _, _, _, _, _, _, _, _, _, _, _, _, _, _, rfl, rfl, ⟨c, f, t, m, n, P, kn, tn, g, rfl, rfl, rfl, rfl, rfl, rfl, hf, ht, hm, hn, hr, hX, hM, hP⟩, At_0 p13 (by omega)⟩
        · simp only [p9, p10, Option.bind_some, if_true]
          exact Or.inr ⟨_, _, _, _, _, _, _, _, _, _, _, _, _, _, _, _, _, _, _, _, _, _, _, _, _, _, _, _, rfl, rfl, At_0 p13 (by omega)⟩
    · simp only [if_neg z1]
      have hlt : a < b := by rcases x1 with x1 | x1; · exact absurd x1 z1
                             · exact x1
      unfold f_X1_readUse
      rcases num_eq h h3 nb (nI k) (nI a) (nI a) (nI q) v (nI 0) (nI c - nI 1) (wi_m1l c (by omega)) with ⟨p1, p2, p3, p4, p5, p6, p7, p8, p9, p10, p11, p12, p13⟩ | ⟨p1, p2, p3, p4, p5, p6, p7, p8, p9, p10, p13⟩
      · obtain ⟨t, ht, rfl⟩ := (wi_lt (by omega)).mp p11
        simp only [p9, p10, Option.bind_some, if_neg gc, if_neg p12]
        exact Or.inl ⟨_, _, _, _, _, _, _, _, _, _, _, _, _, _, _, _, _, _, _, _, _, rfl, rfl, ⟨c, t, d, m, n, P, kn, tn, g, rfl, rfl, rfl, rfl, rfl, rfl, ⟨hf.1, Or.inl ht⟩, hd, hm, hn, hr, hX, hM, hP⟩, At_0 p13 (by omega)⟩
      · simp only [p9, p10, Option.bind_some, if_true]
        exact Or.inr ⟨_, _, _, _, _, _, _, _, _, _, _, _, _, _, _, _, _, _, _, _, _, _, _, _, _, _, _, _, rfl, rfl, At_0 p13 (by omega)⟩
  · simp only [if_neg z0]
    have hlt : a < b := by rcases x0 with x0 | x0; · exact absurd x0 z0
                           · exact x0
    unfold f_X1_readLaw f_X2_hasRoom
    by_cases zc : c = 6
    · subst zc
      simp only [Int32.le_refl, if_true, Option.bind_some]
      exact Or.inr ⟨_, _, _, _, _, _, _, _, _, _, _, _, _, _, _, _, _, _, _, _, _, _, _, _, _, _, _, _, rfl, rfl, at0⟩
    · have ga : ¬ nI 6 ≤ nI c := by rw [le_nI (by omega) (by omega)]; omega
      have gb : ¬ nI c = nI 6 := by rw [nI_eq (by omega) (by omega)]; exact zc
      have gd : ¬ nI c < nI 0 := nI_nneg (by omega)
      rcases num_eq h h3 nb (nI k) (nI a) (nI a) (nI q) v (nI 0) (nI 5) (wi_m1 (by omega) (by omega)) with ⟨p1, p2, p3, p4, p5, p6, p7, p8, p9, p10, p11, p12, p13⟩ | ⟨p1, p2, p3, p4, p5, p6, p7, p8, p9, p10, p13⟩
      · obtain ⟨t, -, ht, rfl⟩ := (wi_nI (by omega) (by omega)).mp p11
        obtain ⟨a', b', rfl, rfl, rfl, rfl, b1, b2'⟩ := p13
        rcases num_eq h b2' (nI t) p2 (nI a') (nI a') p7 p8 (nI 0) (nI 9) (wi_m1 (by omega) (by omega)) with ⟨s1, s2, s3, s4, s5, s6, s7, s8, s9, s10, s11, s12, s13⟩ | ⟨s1, s2, s3, s4, s5, s6, s7, s8, s9, s10, s13⟩
        · obtain ⟨t2, -, ht2, rfl⟩ := (wi_nI (by omega) (by omega)).mp s11
          simp only [if_neg ga, if_neg gb, if_neg gc, Option.bind_some, p9, p10, if_neg p12, s9, s10, f_X7_statement_J43, if_neg s12, f_X2_add, f_X2_write, if_neg gd, xout_s (show c < 6 by omega) (show 6 < 2 ^ 31 by omega), xat_nI (show c < 2 ^ 31 by omega), f_X7_newLaw, nI_add]
          exact Or.inl ⟨_, _, _, _, _, _, _, _, _, _, _, _, _, _, _, _, _, _, _, _, _, rfl, rfl, ⟨c + 1, f, d, m, n, P, _, _, g, rfl, rfl, rfl, rfl, rfl, rfl, (by unfold FOk at hf ⊢; omega), hd, hm, hn, hr, LwX_add hX (by omega) ht ht2, LwX_add hM (by omega) ht ht2, hP⟩, At_0 s13 (by omega)⟩
        · simp only [if_neg ga, if_neg gb, if_neg gc, Option.bind_some, p9, p10, if_neg p12, s9, s10, f_X7_statement_J43, if_true]
          exact Or.inr ⟨_, _, _, _, _, _, _, _, _, _, _, _, _, _, _, _, _, _, _, _, _, _, _, _, _, _, _, _, rfl, rfl, At_0 s13 (by omega)⟩
      · simp only [if_neg ga, if_neg gb, if_neg gc, Option.bind_some, p9, p10, f_X7_statement_J43, if_true]
        exact Or.inr ⟨_, _, _, _, _, _, _, _, _, _, _, _, _, _, _, _, _, _, _, _, _, _, _, _, _, _, _, _, rfl, rfl, At_0 p13 (by omega)⟩
end Y
