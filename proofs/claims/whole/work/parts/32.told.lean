-- PURE: a lake read from the tape
theorem xl_pair2 {SX SM RX RM : Type} {bx : SX → Option (RX ⊕ SX)} {bm : SM → Option (RM ⊕ SM)} (I : Nat → SX → SM → Prop) (Post : RX → RM → Prop) (N : Nat) {s0 : SX} {t0 : SM} (hN : N < 19990) (h0 : I 0 s0 t0)
    (h : ∀ i s t, i ≤ N → I i s t → (∃ a b, bx s = some (.inl a) ∧ bm t = some (.inl b) ∧ Post a b) ∨ (∃ a t' b, bx s = some (.inl a) ∧ bm t = some (.inr t') ∧ bm t' = some (.inl b) ∧ Post a b) ∨ (i < N ∧ ∃ s' t', bx s = some (.inr s') ∧ bm t = some (.inr t') ∧ I (i + 1) s' t')) : ∃ a b, xloop bx xN s0 = some a ∧ xloop bm xN t0 = some b ∧ Post a b := by
  have key : ∀ (k i : Nat) (s : SX) (t : SM), i ≤ N → N - i + 1 < k → I i s t → ∃ a b, xloop bx k s = some a ∧ xloop bm k t = some b ∧ Post a b := by
    intro k
    induction k with
    | zero => intro i s t _ h2; omega
    | succ k ih =>
      intro i s t hi hk hI
      rcases h i s t hi hI with ⟨a, b, h1, h2, h3⟩ | ⟨a, t', b, h1, h2, h4, h3⟩ | ⟨hlt, s', t', h1, h2, h3⟩
      · refine ⟨a, b, ?_, ?_, h3⟩
        · show (bx s).bind _ = _
          rw [h1]; rfl
        · show (bm t).bind _ = _
          rw [h2]; rfl
      · refine ⟨a, b, ?_, ?_, h3⟩
        · show (bx s).bind _ = _
          rw [h1]; rfl
        · show (bm t).bind _ = _
          rw [h2]
          obtain ⟨k', rfl⟩ : ∃ k', k = k' + 1 := ⟨k - 1, by omega⟩
          show (bm t').bind _ = _
          rw [h4]; rfl
      · obtain ⟨a, b, q1, q2, q3⟩ := ih (i + 1) s' t' hlt (by omega) h3
        refine ⟨a, b, ?_, ?_, q3⟩
        · show (bx s).bind _ = _
          rw [h1]; exact q1
        · show (bm t).bind _ = _
          rw [h2]; exact q2
  exact key xN 0 s0 t0 (Nat.zero_le _) (by unfold xN; omega) h0
def LkPost (c0 : Nat) (seed : Int32) (aR : Int64) (o rm rm2 : Int32F) (a : Int32 × Int32 × Int32 × Int32 × Int32 × Int64 × Int32 × Int32 × Int32F × Int32F × Int32 × Int32F × Int32 × Int32 × Int32) (b : Int32 × Int32 × Int32 × Int32 × Int32 × Int64 × Int32 × Int32 × Int32 × Int32 × Int32 × Int32 × Int32 × Int32 × Int64 × Int32F × Int32F × Int32F × Int32F × Int32F) : Prop := (∃ j nb fi dp ms rg st ct kx tx pc ax km tm am tk ts te fr to tok val, j ≤ 250 ∧ a = (nI j, nb, fi, dp, ms, rg, st, ct, kx, tx, pc, ax, tk, ts, te) ∧ b = (nI j, ct, fi, dp, ms, rg, st, pc, seed, nI 0, fr, to, tok, val, aR, am, o, km, tm, rm) ∧ Dr c0 fi dp ms rg st ct kx tx pc ax km tm am) ∨ (∃ nb fi dp ms rg st ct kx tx pc ax tk ts te to tok val am km tm, a = (-1, nb, fi, dp, ms, rg, st, ct, kx, tx, pc, ax, tk, ts, te) ∧ b = (-20 - ts, o 22, o 23, o 24, o 25, aR, o 26, o 27, o 28, nI 0, ts, to, tok, val, aR, am, o, km, tm, rm2) ∧ (∀ l, l < 6 → km l = o l ∧ tm l = o (6 + l)) ∧ ∀ l, l < 10 → am l = o (12 + l))
section Z
variable {c0 sz : Nat} {y : Nat → Nat} {bx bm rx rm rm2 o : Nat → Int32}
/-- the reference gives up -/
theorem lake_no {v2 : Int32} (hno : f_X7_no rm (-2) = some (v2, rm2)) (seed : Int32) (aR : Int64) (tz : Int32) (t : Int32 × Int32 × Int32 × Int32 × Int32 × Int32 × Int64 × Int32 × Int32 × Int32 × Int32 × Int32 × Int32 × Int32F × Int32F × Int32F) (h : t.2.1 = nI 0) : ∃ am km tm, f_X7_lake_L25 seed tz rm bm aR o t = some (.inl (-20 - t.2.2.2.2.2.2.2.2.2.1, o 22, o 23, o 24, o 25, aR, o 26, o 27, o 28, nI 0, t.2.2.2.2.2.2.2.2.2.1, t.2.2.2.2.2.2.2.2.2.2.1, t.2.2.2.2.2.2.2.2.2.2.2.1, t.2.2.2.2.2.2.2.2.2.2.2.2.1, aR, am, o, km, tm, rm2)) ∧ (∀ l, l < 6 → km l = o l ∧ tm l = o (6 + l)) ∧ ∀ l, l < 10 → am l = o (12 + l) := by
  obtain ⟨a, k, t', q1, q2, q3⟩ := again_eq (am := t.2.2.2.2.2.2.2.2.2.2.2.2.2.1) (km := t.2.2.2.2.2.2.2.2.2.2.2.2.2.2.1) (tm := t.2.2.2.2.2.2.2.2.2.2.2.2.2.2.2) t.2.2.1 t.2.2.2.1 t.2.2.2.2.1 t.2.2.2.2.2.1 t.2.2.2.2.2.2.2.1 t.2.2.2.2.2.2.2.2.1 seed o
  refine ⟨a, k, t', ?_, q2, q3⟩
  unfold f_X7_lake_L25
  rw [if_pos h, q1, Option.bind_some, hno, Option.bind_some]
theorem lakes_eq (h : TpOk sz y bx bm) {v2 : Int32} (hno : f_X7_no rm (-2) = some (v2, rm2)) (seed : Int32) (aR : Int64) {fi dp ms : Int32} {rg : Int64} {st ct : Int32} {kx tx : Nat → Int32} {pc : Int32} {ax km tm am : Nat → Int32} (hD : Dr c0 fi dp ms rg st ct kx tx pc ax km tm am) (nb tk ts fr tok val : Int32) : ∃ a b, xloop (f_X1_readLake_L9 (nI sz) bx) xN (nI 0, nb, fi, dp, ms, rg, st, ct, kx, tx, pc, ax, tk, ts, nI 0) = some a ∧ xloop (f_X7_lake_L25 seed (nI sz) rm bm aR o) xN (nI 0, nI 1, ct, fi, dp, ms, rg, st, pc, fr, nI 0, tok, val, am, km, tm) = some b ∧ LkPost c0 seed aR o rm rm2 a b := by
  have hz := h.1
  refine xl_pair2 (fun i s t => ∃ nb fi dp ms rg st ct kx tx pc ax km tm am tk ts fr tok val e, s = (nI i, nb, fi, dp, ms, rg, st, ct, kx, tx, pc, ax, tk, ts, nI e) ∧ t = (nI i, nI 1, ct, fi, dp, ms, rg, st, pc, fr, nI e, tok, val, am, km, tm) ∧ Dr c0 fi dp ms rg st ct kx tx pc ax km tm am ∧ e ≤ sz ∧ 2 * i ≤ e) _ 125 (by omega) ⟨nb, fi, dp, ms, rg, st, ct, kx, tx, pc, ax, km, tm, am, tk, ts, fr, tok, val, 0, rfl, rfl, hD, by omega, by omega⟩ (fun i s t hi hI => ?_)
  obtain ⟨nb, fi, dp, ms, rg, st, ct, kx, tx, pc, ax, km, tm, am, tk, ts, fr, tok, val, e, rfl, rfl, hD, he, hie⟩ := hI
  obtain ⟨x, z, t1, t2, hT⟩ := tok_eq h he tk ts fr tok val
  obtain ⟨a, b, k, q, v, rfl, rfl, h1, h2, h3, h4⟩ := hT
  have kz : k < 10 := by rcases h4 with h4 | h4 | h4 | h4 | h4 <;> omega
  have qz : q < 1000 := by rcases h4 with h4 | h4 | h4 | h4 | h4 <;> omega
  have gc : ¬ nI 1 = nI 0 := by decide
  rcases stmt_eq h ⟨a, b, k, q, v, rfl, rfl, h1, h2, h3, h4⟩ kz qz h2 h3 h1 nb hD with ⟨nb', fi', dp', ms', rg', st', ct', kx', tx', pc', ax', km', tm', am', k', a', b', fr', to', q', v', s1, s2, s3, s4⟩ | ⟨nb', fi', dp', ms', rg', st', ct', kx', tx', pc', ax', k', a', b', fr', to', q', v', l1, l2, l3, l4, l5, l6, l7, am', km', tm', s1, s2, s4⟩
  · obtain ⟨na, nb2, rfl, rfl, rfl, rfl, e1, e2⟩ := s4
    obtain ⟨x, z, t3, t4, a3, b3, k3, q3, v3, rfl, rfl, g1, g2, g3, g4⟩ := tok_eq h e2 k' (nI na) (nI na) q' v'
    have kz3 : k3 < 10 := by rcases g4 with g4 | g4 | g4 | g4 | g4 <;> omega
    have qz3 : q3 < 1000 := by rcases g4 with g4 | g4 | g4 | g4 | g4 <;> omega
    have kk : (nI k3 = nI 3) = (k3 = 3) := propext (nI_eq (by omega) (by omega))
    have k0 : (nI k3 = nI 0) = (k3 = 0) := propext (nI_eq (by omega) (by omega))
    have qq : (nI q3 = nI 59) = (q3 = 59) := propext (nI_eq (by omega) (by omega))
    have q0 : (nI q3 = nI 101) = (q3 = 101) := propext (nI_eq (by omega) (by omega))
    have gl : nI (i + 1) < nI 250 := by rw [lt_nI (by omega) (by omega)]; omega
    by_cases z3 : k3 = 3
    · have zq : q3 = 59 := by rcases g4 with g4 | g4 | g4 | g4 | g4 <;> omega
      have zq2 : ¬ q3 = 101 := by omega
      have hlt : a3 < b3 := by rcases g4 with g4 | g4 | g4 | g4 | g4 <;> omega
      refine Or.inr (Or.inr ⟨by omega, ?_⟩)
      refine ⟨(nI (i + 1), nb', fi', dp', ms', rg', st', ct', kx', tx', pc', ax', nI k3, nI a3, nI b3), (nI (i + 1), nI 1, ct', fi', dp', ms', rg', st', pc', nI a3, nI b3, nI q3, v3, am', km', tm'), ?_, ?_, _, _, _, _, _, _, _, _, _, _, _, _, _, _, _, _, _, _, _, b3, rfl, rfl, s3, g3, by omega⟩
      · unfold f_X1_readLake_L9
        simp only [t1, Option.bind_some, s1, if_neg gc, t3, kk, if_pos z3, nI_add, if_pos gl]
      · unfold f_X7_lake_L25
        simp only [if_neg gc, t2, Option.bind_some, s2, t4, q0, qq, if_neg zq2, if_pos zq, nI_add]
    · by_cases z0 : k3 = 0
      · have zq : q3 = 101 := by rcases g4 with g4 | g4 | g4 | g4 | g4 <;> omega
        left
        refine ⟨(nI (i + 1), nb', fi', dp', ms', rg', st', ct', kx', tx', pc', ax', nI k3, nI a3, nI b3), (nI (i + 1), ct', fi', dp', ms', rg', st', pc', seed, nI 0, nI a3, nI b3, nI q3, v3, aR, am', o, km', tm', rm), ?_, ?_, Or.inl ⟨i + 1, _, _, _, _, _, _, _, _, _, _, _, _, _, _, _, _, _, _, _, _, _, by omega, rfl, rfl, s3⟩⟩
        · unfold f_X1_readLake_L9
          simp only [t1, Option.bind_some, s1, if_neg gc, t3, kk, if_neg z3, nI_add, f_X1_readLake_J53, k0, if_pos z0]
        · unfold f_X7_lake_L25
          simp only [if_neg gc, t2, Option.bind_some, s2, t4, q0, if_pos zq, nI_add]
      · have zq : ¬ q3 = 101 := by rcases g4 with g4 | g4 | g4 | g4 | g4 <;> omega
        have zq2 : ¬ q3 = 59 := by rcases g4 with g4 | g4 | g4 | g4 | g4 <;> omega
        obtain ⟨am2, km2, tm2, n1, n2, n3⟩ := lake_no (bm := bm) (o := o) hno seed aR (nI sz) (nI (i + 1), nI 0, ct', fi', dp', ms', rg', st', pc', nI a3, nI b3, nI q3, v3, am', km', tm') rfl
        right; left
        refine ⟨(-1, nb', fi', dp', ms', rg', st', ct', kx', tx', pc', ax', nI k3, nI a3, nI b3), _, _, ?_, ?_, n1, Or.inr ⟨_, _, _, _, _, _, _, _, _, _, _, _, _, _, _, _, _, am2, km2, tm2, rfl, rfl, n2, n3⟩⟩
        · unfold f_X1_readLake_L9
          simp only [t1, Option.bind_some, s1, if_neg gc, t3, kk, if_neg z3, nI_add, f_X1_readLake_J53, k0, if_neg z0]
        · unfold f_X7_lake_L25
          simp only [if_neg gc, t2, Option.bind_some, s2, t4, q0, qq, if_neg zq, if_neg zq2, nI_add]
  · obtain ⟨na, nb2, rfl, rfl, rfl, rfl, e1, e2⟩ := s4
    obtain ⟨am2, km2, tm2, n1, n2, n3⟩ := lake_no (bm := bm) (o := o) hno seed aR (nI sz) (nI i, nI 0, l1, l2, l3, l4, l5, l6, l7, nI na, nI nb2, q', v', am', km', tm') rfl
    right; left
    refine ⟨(-1, nb', fi', dp', ms', rg', st', ct', kx', tx', pc', ax', k', nI na, nI nb2), _, _, ?_, ?_, n1, Or.inr ⟨_, _, _, _, _, _, _, _, _, _, _, _, _, _, _, _, _, am2, km2, tm2, rfl, rfl, n2, n3⟩⟩
    · unfold f_X1_readLake_L9
      simp only [t1, Option.bind_some, s1, if_true]
    · unfold f_X7_lake_L25
      simp only [if_neg gc, t2, Option.bind_some, s2, if_true]
end Z
