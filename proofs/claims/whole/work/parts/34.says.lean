-- PURE: says; copy
section C1
variable {c f d n : Nat} {kn tn : Nat → Nat} {kx tx km tm rx rm hx hm sx sm : Nat → Int32} {ex em : Nat → Int64} {r : Int64}
theorem e_says (hX : LwX c kn tn kx tx) (hM : LwX c kn tn km tm) (hn : n ≤ 40) (hR : RR rx rm) (hS : ShOk c hx hm sx sm ex em) (p1 p2 : Int32) : Pub (f_X6_says r (nI n) (nI c) kx tx rx hx p1 p2) (f_X7_says r (nI n) hm km tm rm p1 p2) := by
  have hc := hX.1
  have gc : ¬ nI 1 = nI 0 := by decide
  unfold f_X6_says f_X7_says
  rw [X4_isShelf_eq, X7_isShelf_eq, Option.bind_some, Option.bind_some]
  rcases row_cases hS hc p1 with ⟨h1, h2⟩ | ⟨s, e, hs, rfl, h1, h2, h3, h4, h5, h6⟩ | ⟨s, k, z, hs, rfl, h1, hk, hz, h3, h4, h5, h6, h7, h8⟩
  · rw [h1, b2_f, if_pos rfl, if_pos rfl]; exact no2 hR
  · rw [h1, b2_t, if_neg gc, if_neg gc]
    unfold f_X2_isKind
    rw [X6_isWithin_eq, X7_within_eq, Option.bind_some, Option.bind_some, Option.bind_some]
    cases g : wi p2 (nI 0) (nI 5) with
    | false => rw [b2_f, if_pos rfl, if_pos rfl]; exact no2 hR
    | true =>
      rw [b2_t, if_neg gc, if_neg gc, h3, Option.bind_some, if_pos rfl]
      unfold f_X4_lawOn f_X4_holdsRow
      rw [X4_heldOn_eq hs, (hS s hs).1, xout_s hs (show 8 < 2 ^ 31 by omega), xat_nI (show s < 2 ^ 31 by omega)]
      rcases h6 with ⟨rfl, l, hl, hh⟩ | ⟨rfl, hh⟩
      · rw [hh]
        have g1 : ¬ nI (10 + l) < nI 10 := by rw [lt_nI (by omega) (by omega)]; omega
        have g2 : nI 0 ≤ nI (10 + l) := by rw [le_nI (by omega) (by omega)]; omega
        have e2 : nI (10 + l) - nI 10 = nI l := by rw [nI_dif (by omega)]; congr 1; omega
        have g3 : ¬ nI l = (-1 : Int32) := nI_nm1 (by omega)
        obtain ⟨a1, a2, a3, a4⟩ := hX.2 l hl
        obtain ⟨b1, b2', -, -⟩ := hM.2 l hl
        have x1 : f_X2_stepsLookedAhead (nI (kn l)) (nI (tn l)) = if nI (kn l) = nI 3 then some (nI (tn l) + nI 2) else some (nI (tn l) + nI 1) := rfl
        have ts := X0_timesStruck_eq (r := r) hX (show l < 2 ^ 30 by omega) (show n ≤ 62 by omega)
        have st := X7_struck_eq (r := r) hM hl (show n ≤ 62 by omega)
        simp only [if_neg g1, Option.bind_some, e2, X6_isWithin_eq, wi_out (show 4 < 10 + l by omega) (show 10 + l < 2 ^ 31 by omega) (show 0 ≤ 4 by omega), b2_f, if_true, if_neg g3, X2_kindOf_eq (show l < 6 by omega), X2_tuneOf_eq (show l < 6 by omega), a1, a2, Bool.false_eq_true, if_false, if_pos g2, xout_s (show l < 6 by omega) (show 6 < 2 ^ 31 by omega), xat_nI (show l < 2 ^ 31 by omega), b1, b2', isUnder_eq, f_X6_says_J71, f_X7_says_J123, x1, ts, st]
        cases q : f_X2_isUnder (nI (kn l)) p2 with
        | none =>
          exfalso
          unfold f_X2_isUnder f_X2_isUnder_J21 at q
          split at q
          · cases q
          · split at q
            · cases q
            · split at q
              · split at q
                · cases q
                · split at q
                  · split at q <;> cases q
                  · cases q
              · split at q
                · split at q <;> cases q
                · cases q
        | some u =>
          simp only [Option.bind_some]
          by_cases u0 : u = nI 0
          · simp only [if_pos u0]; exact no3 hR
          · simp only [if_neg u0]
            by_cases z0 : p2 = nI 0
            · simp only [if_pos z0]; exact pub_v hR _
            · simp only [if_neg z0]
              by_cases z3 : nI (kn l) = nI 3
              · simp only [if_pos z3, Option.bind_some]
                by_cases y1 : p2 = nI 1
                · simp only [if_pos y1]; exact pub_v hR _
                · simp only [if_neg y1]
                  by_cases y2 : p2 = nI 2
                  · simp only [if_pos y2]; exact pub_v hR _
                  · simp only [if_neg y2]
                    by_cases y3 : p2 = nI 3
                    · simp only [if_pos y3]; exact pub_v hR _
                    · simp only [if_neg y3]; exact pub_v hR _
              · simp only [if_neg z3, Option.bind_some]
                by_cases y1 : p2 = nI 1
                · simp only [if_pos y1]; exact pub_v hR _
                · simp only [if_neg y1]
                  by_cases y2 : p2 = nI 2
                  · simp only [if_pos y2]; exact pub_v hR _
                  · simp only [if_neg y2]
                    by_cases y3 : p2 = nI 3
                    · simp only [if_pos y3]; exact pub_v hR _
                    · simp only [if_neg y3]; exact pub_v hR _
      · rw [hh]
        simp only [if_pos (show (-1 : Int32) < nI 10 by decide), Option.bind_some, X6_isWithin_eq, wi_m1 (show 4 < 2 ^ 31 by omega) (show 0 ≤ 4 by omega), b2_f, if_true, f_X6_says_J71, Bool.false_eq_true, if_false, if_neg (show ¬ nI 0 ≤ (-1 : Int32) by decide)]
        exact no4 hR
  · rw [h1, b2_t, if_neg gc, if_neg gc]
    unfold f_X2_isKind
    rw [X6_isWithin_eq, X7_within_eq, Option.bind_some, Option.bind_some, Option.bind_some]
    cases g : wi p2 (nI 0) (nI 5) with
    | false => rw [b2_f, if_pos rfl, if_pos rfl]; exact no2 hR
    | true =>
      have g1 : nI k < nI 10 := by rw [lt_nI (by omega) (by omega)]; omega
      rw [b2_t, if_neg gc, if_neg gc, h8, Option.bind_some, if_neg gc]
      unfold f_X4_lawOn f_X4_holdsRow
      rw [X4_heldOn_eq hs, (hS s hs).1, h3]
      simp only [if_pos g1, Option.bind_some, X6_isWithin_eq, wi_in (Nat.zero_le k) hk (show 4 < 2 ^ 31 by omega), b2_t, if_neg gc]
      exact no3 hR
end C1
