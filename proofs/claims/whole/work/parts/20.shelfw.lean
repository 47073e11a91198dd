-- PURE: the shelves' writers
section W
variable {c f d n : Nat} {kn tn : Nat → Nat} {kx tx km tm rx rm hx hm sx sm : Nat → Int32} {ex em : Nat → Int64} {r : Int64}
/-- a refusing writer: what it says -/
theorem X4_put_eq {h z : Nat → Int32} {s : Nat} (hs : s < 8) (v w : Int32) : f_X4_put h z (nI s) v w = some (upd h s v, upd z s w) := by
  have g1 : ¬ nI s < nI 0 := nI_nneg (by omega)
  have g2 : ¬ nI 8 ≤ nI s := by rw [le_nI (by omega) (by omega)]; omega
  simp only [f_X4_put, if_neg g1, if_neg g2, xout_s hs (show 8 < 2 ^ 31 by omega), xat_nI (show s < 2 ^ 31 by omega)]
  rfl
def zr (e : Nat → Int64) (a b : Nat) : Nat → Int64 := fun j => if a ≤ j ∧ j < b then lN 0 else e j
theorem zr_s (e : Nat → Int64) (a i : Nat) : vp_updL (zr e a (a + i)) (a + i) (lN 0) = zr e a (a + (i + 1)) := by
  funext j
  show (if j = a + i then lN 0 else zr e a (a + i) j) = zr e a (a + (i + 1)) j
  unfold zr
  by_cases h : j = a + i
  · rw [if_pos h, if_pos (by omega)]
  · rw [if_neg h]
    by_cases h2 : a ≤ j ∧ j < a + i
    · rw [if_pos h2, if_pos (by omega)]
    · rw [if_neg h2, if_neg (by omega)]
theorem zr_0 (e : Nat → Int64) (a : Nat) : zr e a (a + 0) = e := by
  funext j; unfold zr; rw [if_neg (by omega)]
theorem low0 {k : Nat} (hk : k ≤ 4) : f_X4_lowestBits (nI k) (lN 0) = some (lN 0) := by
  rcases (show k = 0 ∨ k = 1 ∨ k = 2 ∨ k = 3 ∨ k = 4 by omega) with rfl | rfl | rfl | rfl | rfl <;> decide
theorem putElement_eq {e : Nat → Int64} {h z : Nat → Int32} {s k w j : Nat} {x y : Int64} (hs : s < 8) (hw : w ≤ 40) (hk : h s = nI k) (hz : z s = nI w) (hj : j < w) (hl : f_X4_lowestBits (nI k) x = some y) : f_X4_putElement e h z (nI s) (nI j) x = some (vp_updL e (40 * s + j) y) := by
  have e1 : wi (nI j) (nI 0) (nI w - nI 1) = true := (wi_lt (by omega)).mpr ⟨j, hj, rfl⟩
  have e2 : ¬ nI (40 * s + j) < nI 0 := nI_nneg (by omega)
  have e3 : ¬ nI 320 ≤ nI (40 * s + j) := by rw [le_nI (by omega) (by omega)]; omega
  have hn : ¬ nI 1 = nI 0 := by decide
  simp only [f_X4_putElement, f_X4_placeOf, X4_sizeOf_eq hs, hz, X6_isWithin_eq, e1, b2_t, if_neg hn, Option.bind_some, pk_mul, Nat.mul_comm s 40, nI_add, if_neg e2, if_neg e3, X4_heldOn_eq hs, hk, hl, xout_s (show 40 * s + j < 320 by omega) (show 320 < 2 ^ 31 by omega), xat_nI (show 40 * s + j < 2 ^ 31 by omega)]
  rfl
theorem upd_s (h : Nat → Int32) (s : Nat) (v : Int32) : upd h s v s = v := by show (if s = s then v else h s) = v; rw [if_pos rfl]
theorem upd_o (h : Nat → Int32) {s j : Nat} (v : Int32) (hj : ¬ j = s) : upd h s v j = h j := by show (if j = s then v else h j) = h j; rw [if_neg hj]
theorem putRow_loop {h z : Nat → Int32} {s k w : Nat} (hs : s < 8) (hk : k ≤ 4) (hw : w ≤ 40) (h1 : h s = nI k) (h2 : z s = nI w) : xloop (f_X4_putRow_L10 (nI s) (nI w) h z) xN (nI 0, ex) = some (zr ex (40 * s) (40 * s + w), h, z) := by
  refine xl_up (st := fun i => (nI i, zr ex (40 * s) (40 * s + i))) w (by rw [zr_0]) (by omega) (fun i hi => ?_) ?_
  · have g : ¬ nI w ≤ nI i := by rw [le_nI (by omega) (by omega)]; omega
    simp only [f_X4_putRow_L10, if_neg g, putElement_eq hs hw h1 h2 hi (low0 hk), Option.bind_some, nI_add, zr_s]
  · have g : nI w ≤ nI w := by rw [le_nI (by omega) (by omega)]; omega
    simp only [f_X4_putRow_L10, if_pos g]
theorem putRow_eq {s k z : Nat} (hs : s < 8) (hk : k ≤ 4) (hz : z ≤ 40) : f_X4_putRow ex hx sx (nI s) (nI k) (nI z) = some (zr ex (40 * s) (40 * s + z), upd hx s (nI k), upd sx s (nI z)) := by
  unfold f_X4_putRow
  rw [X4_put_eq hs, Option.bind_some]
  exact putRow_loop hs hk hz (upd_s _ _ _) (upd_s _ _ _)
theorem row7_eq {s : Nat} (hs : s < 8) (a b : Nat → Int32) : xloop (f_X7_row_L50 rm (nI s) a b) xN (nI 0, em) = some (nI 1, a, rm, b, zr em (40 * s) (40 * s + 40)) := by
  refine xl_up (st := fun i => (nI i, zr em (40 * s) (40 * s + i))) 40 (by rw [zr_0]) (by omega) (fun i hi => ?_) ?_
  · have g : ¬ nI 40 ≤ nI i := by rw [le_nI (by omega) (by omega)]; omega
    simp only [f_X7_row_L50, if_neg g, pk_mul, nI_add, xout_s (show 40 * s + i < 320 by omega) (show 320 < 2 ^ 31 by omega), xat_nI (show 40 * s + i < 2 ^ 31 by omega), zr_s]
    rfl
  · have g : nI 40 ≤ nI 40 := by rw [le_nI (by omega) (by omega)]; omega
    simp only [f_X7_row_L50, if_pos g]
/-- one shelf changes, the others stay -/
theorem ShOk_up {hx' hm' sx' sm' : Nat → Int32} {ex' em' : Nat → Int64} {s : Nat} (hS : ShOk c hx hm sx sm ex em) (ho : ∀ t, t < 8 → t ≠ s → hx' t = hx t ∧ hm' t = hm t ∧ sx' t = sx t ∧ sm' t = sm t ∧ ∀ i, i < 40 → ex' (40 * t + i) = ex (40 * t + i) ∧ em' (40 * t + i) = em (40 * t + i)) (hs : hx' s = hm' s ∧ ((hm' s = -1 ∧ sx' s = nI 0) ∨ (∃ l, l < c ∧ hm' s = nI (10 + l) ∧ sx' s = nI 0) ∨ (∃ k z, k ≤ 4 ∧ z ≤ 40 ∧ hm' s = nI k ∧ sx' s = nI z ∧ sm' s = nI z ∧ ∀ i, i < z → ex' (40 * s + i) = em' (40 * s + i) ∧ f_X4_lowestBits (nI k) (ex' (40 * s + i)) = some (ex' (40 * s + i))))) : ShOk c hx' hm' sx' sm' ex' em' := by
  intro t ht
  by_cases h : t = s
  · subst h; exact hs
  · obtain ⟨h1, h2, h3, h4, h5⟩ := ho t ht h
    obtain ⟨q0, q⟩ := hS t ht
    rw [h1, h2, h3, h4]
    refine ⟨q0, ?_⟩
    rcases q with q | q | ⟨k, z, a1, a2, a3, a4, a5, a6⟩
    · exact Or.inl q
    · exact Or.inr (Or.inl q)
    · refine Or.inr (Or.inr ⟨k, z, a1, a2, a3, a4, a5, fun i hi => ?_⟩)
      obtain ⟨b1, b2⟩ := h5 i (by omega)
      rw [b1, b2]; exact a6 i hi
theorem zr_o {e : Nat → Int64} {a b j : Nat} (h : ¬ (a ≤ j ∧ j < b)) : zr e a b j = e j := by unfold zr; rw [if_neg h]
theorem zr_i {e : Nat → Int64} {a b j : Nat} (h : a ≤ j ∧ j < b) : zr e a b j = lN 0 := by unfold zr; rw [if_pos h]
theorem e_row (hR : RR rx rm) (hS : ShOk c hx hm sx sm ex em) (p1 p2 p3 : Int32) : ∃ v rx' rm' hx' hm' sx' sm' ex' em', f_X6_row rx ex hx sx p1 p2 p3 = some (v, rx', ex', hx', sx') ∧ f_X7_row hm rm sm em p1 p2 p3 = some (v, hm', rm', sm', em') ∧ RR rx' rm' ∧ ShOk c hx' hm' sx' sm' ex' em' := by
  obtain ⟨v2, a, b, y1, y2, y3⟩ := noC' (show NoC (-2) by simp [NoC]) hR
  simp only [f_X6_row, f_X7_row, X4_isShelf_eq, X7_isShelf_eq, X6_isWithin_eq, X7_within_eq, Option.bind_some, ifb, y1, y2]
  have no : ∃ v rx' rm' hx' hm' sx' sm' ex' em', some (v2, a, ex, hx, sx) = some (v, rx', ex', hx', sx') ∧ some (v2, hm, b, sm, em) = some (v, hm', rm', sm', em') ∧ RR rx' rm' ∧ ShOk c hx' hm' sx' sm' ex' em' := ⟨v2, a, b, hx, hm, sx, sm, ex, em, rfl, rfl, y3, hS⟩
  cases g1 : wi p1 (nI 0) (nI 7) with
  | false => exact no
  | true =>
    cases g2 : wi p2 (nI 0) (nI 4) with
    | false => exact no
    | true =>
      cases g3 : wi p3 (nI 0) (nI 40) with
      | false => exact no
      | true =>
        obtain ⟨s, hs, rfl⟩ := wi7 g1
        obtain ⟨k, -, hk, rfl⟩ := (wi_nI (by omega) (by omega)).mp g2
        obtain ⟨z, -, hz, rfl⟩ := (wi_nI (by omega) (by omega)).mp g3
        simp only [if_true, putRow_eq hs hk hz, Option.bind_some, xout_s hs (show 8 < 2 ^ 31 by omega), xat_nI (show s < 2 ^ 31 by omega), row7_eq hs]
        refine ⟨nI 1, rx, rm, _, _, _, _, _, _, rfl, rfl, hR, ShOk_up (s := s) hS (fun t ht hne => ⟨upd_o _ _ hne, upd_o _ _ hne, upd_o _ _ hne, upd_o _ _ hne, fun i hi => ⟨zr_o (by omega), zr_o (by omega)⟩⟩) ⟨?_, Or.inr (Or.inr ⟨k, z, hk, hz, upd_s _ _ _, upd_s _ _ _, upd_s _ _ _, fun i hi => ?_⟩)⟩⟩
        · rw [upd_s, upd_s]
        · rw [zr_i (by omega), zr_i (by omega)]; exact ⟨rfl, low0 hk⟩
theorem kept_eq {k : Nat} (hk : k ≤ 4) (x : Int64) : f_X4_lowestBits (nI k) x = f_X7_kept (nI k) x := by
  rcases (show k = 0 ∨ k = 1 ∨ k = 2 ∨ k = 3 ∨ k = 4 by omega) with rfl | rfl | rfl | rfl | rfl <;> rfl
theorem low_id {k : Nat} (hk : k ≤ 4) (x : Int64) : ∃ y, f_X4_lowestBits (nI k) x = some y ∧ f_X4_lowestBits (nI k) y = some y := by
  rcases (show k = 0 ∨ k = 1 ∨ k = 2 ∨ k = 3 ∨ k = 4 by omega) with rfl | rfl | rfl | rfl | rfl
  · refine ⟨_, rfl, ?_⟩
    show some (Int32.toInt64 (Int8.toInt32 (Int32.toInt8 (Int64.toInt32 (Int32.toInt64 (Int8.toInt32 (Int32.toInt8 (Int64.toInt32 x)))))))) = _
    simp
  · refine ⟨_, rfl, ?_⟩
    show some (Int32.toInt64 (Int16.toInt32 (Int32.toInt16 (Int64.toInt32 (Int32.toInt64 (Int16.toInt32 (Int32.toInt16 (Int64.toInt32 x)))))))) = _
    simp
  · refine ⟨_, rfl, ?_⟩
    show some (Int32.toInt64 (Int64.toInt32 (Int32.toInt64 (Int64.toInt32 x)))) = _
    simp
  · exact ⟨_, rfl, rfl⟩
  · by_cases h : xcmp x (lN 0) = nI 0
    · exact ⟨lN 0, by show (if xcmp x (lN 0) = nI 0 then some (lN 0) else some (lN 1)) = _; rw [if_pos h], by decide⟩
    · exact ⟨lN 1, by show (if xcmp x (lN 0) = nI 0 then some (lN 0) else some (lN 1)) = _; rw [if_neg h], by decide⟩
theorem updL_s (e : Nat → Int64) (k : Nat) (x : Int64) : vp_updL e k x k = x := by show (if k = k then x else e k) = x; rw [if_pos rfl]
theorem updL_o (e : Nat → Int64) {k j : Nat} (x : Int64) (h : ¬ j = k) : vp_updL e k x j = e j := by show (if j = k then x else e j) = e j; rw [if_neg h]
theorem e_set (hc : c ≤ 6) (hR : RR rx rm) (hS : ShOk c hx hm sx sm ex em) (p1 p2 : Int32) (p3 : Int64) : ∃ v rx' rm' ex' em', f_X6_set rx ex hx sx p1 p2 p3 = some (v, rx', ex') ∧ f_X7_set hm rm sm em p1 p2 p3 = some (v, rm', em') ∧ RR rx' rm' ∧ ShOk c hx hm sx sm ex' em' := by
  have hn1 : ¬ nI 1 = nI 0 := by decide
  simp only [f_X6_set, f_X7_set, f_X6_set_J34, X7_isShelf_eq, Option.bind_some, ifb]
  rcases row_cases hS hc p1 with ⟨h1, h2⟩ | ⟨s, e, hs, rfl, h1, h2, h3, h4, h5, h6⟩ | ⟨s, k, z, hs, rfl, h1, hk, hz, h3, h4, h5, h6, h7, h8⟩
  · obtain ⟨v2, a, b, y1, y2, y3⟩ := noC' (show NoC (-2) by simp [NoC]) hR
    simp only [h1, h2, Option.bind_some, if_neg (show ¬ (-2 : Int32) = nI 0 by decide), y1, y2, if_false]
    exact ⟨v2, a, b, ex, em, rfl, by simp, y3, hS⟩
  · have he : NoC e := by rcases h6 with ⟨rfl, -⟩ | ⟨rfl, -⟩ <;> simp [NoC]
    obtain ⟨v2, a, b, y1, y2, y3⟩ := noC' he hR
    simp only [h1, h2, h3, h4, Option.bind_some, if_neg he.nz, y1, y2, if_true]
    exact ⟨v2, a, b, ex, em, rfl, rfl, y3, hS⟩
  · have hh : hx s = nI k := by rw [(hS s hs).1, h3]
    simp only [h1, h7, h8, Option.bind_some, if_true, if_neg hn1, X4_sizeOf_eq hs, h4, X6_isWithin_eq, X7_within_eq, xout_s hs (show 8 < 2 ^ 31 by omega), xat_nI (show s < 2 ^ 31 by omega), h5, h3, ifb]
    cases q : wi p2 (nI 0) (nI z - nI 1) with
    | false =>
      obtain ⟨v2, a, b, y1, y2, y3⟩ := noC' (show NoC (-2) by simp [NoC]) hR
      simp only [if_neg (show ¬ (-2 : Int32) = nI 0 by decide), y1, y2, Option.bind_some]
      exact ⟨v2, a, b, ex, em, by simp, by simp, y3, hS⟩
    | true =>
      obtain ⟨j, hj, rfl⟩ := (wi_lt (by omega)).mp q
      obtain ⟨y, w1, w2⟩ := low_id hk p3
      simp only [putElement_eq hs hz hh h4 hj w1, ← kept_eq hk, w1, Option.bind_some, if_true, pk_mul, nI_add, xout_s (show 40 * s + j < 320 by omega) (show 320 < 2 ^ 31 by omega), xat_nI (show 40 * s + j < 2 ^ 31 by omega)]
      refine ⟨nI 1, rx, rm, vp_updL ex (40 * s + j) y, vp_updL em (40 * s + j) y, rfl, by simp, hR, ShOk_up (s := s) hS (fun t ht hne => ⟨rfl, rfl, rfl, rfl, fun i hi => ⟨updL_o _ _ (by omega), updL_o _ _ (by omega)⟩⟩) ⟨(hS s hs).1, Or.inr (Or.inr ⟨k, z, hk, hz, h3, h4, h5, fun i hi => ?_⟩)⟩⟩
      by_cases e : i = j
      · subst e; rw [updL_s, updL_s]; exact ⟨rfl, w2⟩
      · rw [updL_o _ _ (show ¬ 40 * s + i = 40 * s + j by omega), updL_o _ _ (show ¬ 40 * s + i = 40 * s + j by omega)]; exact h6 i hi
theorem e_show (hc : c ≤ 6) (hR : RR rx rm) (hS : ShOk c hx hm sx sm ex em) (p1 p2 : Int32) : ∃ v rx' rm' hx' hm' sx', f_X6_show (nI c) rx hx sx p1 p2 = some (v, rx', hx', sx') ∧ f_X7_show (nI c) hm rm p1 p2 = some (v, hm', rm') ∧ RR rx' rm' ∧ ShOk c hx' hm' sx' sm ex em := by
  obtain ⟨v2, a, b, y1, y2, y3⟩ := noC' (show NoC (-2) by simp [NoC]) hR
  simp only [f_X6_show, f_X7_show, f_X6_show_J33, f_X7_show_J27, X4_isShelf_eq, X7_isShelf_eq, X2_isThere_eq, X7_isLaw_eq, f_X4_putNothing, f_X4_putLaw, Option.bind_some, ifb, y1, y2]
  have no : ∃ v rx' rm' hx' hm' sx', some (v2, a, hx, sx) = some (v, rx', hx', sx') ∧ some (v2, hm, b) = some (v, hm', rm') ∧ RR rx' rm' ∧ ShOk c hx' hm' sx' sm ex em := ⟨v2, a, b, hx, hm, sx, rfl, rfl, y3, hS⟩
  cases g1 : wi p1 (nI 0) (nI 7) with
  | false => exact no
  | true =>
    obtain ⟨s, hs, rfl⟩ := wi7 g1
    simp only [if_true, X4_put_eq hs, Option.bind_some, xout_s hs (show 8 < 2 ^ 31 by omega), xat_nI (show s < 2 ^ 31 by omega)]
    by_cases g2 : p2 = -1
    · subst g2
      simp only [if_true]
      exact ⟨nI 1, rx, rm, _, _, _, rfl, by simp, hR, ShOk_up (s := s) hS (fun t ht hne => ⟨upd_o _ _ hne, upd_o _ _ hne, upd_o _ _ hne, rfl, fun i hi => ⟨rfl, rfl⟩⟩) ⟨by rw [upd_s, upd_s], Or.inl ⟨upd_s _ _ _, upd_s _ _ _⟩⟩⟩
    · simp only [if_neg g2]
      cases g3 : wi p2 (nI 0) (nI c - nI 1) with
      | false => exact no
      | true =>
        obtain ⟨l, hl, rfl⟩ := (wi_lt (by omega)).mp g3
        simp only [if_true, nI_add]
        exact ⟨nI 1, rx, rm, _, _, _, rfl, by simp, hR, ShOk_up (s := s) hS (fun t ht hne => ⟨upd_o _ _ hne, upd_o _ _ hne, upd_o _ _ hne, rfl, fun i hi => ⟨rfl, rfl⟩⟩) ⟨by rw [upd_s, upd_s], Or.inr (Or.inl ⟨l, hl, upd_s _ _ _, upd_s _ _ _⟩)⟩⟩
end W
