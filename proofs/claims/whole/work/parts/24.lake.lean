-- PURE: the small writers, and what stands
section L
variable {c f d n P : Nat} {g kn tn : Nat → Nat} {kx tx km tm ax am rx rm hx hm sx sm : Nat → Int32} {ex em : Nat → Int64} {r : Int64}
theorem LwX_add {k t : Nat} (h : LwX c kn tn kx tx) (hc : c < 6) (hk : k ≤ 5) (ht : t ≤ 9) : LwX (c + 1) (fun i => if i = c then k else kn i) (fun i => if i = c then t else tn i) (upd kx c (nI k)) (upd tx c (nI t)) := by
  refine ⟨by omega, fun l hl => ?_⟩
  by_cases z : l = c
  · subst z; rw [upd_s, upd_s]; simp [hk, ht]
  · rw [upd_o _ _ z, upd_o _ _ z]
    simp only [if_neg z]
    exact h.2 l (by omega)
theorem e_law (hX : LwX c kn tn kx tx) (hM : LwX c kn tn km tm) (hR : RR rx rm) (p1 p2 : Int32) : ∃ v c' kn' tn' kx' tx' km' tm' rx' rm', f_X6_law (nI c) kx tx rx p1 p2 = some (v, nI c', kx', tx', rx') ∧ f_X7_law (nI c) km tm rm p1 p2 = some (v, nI c', km', tm', rm') ∧ (c ≤ c' ∧ c' ≤ c + 1) ∧ LwX c' kn' tn' kx' tx' ∧ LwX c' kn' tn' km' tm' ∧ RR rx' rm' := by
  have hc := hX.1
  obtain ⟨v2, a, b, y1, y2, y3⟩ := noC' (show NoC (-2) by simp [NoC]) hR
  simp only [f_X6_law, f_X7_law, f_X2_isKind, X6_isWithin_eq, X7_within_eq, Option.bind_some, ifb, y1, y2]
  have no : ∃ v c' kn' tn' kx' tx' km' tm' rx' rm', some (v2, nI c, kx, tx, a) = some (v, nI c', kx', tx', rx') ∧ some (v2, nI c, km, tm, b) = some (v, nI c', km', tm', rm') ∧ (c ≤ c' ∧ c' ≤ c + 1) ∧ LwX c' kn' tn' kx' tx' ∧ LwX c' kn' tn' km' tm' ∧ RR rx' rm' := ⟨v2, c, kn, tn, kx, tx, km, tm, a, b, rfl, rfl, ⟨by omega, by omega⟩, hX, hM, y3⟩
  cases g1 : wi p1 (nI 0) (nI 5) with
  | false => exact no
  | true =>
    cases g2 : wi p2 (nI 0) (nI 9) with
    | false => exact no
    | true =>
      obtain ⟨k, -, hk, rfl⟩ := (wi_nI (by omega) (by omega)).mp g1
      obtain ⟨t, -, ht, rfl⟩ := (wi_nI (by omega) (by omega)).mp g2
      simp only [if_true]
      by_cases z : c = 6
      · subst z
        obtain ⟨v6, a, b, y1, y2, y3⟩ : ∃ v rx' rm', f_X6_refuse rx (-6) = some (v, rx') ∧ f_X7_no rm (-6) = some (v, rm') ∧ RR rx' rm' := by
          obtain ⟨v, a, b, h1, h2, h3⟩ := no6 hR
          refine ⟨v, a, b, ?_, ?_, h3⟩
          · cases q : f_X6_refuse rx (-6) with
            | none => rw [q] at h1; cases h1
            | some u => rw [q] at h1; exact h1
          · cases q : f_X7_no rm (-6) with
            | none => rw [q] at h2; cases h2
            | some u => rw [q] at h2; exact h2
        simp only [f_X2_hasRoom, Int32.le_refl, if_true, Option.bind_some, y1, y2]
        exact ⟨v6, 6, kn, tn, kx, tx, km, tm, a, b, rfl, rfl, ⟨by omega, by omega⟩, hX, hM, y3⟩
      · have ga : ¬ nI 6 ≤ nI c := by rw [le_nI (by omega) (by omega)]; omega
        have gb : ¬ nI c = nI 6 := by rw [nI_eq (by omega) (by omega)]; exact z
        have gc : ¬ nI 1 = nI 0 := by decide
        have gd : ¬ nI c < nI 0 := nI_nneg (by omega)
        simp only [f_X2_hasRoom, if_neg ga, if_neg gb, if_neg gc, Option.bind_some, f_X2_add, f_X2_write, if_neg gd, xout_s (show c < 6 by omega) (show 6 < 2 ^ 31 by omega), xat_nI (show c < 2 ^ 31 by omega), f_X7_newLaw, nI_add, nI_dif (show 1 ≤ c + 1 by omega), Nat.add_sub_cancel]
        exact ⟨nI c, c + 1, _, _, _, _, _, _, rx, rm, rfl, rfl, ⟨by omega, by omega⟩, LwX_add hX (by omega) hk ht, LwX_add hM (by omega) hk ht, hR⟩
theorem noC6 (hR : RR rx rm) : ∃ v rx' rm', f_X6_refuse rx (-6) = some (v, rx') ∧ f_X7_no rm (-6) = some (v, rm') ∧ RR rx' rm' := by
  obtain ⟨v, a, b, h1, h2, h3⟩ := no6 hR
  refine ⟨v, a, b, ?_, ?_, h3⟩
  · cases q : f_X6_refuse rx (-6) with
    | none => rw [q] at h1; cases h1
    | some u => rw [q] at h1; exact h1
  · cases q : f_X7_no rm (-6) with
    | none => rw [q] at h2; cases h2
    | some u => rw [q] at h2; exact h2
theorem e_use (hc : c ≤ 6) (hf : FOk c f) (hR : RR rx rm) (p1 : Int32) : ∃ v f' rx' rm', f_X6_use (nI f) (nI c) rx p1 = some (v, nI f', rx') ∧ f_X7_use (nI c) (nI f) rm p1 = some (v, nI f', rm') ∧ FOk c f' ∧ RR rx' rm' := by
  obtain ⟨v2, a, b, y1, y2, y3⟩ := noC' (show NoC (-2) by simp [NoC]) hR
  simp only [f_X6_use, f_X7_use, X2_isThere_eq, X7_isLaw_eq, Option.bind_some, ifb, y1, y2]
  cases g1 : wi p1 (nI 0) (nI c - nI 1) with
  | false => exact ⟨v2, f, a, b, rfl, rfl, hf, y3⟩
  | true =>
    obtain ⟨l, hl, rfl⟩ := (wi_lt (by omega)).mp g1
    exact ⟨nI f, l, rx, rm, rfl, rfl, Or.inl hl, hR⟩
theorem e_ask {m : Nat} (hd : d ≤ 9) (hm' : m ≤ 100) (hR : RR rx rm) (p1 p2 : Int32) : ∃ v d' m' rx' rm', f_X6_ask (nI d) (nI m) rx p1 p2 = some (v, nI d', nI m', rx') ∧ f_X7_ask (nI d) (nI m) rm p1 p2 = some (v, nI d', nI m', rm') ∧ d' ≤ 9 ∧ m' ≤ 100 ∧ RR rx' rm' := by
  obtain ⟨v2, a, b, y1, y2, y3⟩ := noC' (show NoC (-2) by simp [NoC]) hR
  simp only [f_X6_ask, f_X7_ask, f_X6_ask_J22, f_X7_ask_J22, f_X6_ask_J56, f_X7_ask_J50, X6_isWithin_eq, X7_within_eq, Option.bind_some, ifb, y1, y2]
  cases g1 : wi p1 (nI 0) (nI 1) with
  | false => exact ⟨v2, d, m, a, b, rfl, rfl, hd, hm', y3⟩
  | true =>
    by_cases z : p1 = nI 0
    · simp only [if_pos z, if_true]
      cases g2 : wi p2 (nI 0) (nI 9) with
      | false => exact ⟨v2, d, m, a, b, rfl, rfl, hd, hm', y3⟩
      | true =>
        obtain ⟨k, -, hk, rfl⟩ := (wi_nI (by omega) (by omega)).mp g2
        exact ⟨nI d, k, m, rx, rm, rfl, rfl, hk, hm', hR⟩
    · simp only [if_neg z, if_true]
      cases g2 : wi p2 (nI 0) (nI 100) with
      | false => exact ⟨v2, d, m, a, b, rfl, rfl, hd, hm', y3⟩
      | true =>
        obtain ⟨k, -, hk, rfl⟩ := (wi_nI (by omega) (by omega)).mp g2
        exact ⟨nI m, d, k, rx, rm, rfl, rfl, hd, hk, hR⟩
theorem PpOk_add {k : Nat} (h : PpOk P g ax am) (hP : P < 10) (hk : k ≤ 99) : PpOk (P + 1) (fun i => if i = P then k else g i) (upd ax P (nI k)) (upd am P (nI k)) := by
  refine ⟨by omega, fun i hi => ?_⟩
  by_cases q : i = P
  · subst q; rw [upd_s, upd_s]; simp [hk]
  · rw [upd_o _ _ q, upd_o _ _ q]; simp only [if_neg q]; exact h.2 i (by omega)
theorem e_person (h : PpOk P g ax am) (hR : RR rx rm) (p1 : Int32) : ∃ v P' g' ax' am' rx' rm', f_X6_person (nI P) ax rx p1 = some (v, nI P', ax', rx') ∧ f_X7_person (nI P) am rm p1 = some (v, nI P', am', rm') ∧ PpOk P' g' ax' am' ∧ RR rx' rm' := by
  have hP := h.1
  obtain ⟨v2, a, b, y1, y2, y3⟩ := noC' (show NoC (-2) by simp [NoC]) hR
  obtain ⟨v6, a6, b6, z1, z2, z3⟩ := noC6 hR
  simp only [f_X6_person, f_X7_person, X6_isWithin_eq, X7_within_eq, Option.bind_some, ifb, y1, y2, z1, z2]
  cases g1 : wi p1 (nI 1) (nI 99) with
  | false => exact ⟨v2, P, g, ax, am, a, b, rfl, rfl, h, y3⟩
  | true =>
    obtain ⟨k, -, hk, rfl⟩ := (wi_nI (by omega) (by omega)).mp g1
    simp only [if_true]
    by_cases z : P = 10
    · subst z
      simp only [f_X3_hasRoom, Int32.le_refl, if_true, Option.bind_some]
      exact ⟨v6, 10, g, ax, am, a6, b6, rfl, rfl, h, z3⟩
    · have ga : ¬ nI 10 ≤ nI P := by rw [le_nI (by omega) (by omega)]; omega
      have gb : ¬ nI P = nI 10 := by rw [nI_eq (by omega) (by omega)]; exact z
      have gc : ¬ nI 1 = nI 0 := by decide
      have gd : ¬ nI P < nI 0 := nI_nneg (by omega)
      simp only [f_X3_hasRoom, if_neg ga, if_neg gb, if_neg gc, Option.bind_some, f_X3_add, f_X3_write, if_neg gd, xout_s (show P < 10 by omega) (show 10 < 2 ^ 31 by omega), xat_nI (show P < 2 ^ 31 by omega), f_X7_newOne, nI_add, nI_dif (show 1 ≤ P + 1 by omega), Nat.add_sub_cancel]
      exact ⟨nI P, P + 1, _, _, _, rx, rm, rfl, rfl, PpOk_add h (by omega) hk, hR⟩
theorem e_turn (hX : LwX c kn tn kx tx) (hM : LwX c kn tn km tm) (hf : FOk c f) (hn : n ≤ 40) : ∃ v r', f_X6_turn (nI f) r (nI n) (nI c) kx tx = some (v, r') ∧ f_X7_turn (nI c) (nI f) r (nI n) km tm = some (v, r') ∧ ROk n r' := by
  have hc := hX.1
  refine ⟨nI (cnt (lst c kn tn f (rev r n) n) n), rev r n, ?_, ?_, ROk_bI _ (by omega)⟩
  · rw [show f_X6_turn (nI f) r (nI n) (nI c) kx tx = (f_X0_turnedAbout r (nI n)).bind fun u1 => (f_X0_timesStruck (nI n) (nI c) kx tx (nI f) u1).bind fun u2 => some (u2, u1) from rfl, X0_turnedAbout_eq hn, Option.bind_some, X0_timesStruck_eq hX (hf.lt hc) (show n ≤ 62 by omega)]
    rfl
  · rw [show f_X7_turn (nI c) (nI f) r (nI n) km tm = (f_X7_backward r (nI n)).bind fun u1 => (f_X7_struckNow (nI c) (nI f) km tm u1 (nI n)).bind fun u2 => some (u2, u1) from rfl, X7_backward_eq hn, Option.bind_some, X7_struckNow_eq hM hf (show n ≤ 62 by omega)]
    rfl
theorem e_change (hn : n ≤ 40) (hr : ROk n r) (hR : RR rx rm) (p1 : Int32) : ∃ v r' rx' rm', f_X6_change r (nI n) rx p1 = some (v, r', rx') ∧ f_X7_change r (nI n) rm p1 = some (v, r', rm') ∧ ROk n r' ∧ RR rx' rm' := by
  obtain ⟨v2, a, b, y1, y2, y3⟩ := noC' (show NoC (-2) by simp [NoC]) hR
  simp only [f_X6_change, f_X7_change, X6_isStep_eq, X7_isStep_eq, Option.bind_some, ifb, y1, y2]
  cases g1 : wi p1 (nI 0) (nI n - nI 1) with
  | false => exact ⟨v2, r, a, b, rfl, rfl, hr, y3⟩
  | true =>
    obtain ⟨l, hl, rfl⟩ := (wi_lt (by omega)).mp g1
    simp only [if_true, X6_isIn_eq (show l < 64 by omega), X7_has_eq (show l < 64 by omega), Option.bind_some, X6_asNumber_eq, ifb]
    refine ⟨_, _, rx, rm, rfl, ?_, ROk_flip hn hr hl, hR⟩
    cases bt (r ^^^ xlshl (lN 1) (nI l)) l <;> rfl
theorem ROk_and (q : Int64) (hn : n ≤ 62) : ROk n (q &&& fb n) := fun i hi => by
  rw [bt_and, bt_fb hn]; simp; omega
theorem e_cut (hn : n ≤ 40) (hr : ROk n r) (hR : RR rx rm) (p1 : Int32) : ∃ v r' n' rx' rm', f_X6_cut r (nI n) rx p1 = some (v, r', nI n', rx') ∧ f_X7_cut r (nI n) rm p1 = some (v, r', nI n', rm') ∧ n' ≤ 40 ∧ ROk n' r' ∧ RR rx' rm' := by
  obtain ⟨v2, a, b, y1, y2, y3⟩ := noC' (show NoC (-2) by simp [NoC]) hR
  obtain ⟨v5, a5, b5, z1, z2, z3⟩ := noC' (show NoC (-5) by simp [NoC]) hR
  simp only [f_X6_cut, f_X7_cut, X6_isWithin_eq, X7_within_eq, Option.bind_some, ifb, y1, y2, z1, z2]
  cases g1 : wi p1 (nI 1) (nI 40) with
  | false => exact ⟨v2, r, n, a, b, rfl, rfl, hn, hr, y3⟩
  | true =>
    obtain ⟨k, -, hk, rfl⟩ := (wi_nI (by omega) (by omega)).mp g1
    simp only [if_true]
    by_cases z : k ≤ n
    · have ga : nI k ≤ nI n := by rw [le_nI (by omega) (by omega)]; exact z
      simp only [if_pos ga, nI_dif z, f_X6_firstBits, Option.bind_some]
      exact ⟨_, _, n - k, rx, rm, rfl, rfl, by omega, ROk_and _ (by omega), hR⟩
    · have ga : ¬ nI k ≤ nI n := by rw [le_nI (by omega) (by omega)]; exact z
      simp only [if_neg ga]
      exact ⟨v5, r, n, a5, b5, rfl, rfl, hn, hr, z3⟩
end L
