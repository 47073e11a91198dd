-- PURE: the image and the way back; feed
section K
variable {c f d n P m : Nat} {g kn tn : Nat → Nat} {kx tx km tm ax am rx rm hx hm sx sm : Nat → Int32} {ex em : Nat → Int64} {r : Int64}
theorem X2_take (a : Int32) (o1 o2 : Nat → Int32) (b : Int32) : ∃ k t, f_X2_takeFrom a kx tx b o1 o2 = some (b, k, t) ∧ ∀ l, l < 6 → k l = o1 l ∧ t l = o2 l := by
  unfold f_X2_takeFrom
  obtain ⟨⟨r1, r2, r3⟩, q1, q2⟩ := run_I (body := f_X2_takeFrom_L10 o1 o2 b) (s0 := (nI 0, kx, tx)) (Q := fun r => r.1 = b ∧ ∀ l, l < 6 → r.2.1 l = o1 l ∧ r.2.2 l = o2 l) (fun i s => s.1 = nI i ∧ ∀ l, l < i → s.2.1 l = o1 l ∧ s.2.2 l = o2 l) 6 (by omega) ⟨rfl, fun l hl => by omega⟩ (fun i s hi hI => by
    obtain ⟨s1, s2, s3⟩ := s
    obtain ⟨rfl, hI⟩ := hI
    have ga : ¬ nI 6 ≤ nI i := by rw [le_nI (by omega) (by omega)]; omega
    have gd : ¬ nI i < nI 0 := nI_nneg (by omega)
    simp only [f_X2_takeFrom_L10, if_neg ga, X2_kindOf_eq hi, X2_tuneOf_eq hi, Option.bind_some, f_X2_write, if_neg gd, xout_s hi (show 6 < 2 ^ 31 by omega), xat_nI (show i < 2 ^ 31 by omega), nI_add]
    refine ⟨_, rfl, rfl, fun l hl => ?_⟩
    show upd s2 i (o1 i) l = _ ∧ upd s3 i (o2 i) l = _
    by_cases z : l = i
    · subst z; rw [upd_s, upd_s]; exact ⟨rfl, rfl⟩
    · rw [upd_o _ _ z, upd_o _ _ z]; exact hI l (by omega)) (fun s hI => by
    obtain ⟨s1, s2, s3⟩ := s
    obtain ⟨rfl, hI⟩ := hI
    simp only [f_X2_takeFrom_L10, Int32.le_refl, if_true]
    exact ⟨_, rfl, rfl, hI⟩)
  obtain ⟨rfl, q2⟩ := q2
  exact ⟨r2, r3, q1, q2⟩
theorem X3_take (a : Int32) (o1 : Nat → Int32) (b : Int32) : ∃ k, f_X3_takeFrom a ax b o1 = some (b, k) ∧ ∀ l, l < 10 → k l = o1 l := by
  unfold f_X3_takeFrom
  obtain ⟨⟨r1, r2⟩, q1, q2⟩ := run_I (body := f_X3_takeFrom_L10 o1 b) (s0 := (nI 0, ax)) (Q := fun r => r.1 = b ∧ ∀ l, l < 10 → r.2 l = o1 l) (fun i s => s.1 = nI i ∧ ∀ l, l < i → s.2 l = o1 l) 10 (by omega) ⟨rfl, fun l hl => by omega⟩ (fun i s hi hI => by
    obtain ⟨s1, s2⟩ := s
    obtain ⟨rfl, hI⟩ := hI
    have ga : ¬ nI 10 ≤ nI i := by rw [le_nI (by omega) (by omega)]; omega
    have gd : ¬ nI i < nI 0 := nI_nneg (by omega)
    simp only [f_X3_takeFrom_L10, if_neg ga, X3_ageOf_eq hi, Option.bind_some, f_X3_write, if_neg gd, xout_s hi (show 10 < 2 ^ 31 by omega), xat_nI (show i < 2 ^ 31 by omega), nI_add]
    refine ⟨_, rfl, rfl, fun l hl => ?_⟩
    show upd s2 i (o1 i) l = _
    by_cases z : l = i
    · subst z; rw [upd_s]
    · rw [upd_o _ _ z]; exact hI l (by omega)) (fun s hI => by
    obtain ⟨s1, s2⟩ := s
    obtain ⟨rfl, hI⟩ := hI
    simp only [f_X3_takeFrom_L10, Int32.le_refl, if_true]
    exact ⟨_, rfl, rfl, hI⟩)
  obtain ⟨rfl, q2⟩ := q2
  exact ⟨r2, q1, q2⟩
/-- what the reference keeps in one array -/
def Kept (e kind own ages : Nat → Int32) (a22 a23 a24 a25 a26 a27 a28 : Int32) : Prop := (∀ l, l < 6 → e l = kind l ∧ e (6 + l) = own l) ∧ (∀ l, l < 10 → e (12 + l) = ages l) ∧ e 22 = a22 ∧ e 23 = a23 ∧ e 24 = a24 ∧ e 25 = a25 ∧ e 26 = a26 ∧ e 27 = a27 ∧ e 28 = a28
theorem upd_n (h : Nat → Int32) {k j : Nat} (hk : k < 2 ^ 31) (v : Int32) (hj : ¬ j = k) : upd h (xat (nI k)) v j = h j := by rw [xat_nI hk]; exact upd_o _ _ hj
theorem upd_m (h : Nat → Int32) {k : Nat} (hk : k < 2 ^ 31) (v : Int32) : upd h (xat (nI k)) v k = v := by rw [xat_nI hk]; exact upd_s _ _ _
theorem keep_eq (a22 a23 a24 a25 a26 a27 a28 : Int32) (o : Nat → Int32) : ∃ e, f_X7_keep a22 a23 a24 a25 a26 a27 a28 am km tm o = some e ∧ Kept e km tm am a22 a23 a24 a25 a26 a27 a28 := by
  unfold f_X7_keep
  refine run_I (fun i s => s.1 = nI i ∧ ∀ l, l < i → s.2 l = km l ∧ s.2 (6 + l) = tm l) 6 (by omega) ⟨rfl, fun l hl => by omega⟩ (fun i s hi hI => ?_) (fun s hI => ?_)
  · obtain ⟨s1, s2⟩ := s
    obtain ⟨rfl, hI⟩ := hI
    have ga : ¬ nI 6 ≤ nI i := by rw [le_nI (by omega) (by omega)]; omega
    simp only [f_X7_keep_L2, if_neg ga, nI_add, xout_s hi (show 6 < 2 ^ 31 by omega), xout_s (show i < 29 by omega) (show 29 < 2 ^ 31 by omega), xout_s (show 6 + i < 29 by omega) (show 29 < 2 ^ 31 by omega), xat_nI (show i < 2 ^ 31 by omega), xat_nI (show 6 + i < 2 ^ 31 by omega)]
    refine ⟨_, rfl, rfl, fun l hl => ?_⟩
    show upd (upd s2 i (km i)) (6 + i) (tm i) l = _ ∧ upd (upd s2 i (km i)) (6 + i) (tm i) (6 + l) = _
    rw [upd_o _ _ (show ¬ l = 6 + i by omega)]
    by_cases z : l = i
    · subst z; rw [upd_s, upd_s]; exact ⟨rfl, rfl⟩
    · rw [upd_o _ _ z, upd_o _ _ (show ¬ 6 + l = 6 + i by omega), upd_o _ _ (show ¬ 6 + l = i by omega)]; exact hI l (by omega)
  · obtain ⟨s1, s2⟩ := s
    obtain ⟨rfl, hI⟩ := hI
    simp only [f_X7_keep_L2, Int32.le_refl, if_true]
    obtain ⟨x, q1, x2, q2, q3⟩ := run_I (body := f_X7_keep_L37 a22 a23 a24 a25 a26 a27 a28 am) (s0 := (nI 0, s2)) (Q := fun x => ∃ e, x = .inl e ∧ Kept e km tm am a22 a23 a24 a25 a26 a27 a28) (fun i s => s.1 = nI i ∧ (∀ l, l < 6 → s.2 l = km l ∧ s.2 (6 + l) = tm l) ∧ ∀ l, l < i → s.2 (12 + l) = am l) 10 (by omega) ⟨rfl, hI, fun l hl => by omega⟩ (fun i s hi hI => by
      obtain ⟨s1, s2⟩ := s
      obtain ⟨rfl, hI, hJ⟩ := hI
      have ga : ¬ nI 10 ≤ nI i := by rw [le_nI (by omega) (by omega)]; omega
      simp only [f_X7_keep_L37, if_neg ga, nI_add, xout_s hi (show 10 < 2 ^ 31 by omega), xout_s (show 12 + i < 29 by omega) (show 29 < 2 ^ 31 by omega), xat_nI (show i < 2 ^ 31 by omega), xat_nI (show 12 + i < 2 ^ 31 by omega)]
      refine ⟨_, rfl, rfl, fun l hl => ?_, fun l hl => ?_⟩
      · show upd s2 (12 + i) (am i) l = _ ∧ upd s2 (12 + i) (am i) (6 + l) = _
        rw [upd_o _ _ (show ¬ l = 12 + i by omega), upd_o _ _ (show ¬ 6 + l = 12 + i by omega)]; exact hI l hl
      · show upd s2 (12 + i) (am i) (12 + l) = _
        by_cases z : l = i
        · subst z; rw [upd_s]
        · rw [upd_o _ _ (show ¬ 12 + l = 12 + i by omega)]; exact hJ l (by omega)) (fun s hI => by
      obtain ⟨s1, s2⟩ := s
      obtain ⟨rfl, hI, hJ⟩ := hI
      simp only [f_X7_keep_L37, Int32.le_refl, if_true]
      refine ⟨_, rfl, _, rfl, fun l hl => ?_, fun l hl => ?_, ?_, ?_, ?_, ?_, ?_, ?_, ?_⟩
      · constructor
        · rw [upd_n _ (by omega) _ (show ¬ l = 28 by omega), upd_n _ (by omega) _ (show ¬ l = 27 by omega), upd_n _ (by omega) _ (show ¬ l = 26 by omega), upd_n _ (by omega) _ (show ¬ l = 25 by omega), upd_n _ (by omega) _ (show ¬ l = 24 by omega), upd_n _ (by omega) _ (show ¬ l = 23 by omega), upd_n _ (by omega) _ (show ¬ l = 22 by omega)]
          exact (hI l hl).1
        · rw [upd_n _ (by omega) _ (show ¬ 6 + l = 28 by omega), upd_n _ (by omega) _ (show ¬ 6 + l = 27 by omega), upd_n _ (by omega) _ (show ¬ 6 + l = 26 by omega), upd_n _ (by omega) _ (show ¬ 6 + l = 25 by omega), upd_n _ (by omega) _ (show ¬ 6 + l = 24 by omega), upd_n _ (by omega) _ (show ¬ 6 + l = 23 by omega), upd_n _ (by omega) _ (show ¬ 6 + l = 22 by omega)]
          exact (hI l hl).2
      · rw [upd_n _ (by omega) _ (show ¬ 12 + l = 28 by omega), upd_n _ (by omega) _ (show ¬ 12 + l = 27 by omega), upd_n _ (by omega) _ (show ¬ 12 + l = 26 by omega), upd_n _ (by omega) _ (show ¬ 12 + l = 25 by omega), upd_n _ (by omega) _ (show ¬ 12 + l = 24 by omega), upd_n _ (by omega) _ (show ¬ 12 + l = 23 by omega), upd_n _ (by omega) _ (show ¬ 12 + l = 22 by omega)]
        exact hJ l hl
      · rw [upd_n _ (by omega) _ (show ¬ 22 = 28 by omega), upd_n _ (by omega) _ (show ¬ 22 = 27 by omega), upd_n _ (by omega) _ (show ¬ 22 = 26 by omega), upd_n _ (by omega) _ (show ¬ 22 = 25 by omega), upd_n _ (by omega) _ (show ¬ 22 = 24 by omega), upd_n _ (by omega) _ (show ¬ 22 = 23 by omega), upd_m _ (by omega)]
      · rw [upd_n _ (by omega) _ (show ¬ 23 = 28 by omega), upd_n _ (by omega) _ (show ¬ 23 = 27 by omega), upd_n _ (by omega) _ (show ¬ 23 = 26 by omega), upd_n _ (by omega) _ (show ¬ 23 = 25 by omega), upd_n _ (by omega) _ (show ¬ 23 = 24 by omega), upd_m _ (by omega)]
      · rw [upd_n _ (by omega) _ (show ¬ 24 = 28 by omega), upd_n _ (by omega) _ (show ¬ 24 = 27 by omega), upd_n _ (by omega) _ (show ¬ 24 = 26 by omega), upd_n _ (by omega) _ (show ¬ 24 = 25 by omega), upd_m _ (by omega)]
      · rw [upd_n _ (by omega) _ (show ¬ 25 = 28 by omega), upd_n _ (by omega) _ (show ¬ 25 = 27 by omega), upd_n _ (by omega) _ (show ¬ 25 = 26 by omega), upd_m _ (by omega)]
      · rw [upd_n _ (by omega) _ (show ¬ 26 = 28 by omega), upd_n _ (by omega) _ (show ¬ 26 = 27 by omega), upd_m _ (by omega)]
      · rw [upd_n _ (by omega) _ (show ¬ 27 = 28 by omega), upd_m _ (by omega)]
      · rw [upd_m _ (by omega)])
    subst q2
    exact ⟨_, q1, q3⟩
theorem again_eq (z22 z23 z24 z25 z26 z27 z28 : Int32) (o : Nat → Int32) : ∃ a k t, f_X7_again z22 z23 z24 z25 z26 z27 z28 am km tm o = some (o 22, o 23, o 24, o 25, o 26, o 27, o 28, a, k, t) ∧ (∀ l, l < 6 → k l = o l ∧ t l = o (6 + l)) ∧ ∀ l, l < 10 → a l = o (12 + l) := by
  unfold f_X7_again
  obtain ⟨x, q1, a, k, t, q2, q3, q4⟩ := run_I (body := f_X7_again_L2 am o) (s0 := (nI 0, km, tm)) (Q := fun x => ∃ a k t, x = (o 22, o 23, o 24, o 25, o 26, o 27, o 28, a, k, t) ∧ (∀ l, l < 6 → k l = o l ∧ t l = o (6 + l)) ∧ ∀ l, l < 10 → a l = o (12 + l)) (fun i s => s.1 = nI i ∧ ∀ l, l < i → s.2.1 l = o l ∧ s.2.2 l = o (6 + l)) 6 (by omega) ⟨rfl, fun l hl => by omega⟩ (fun i s hi hI => by
    obtain ⟨s1, s2, s3⟩ := s
    obtain ⟨rfl, hI⟩ := hI
    have ga : ¬ nI 6 ≤ nI i := by rw [le_nI (by omega) (by omega)]; omega
    simp only [f_X7_again_L2, if_neg ga, nI_add, xout_s hi (show 6 < 2 ^ 31 by omega), xout_s (show i < 29 by omega) (show 29 < 2 ^ 31 by omega), xout_s (show 6 + i < 29 by omega) (show 29 < 2 ^ 31 by omega), xat_nI (show i < 2 ^ 31 by omega), xat_nI (show 6 + i < 2 ^ 31 by omega)]
    refine ⟨_, rfl, rfl, fun l hl => ?_⟩
    show upd s2 i (o i) l = _ ∧ upd s3 i (o (6 + i)) l = _
    by_cases z : l = i
    · subst z; rw [upd_s, upd_s]; exact ⟨rfl, rfl⟩
    · rw [upd_o _ _ z, upd_o _ _ z]; exact hI l (by omega)) (fun s hI => by
    obtain ⟨s1, s2, s3⟩ := s
    obtain ⟨rfl, hI⟩ := hI
    simp only [f_X7_again_L2, Int32.le_refl, if_true]
    obtain ⟨x, q1, a, q2, q3⟩ := run_I (body := f_X7_again_L37 o (nI 6, s2, s3)) (s0 := (nI 0, am)) (Q := fun x => ∃ a, x = .inl (o 22, o 23, o 24, o 25, o 26, o 27, o 28, a, s2, s3) ∧ ∀ l, l < 10 → a l = o (12 + l)) (fun i s => s.1 = nI i ∧ ∀ l, l < i → s.2 l = o (12 + l)) 10 (by omega) ⟨rfl, fun l hl => by omega⟩ (fun i s hi hI => by
      obtain ⟨s1, s2⟩ := s
      obtain ⟨rfl, hJ⟩ := hI
      have ga : ¬ nI 10 ≤ nI i := by rw [le_nI (by omega) (by omega)]; omega
      simp only [f_X7_again_L37, if_neg ga, nI_add, xout_s hi (show 10 < 2 ^ 31 by omega), xout_s (show 12 + i < 29 by omega) (show 29 < 2 ^ 31 by omega), xat_nI (show i < 2 ^ 31 by omega), xat_nI (show 12 + i < 2 ^ 31 by omega)]
      refine ⟨_, rfl, rfl, fun l hl => ?_⟩
      show upd s2 i (o (12 + i)) l = _
      by_cases z : l = i
      · subst z; rw [upd_s]
      · rw [upd_o _ _ z]; exact hJ l (by omega)) (fun s hI => by
      obtain ⟨s1, s2⟩ := s
      obtain ⟨rfl, hJ⟩ := hI
      simp only [f_X7_again_L37, Int32.le_refl, if_true]
      exact ⟨_, rfl, s2, rfl, hJ⟩)
    subst q2
    exact ⟨_, q1, a, s2, s3, rfl, hI, q3⟩)
  subst q2
  exact ⟨a, k, t, q1, q3, q4⟩
end K
