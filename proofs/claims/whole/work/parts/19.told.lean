-- PURE: what is asked of a shelf
theorem noC' {e : Int32} (h : NoC e) {rx rm : Nat → Int32} (hR : RR rx rm) : ∃ v rx' rm', f_X6_refuse rx e = some (v, rx') ∧ f_X7_no rm e = some (v, rm') ∧ RR rx' rm' := by
  obtain ⟨v, a, b, h1, h2, h3⟩ := noC h hR
  refine ⟨v, a, b, ?_, ?_, h3⟩
  · cases q : f_X6_refuse rx e with
    | none => rw [q] at h1; cases h1
    | some u => rw [q] at h1; exact h1
  · cases q : f_X7_no rm e with
    | none => rw [q] at h2; cases h2
    | some u => rw [q] at h2; exact h2
theorem cnt_zero {p : Nat → Bool} : ∀ {n : Nat}, cnt p n = 0 ↔ ∀ i, i < n → p i = false
  | 0 => by simp [cnt]
  | n + 1 => by
    have ih := cnt_zero (p := p) (n := n)
    constructor
    · intro h i hi
      rw [cnt] at h
      have h1 : p n = false := by
        cases q : p n with
        | false => rfl
        | true => rw [q] at h; simp at h
      by_cases z : i = n
      · subst z; exact h1
      · refine ih.mp ?_ i (by omega)
        rw [h1] at h; simpa using h
    · intro h; exact cnt_none h
section T
variable {c f d n : Nat} {kn tn : Nat → Nat} {kx tx km tm rx rm hx hm sx sm : Nat → Int32} {ex em : Nat → Int64} {r : Int64}
theorem heardRow_cases (hS : ShOk c hx hm sx sm ex em) (hc : c ≤ 6) (hn : n ≤ 40) (p1 : Int32) : (∃ e, NoC e ∧ f_X6_refusalOfHeardRow (nI n) hx sx p1 = some e ∧ f_X7_noHeard (nI n) hm sm p1 = some e) ∨ (∃ s z, s < 8 ∧ p1 = nI s ∧ n ≤ z ∧ z ≤ 40 ∧ sx s = nI z ∧ (∀ i, i < z → ex (40 * s + i) = em (40 * s + i)) ∧ f_X6_refusalOfHeardRow (nI n) hx sx p1 = some (nI 0) ∧ f_X7_noHeard (nI n) hm sm p1 = some (nI 0)) := by
  have hn1 : ¬ nI 1 = nI 0 := by decide
  simp only [f_X6_refusalOfHeardRow, f_X7_noHeard, X7_isShelf_eq, Option.bind_some, ifb]
  rcases row_cases hS hc p1 with ⟨h1, h2⟩ | ⟨s, e, hs, rfl, h1, h2, h3, h4, h5, h6⟩ | ⟨s, k, z, hs, rfl, h1, hk, hz, h3, h4, h5, h6, h7, h8⟩
  · refine Or.inl ⟨-2, Or.inl rfl, ?_, ?_⟩
    · simp only [h2, Option.bind_some]; rfl
    · simp [h1]
  · have he : NoC e := by rcases h6 with ⟨rfl, -⟩ | ⟨rfl, -⟩ <;> simp [NoC]
    refine Or.inl ⟨e, he, ?_, ?_⟩
    · simp only [h2, Option.bind_some, if_neg he.nz]
    · simp only [if_true, h1, h3, h4, Option.bind_some]
  · by_cases q : n ≤ z
    · have q2 : nI n ≤ nI z := by rw [le_nI (by omega) (by omega)]; exact q
      refine Or.inr ⟨s, z, hs, rfl, q, hz, h4, fun i hi => (h6 i hi).1, ?_, ?_⟩
      · simp only [if_true, h7, X4_sizeOf_eq hs, h4, Option.bind_some, if_pos q2]
      · simp only [if_true, h1, h8, Option.bind_some, if_neg hn1, xout_s hs (show 8 < 2 ^ 31 by omega), xat_nI (show s < 2 ^ 31 by omega), h5, if_pos q2]
        rfl
    · have q2 : ¬ nI n ≤ nI z := by rw [le_nI (by omega) (by omega)]; exact q
      refine Or.inl ⟨-2, Or.inl rfl, ?_, ?_⟩
      · simp only [if_true, h7, X4_sizeOf_eq hs, h4, Option.bind_some, if_neg q2]
      · simp only [if_true, h1, h8, Option.bind_some, if_neg hn1, xout_s hs (show 8 < 2 ^ 31 by omega), xat_nI (show s < 2 ^ 31 by omega), h5, if_neg q2]
        rfl
def dfr (c : Nat) (kn tn : Nat → Nat) (f d n : Nat) (r : Int64) (e : Nat → Int64) (s i : Nat) : Bool := isw 0 (lst c kn tn f r n) d r i ^^ tld e s i
theorem differsNow_eq {s : Nat} (hM : LwX c kn tn km tm) (hf : FOk c f) (hd : d ≤ 9) (hn : n ≤ 40) (hs : s < 8) (h4 : ∀ i, i < n → ex (40 * s + i) = em (40 * s + i)) : f_X7_differsNow (nI c) (nI f) (nI d) r (nI n) km tm em (nI s) = some (nI (cnt (dfr c kn tn f d n r ex s) n)) := by
  unfold f_X7_differsNow
  refine xl_up (st := fun i => (nI (cnt (dfr c kn tn f d n r ex s) i), nI i)) n rfl (by omega) (fun i hi => ?_) ?_
  · have g : ¬ nI n ≤ nI i := by rw [le_nI (by omega) (by omega)]; omega
    have e1 : isw 0 (lst c kn tn f r n) d r i = hrd (lst c kn tn f r n) d r i := by simp [isw]
    simp only [f_X7_differsNow_L4, if_neg g, X7_isHeard_eq hM hf (show 0 < n by omega) (show n ≤ 62 by omega) (show i < 62 by omega) hd, Option.bind_some, pk_mul, nI_add, xout_s (show 40 * s + i < 320 by omega) (show 320 < 2 ^ 31 by omega), xat_nI (show 40 * s + i < 2 ^ 31 by omega), ← h4 i hi, xcmp_0, cnt, dfr, e1, tld, f_X7_differsNow_J46]
    by_cases q : ex (40 * s + i) = lN 0
    · cases hrd (lst c kn tn f r n) d r i <;> simp [q, b2, show ¬ nI 1 = nI 0 by decide]
    · cases hrd (lst c kn tn f r n) d r i <;> simp [q, b2, show ¬ nI 0 = nI 1 by decide]
  · have g : nI n ≤ nI n := by rw [le_nI (by omega) (by omega)]; omega
    simp only [f_X7_differsNow_L4, if_pos g]
theorem e_differs (hX : LwX c kn tn kx tx) (hM : LwX c kn tn km tm) (hf : FOk c f) (hd : d ≤ 9) (hn : n ≤ 40) (hr : ROk n r) (hR : RR rx rm) (hS : ShOk c hx hm sx sm ex em) (p1 : Int32) : Pub (f_X6_differs (nI f) (nI d) r (nI n) (nI c) kx tx rx ex hx sx p1) (f_X7_differs (nI c) (nI f) (nI d) r (nI n) hm km tm rm sm em p1) := by
  have hc := hX.1
  simp only [f_X6_differs, f_X7_differs]
  rcases heardRow_cases hS hc hn p1 with ⟨e, he, h1, h2⟩ | ⟨s, z, hs, rfl, hz, hz2, h3, h4, h1, h2⟩
  · simp only [h1, h2, Option.bind_some, if_neg he.nz, if_neg he.ng]
    exact noC he hR
  · simp only [h1, h2, Option.bind_some, if_true, Int32.le_refl, asBits_eq hs hz2 h3 hz, X0_sounds_eq (w := 0) hX (hf.lt hc) (show n ≤ 62 by omega) hd (by omega) hr, differsNow_eq hM hf hd hn hs (fun i hi => h4 i (by omega)), bI_xor _ _ (show n ≤ 62 by omega), bitCount_eq, cnt_bI _ (show n ≤ 64 by omega)]
    exact pub_v hR _
def Pub3 (dp : Int32) (a : Option (Int32 × (Nat → Int32))) (b : Option (Int32 × Int32 × (Nat → Int32))) : Prop := ∃ (v : Int32) (rx rm : Nat → Int32), a = some (v, rx) ∧ b = some (v, dp, rm) ∧ RR rx rm
theorem or_risen {p : Nat → Bool} (hn : n ≤ 40) (hd : d ≤ 9) (hr : ROk n r) : r ||| (xlshl (bI p n) (nI d) &&& fb n) = bI (isw 0 p d r) n := bI_of (by omega) (fun j hj => by
  rw [bt_or, bt_risen (by omega) hd]
  simp only [isw, hrd, if_true]
  by_cases q : j < n
  · simp [q]
  · simp [q, hr j (by omega)])
theorem cmp_dfr {s : Nat} (hn : n ≤ 40) : (xcmp (bI (isw 0 (lst c kn tn f r n) d r) n) (bI (tld ex s) n) = nI 0) ↔ (nI (cnt (dfr c kn tn f d n r ex s) n) = nI 0) := by
  have h1 := cnt_le (dfr c kn tn f d n r ex s) n
  rw [xcmp_0, bI_eq (show n ≤ 64 by omega), nI_eq (by omega) (by omega), cnt_zero]
  constructor
  · intro h i hi; unfold dfr; rw [h i hi]; simp
  · intro h i hi; exact xor_ne.mp (h i hi)
theorem e_depths (hX : LwX c kn tn kx tx) (hM : LwX c kn tn km tm) (hf : FOk c f) (hn : n ≤ 40) (hr : ROk n r) (hR : RR rx rm) (hS : ShOk c hx hm sx sm ex em) (dp p1 : Int32) : Pub3 dp (f_X6_depths (nI f) r (nI n) (nI c) kx tx rx ex hx sx p1) (f_X7_depths (nI c) (nI f) dp r (nI n) hm km tm rm sm em p1) := by
  have hc := hX.1
  simp only [f_X6_depths, f_X7_depths]
  rcases heardRow_cases hS hc hn p1 with ⟨e, he, h1, h2⟩ | ⟨s, z, hs, rfl, hz, hz2, h3, h4, h1, h2⟩
  · obtain ⟨v, a, b, q1, q2, q3⟩ := noC' he hR
    simp only [h1, h2, Option.bind_some, if_neg he.nz, if_neg he.ng, q1, q2]
    exact ⟨v, a, b, rfl, rfl, q3⟩
  · simp only [h1, h2, Option.bind_some, if_true, Int32.le_refl, asBits_eq hs hz2 h3 hz]
    obtain ⟨a, b, q1, q2, q3⟩ := xl_pair (bx := f_X6_depths_L38 (nI f) r (nI n) (nI c) kx tx rx (bI (tld ex s) n)) (bm := f_X7_depths_L29 (nI c) (nI f) r (nI n) km tm rm em (nI s) dp) (fun i s t => s = t ∧ s.2 = nI i) (fun a b => a = (b.1, rx) ∧ b.2 = (dp, rm)) 10 (s0 := (nI 0, nI 0)) (t0 := (nI 0, nI 0)) (by omega) ⟨rfl, rfl⟩ (fun i u t hi hI => by
      obtain ⟨rfl, e⟩ := hI
      by_cases h : i < 10
      · have ga : ¬ nI 9 < nI i := by rw [lt_nI (by omega) (by omega)]; omega
        have gb : ¬ nI 10 ≤ nI i := by rw [le_nI (by omega) (by omega)]; omega
        refine Or.inr ⟨h, ?_⟩
        simp only [f_X6_depths_L38, f_X7_depths_L29, f_X7_depths_J57, e, if_neg ga, if_neg gb, X0_risen_eq hX (hf.lt hc) (show n ≤ 62 by omega) (show i ≤ 9 by omega), or_risen hn (show i ≤ 9 by omega) hr, differsNow_eq hM hf (show i ≤ 9 by omega) hn hs (fun i hi => h4 i (by omega)), Option.bind_some, nI_add, cmp_dfr hn]
        by_cases q : nI (cnt (dfr c kn tn f i n r ex s) n) = nI 0
        · simp only [if_pos q]; exact ⟨_, _, rfl, rfl, rfl, rfl⟩
        · simp only [if_neg q]; exact ⟨_, _, rfl, rfl, rfl, rfl⟩
      · have e2 : i = 10 := by omega
        subst e2
        have ga : nI 9 < nI 10 := by rw [lt_nI (by omega) (by omega)]; omega
        have gb : nI 10 ≤ nI 10 := by rw [le_nI (by omega) (by omega)]; omega
        simp only [f_X6_depths_L38, f_X7_depths_L29, e, if_pos ga, if_pos gb]
        exact Or.inl ⟨_, _, rfl, rfl, rfl, rfl⟩)
    obtain ⟨b1, b2, b3⟩ := b
    simp only [Prod.mk.injEq] at q3
    obtain ⟨rfl, rfl, rfl⟩ := q3
    exact ⟨_, _, _, q1, q2, hR⟩
theorem e_fits (hX : LwX c kn tn kx tx) (hM : LwX c kn tn km tm) (hd : d ≤ 9) (hn : n ≤ 40) (hr : ROk n r) (hR : RR rx rm) (hS : ShOk c hx hm sx sm ex em) (dp p1 : Int32) : Pub3 dp (f_X6_fits (nI d) r (nI n) (nI c) kx tx rx ex hx sx p1) (f_X7_fits (nI c) dp (nI d) r (nI n) hm km tm rm sm em p1) := by
  have hc := hX.1
  simp only [f_X6_fits, f_X7_fits]
  rcases heardRow_cases hS hc hn p1 with ⟨e, he, h1, h2⟩ | ⟨s, z, hs, rfl, hz, hz2, h3, h4, h1, h2⟩
  · obtain ⟨v, a, b, q1, q2, q3⟩ := noC' he hR
    simp only [h1, h2, Option.bind_some, if_neg he.nz, if_neg he.ng, q1, q2]
    exact ⟨v, a, b, rfl, rfl, q3⟩
  · simp only [h1, h2, Option.bind_some, if_true, Int32.le_refl, asBits_eq hs hz2 h3 hz]
    obtain ⟨a, b, q1, q2, q3⟩ := xl_pair (bx := f_X6_fits_L38 (nI d) r (nI n) (nI c) kx tx rx (bI (tld ex s) n)) (bm := f_X7_fits_L29 (nI c) (nI d) r (nI n) km tm rm em (nI s) dp) (fun i s t => s = t ∧ s.2 = nI i) (fun a b => a = (b.1, rx) ∧ b.2 = (dp, rm)) c (s0 := (nI 0, nI 0)) (t0 := (nI 0, nI 0)) (by omega) ⟨rfl, rfl⟩ (fun i u t hi hI => by
      obtain ⟨rfl, e⟩ := hI
      by_cases h : i < c
      · have ga : ¬ nI c ≤ nI i := by rw [le_nI (by omega) (by omega)]; omega
        refine Or.inr ⟨h, ?_⟩
        simp only [f_X6_fits_L38, f_X7_fits_L29, f_X7_fits_J59, e, if_neg ga, X0_risen_eq hX (show i < 2 ^ 30 by omega) (show n ≤ 62 by omega) hd, or_risen hn hd hr, differsNow_eq hM (Or.inl h) hd hn hs (fun i hi => h4 i (by omega)), Option.bind_some, nI_add, cmp_dfr hn]
        by_cases q : nI (cnt (dfr c kn tn i d n r ex s) n) = nI 0
        · simp only [if_pos q]; exact ⟨_, _, rfl, rfl, rfl, rfl⟩
        · simp only [if_neg q]; exact ⟨_, _, rfl, rfl, rfl, rfl⟩
      · have ga : nI c ≤ nI i := by rw [le_nI (by omega) (by omega)]; omega
        simp only [f_X6_fits_L38, f_X7_fits_L29, e, if_pos ga]
        exact Or.inl ⟨_, _, rfl, rfl, rfl, rfl⟩)
    obtain ⟨b1, b2, b3⟩ := b
    simp only [Prod.mk.injEq] at q3
    obtain ⟨rfl, rfl, rfl⟩ := q3
    exact ⟨_, _, _, q1, q2, hR⟩
theorem e_judge (hc : c ≤ 6) (hR : RR rx rm) (hS : ShOk c hx hm sx sm ex em) (p1 p2 : Int32) : Pub (f_X6_judge rx ex hx sx p1 p2) (f_X7_judge hm rm sm em p1 p2) := by
  simp only [f_X6_judge, f_X7_judge]
  rcases toldRow_cases hS hc p1 p2 with ⟨e, he, h1, h2⟩ | ⟨s, m, z, hs, rfl, rfl, hm', hz, h3, h4, h1, h2⟩
  · simp only [h1, h2, Option.bind_some, if_neg he.nz, if_neg he.ng]
    exact noC he hR
  · obtain ⟨v, q1, q2, q3⟩ := wrong_both hs hz h3 h4 hm'
    simp only [h1, h2, Option.bind_some, if_true, Int32.le_refl, q1, q2]
    exact pub_v hR _
theorem fw_cases {s m : Nat} {v : Int32} (h : fw ex s m v) (hm' : m ≤ 40) : (v = -1 ∧ ∀ i, i < m → rgt ex s i = true) ∨ ¬ v = -1 := by
  rcases h with h | ⟨k, hk, rfl⟩
  · exact Or.inl h
  · exact Or.inr (nI_nm1 (by omega))
theorem ROk_bI (p : Nat → Bool) (hn : n ≤ 64) : ROk n (bI p n) := fun i hi => by
  rw [bt_bI _ _ hn]; simp; omega
theorem e_rings (hc : c ≤ 6) (hn : n ≤ 40) (hr : ROk n r) (hR : RR rx rm) (hS : ShOk c hx hm sx sm ex em) (p1 p2 : Int32) : ∃ v n' r' rx' rm', f_X6_rings r (nI n) rx ex hx sx p1 p2 = some (v, r', nI n', rx') ∧ f_X7_rings r (nI n) hm rm sm em p1 p2 = some (v, r', nI n', rm') ∧ n' ≤ 40 ∧ ROk n' r' ∧ RR rx' rm' := by
  simp only [f_X6_rings, f_X7_rings, f_X6_refusalOfToldRing]
  rcases toldRow_cases hS hc p1 p2 with ⟨e, he, h1, h2⟩ | ⟨s, m, z, hs, rfl, rfl, hm', hz, h3, h4, h1, h2⟩
  · obtain ⟨v, a, b, q1, q2, q3⟩ := noC' he hR
    simp only [h1, h2, Option.bind_some, if_neg he.nz, if_neg he.ng, q1, q2]
    exact ⟨v, n, r, a, b, rfl, rfl, hn, hr, q3⟩
  · obtain ⟨v, q1, q2, q3⟩ := wrong_both hs hz h3 h4 hm'
    rcases fw_cases q3 (by omega) with ⟨rfl, q4⟩ | q4
    · simp only [h1, h2, Option.bind_some, if_true, Int32.le_refl, q1, q2, asBits_eq hs hz h3 hm', told_eq hs hz h4 hm' q4]
      exact ⟨nI m, m, _, rx, rm, rfl, rfl, by omega, ROk_bI _ (by omega), hR⟩
    · obtain ⟨v2, a, b, y1, y2, y3⟩ := noC' (show NoC (-5) by simp [NoC]) hR
      simp only [h1, h2, Option.bind_some, if_true, Int32.le_refl, q1, q2, if_neg q4, y1, y2, if_neg (show ¬ (-5 : Int32) = nI 0 by decide)]
      exact ⟨v2, n, r, a, b, rfl, rfl, hn, hr, y3⟩
theorem e_answers (hX : LwX c kn tn kx tx) (hM : LwX c kn tn km tm) (hf : FOk c f) (hd : d ≤ 9) (hR : RR rx rm) (hS : ShOk c hx hm sx sm ex em) (p1 p2 p3 : Int32) : Pub (f_X6_answers (nI f) (nI d) (nI c) kx tx rx ex hx sx p1 p2 p3) (f_X7_answers (nI c) (nI f) (nI d) hm km tm rm sm em p1 p2 p3) := by
  have hc := hX.1
  simp only [f_X6_answers, f_X7_answers, f_X6_answers_J20, f_X6_refusalOfToldRing, X6_isWithin_eq, X7_within_eq, Option.bind_some, ifb]
  by_cases g : wi p3 (nI 0) (nI 2) = true
  · obtain ⟨w, -, hw, rfl⟩ := (wi_nI (by omega) (by omega)).mp g
    simp only [g, if_true]
    rcases toldRow_cases hS hc p1 p2 with ⟨e, he, h1, h2⟩ | ⟨s, m, z, hs, rfl, rfl, hm', hz, h3, h4, h1, h2⟩
    · simp only [h1, h2, Option.bind_some, if_neg he.nz, if_neg he.ng]
      exact noC he hR
    · obtain ⟨v, q1, q2, q3⟩ := wrong_both hs hz h3 h4 hm'
      rcases fw_cases q3 (by omega) with ⟨rfl, q4⟩ | q4
      · have e0 : (nI w = nI 0) = (w = 0) := propext (nI_eq (by omega) (by omega))
        simp only [h1, h2, Option.bind_some, if_true, Int32.le_refl, q1, q2, asBits_eq hs hz h3 hm', told_eq hs hz h4 hm' q4, e0]
        by_cases w0 : w = 0
        · simp only [if_pos w0, X2_struck_eq hX (hf.lt hc) (show m ≤ 62 by omega) (show 0 < 2 ^ 19 by omega), Nat.zero_add, X7_struckNow_eq hM hf (show m ≤ 62 by omega), Option.bind_some, bitCount_eq, cnt_bI _ (show m ≤ 64 by omega)]
          exact pub_v hR _
        · simp only [if_neg w0, X0_sounds_eq hX (hf.lt hc) (show m ≤ 62 by omega) hd hw (ROk_bI _ (show m ≤ 64 by omega)), X7_many_eq hM hf (show m ≤ 62 by omega) hd hw, Option.bind_some, bitCount_eq, cnt_bI _ (show m ≤ 64 by omega)]
          exact pub_v hR _
      · simp only [h1, h2, Option.bind_some, if_true, Int32.le_refl, q1, q2, if_neg q4, if_neg (show ¬ (-5 : Int32) = nI 0 by decide)]
        exact no5 hR
  · simp only [g, if_false, if_neg (show ¬ (-2 : Int32) = nI 0 by decide)]; exact no2 hR
theorem e_holds (hS : ShOk c hx hm sx sm ex em) (p1 : Int32) : Alike (f_X6_holds hx p1) (f_X7_holds hm p1) := by
  simp only [f_X6_holds, f_X7_holds, X7_isShelf_eq, Option.bind_some, ifb]
  cases g : wi p1 (nI 0) (nI 7) with
  | false =>
    simp only [f_X4_heldOn, X6_elementOf_out g, Option.bind_some]
    exact ⟨_, rfl, rfl⟩
  | true =>
    obtain ⟨s, hs, rfl⟩ := wi7 g
    simp only [X4_heldOn_eq hs, Option.bind_some, if_true, xout_s hs (show 8 < 2 ^ 31 by omega), xat_nI (show s < 2 ^ 31 by omega), (hS s hs).1]
    exact ⟨_, rfl, rfl⟩
theorem e_element (hc : c ≤ 6) (hS : ShOk c hx hm sx sm ex em) (p1 p2 : Int32) : ∃ v, f_X6_element ex sx p1 p2 = some v ∧ f_X7_element hm sm em p1 p2 = some v := by
  have hn1 : ¬ nI 1 = nI 0 := by decide
  have hm1 : (-1 : Int32) < nI 0 := by decide
  simp only [f_X6_element, f_X7_element, X7_isShelf_eq, Option.bind_some, ifb]
  have out : ∀ p2 : Int32, wi p2 (nI 0) (nI 0 - nI 1) = false := fun p2 => by
    cases q : wi p2 (nI 0) (nI 0 - nI 1) with
    | false => rfl
    | true => obtain ⟨j, hj, -⟩ := (wi_lt (by omega)).mp q; omega
  rcases row_cases hS hc p1 with ⟨h1, h2⟩ | ⟨s, e, hs, rfl, h1, h2, h3, h4, h5, h6⟩ | ⟨s, k, z, hs, rfl, h1, hk, hz, h3, h4, h5, h6, h7, h8⟩
  · refine ⟨lN 0, ?_, by simp [h1]⟩
    simp only [f_X4_elementAt, f_X4_placeOf, f_X4_sizeOf, X6_elementOf_out h1, X6_isWithin_eq, Option.bind_some, out p2, b2_f, if_true, if_pos hm1]
  · refine ⟨lN 0, ?_, by simp [h1, h3]⟩
    simp only [f_X4_elementAt, f_X4_placeOf, X4_sizeOf_eq hs, h5, X6_isWithin_eq, Option.bind_some, out p2, b2_f, if_true, if_pos hm1]
  · cases q : wi p2 (nI 0) (nI z - nI 1) with
    | false =>
      refine ⟨lN 0, ?_, ?_⟩
      · simp only [f_X4_elementAt, f_X4_placeOf, X4_sizeOf_eq hs, h4, X6_isWithin_eq, Option.bind_some, q, b2_f, if_true, if_pos hm1]
      · simp only [h1, if_true, h8, Option.bind_some, if_neg hn1, xout_s hs (show 8 < 2 ^ 31 by omega), xat_nI (show s < 2 ^ 31 by omega), h5, X7_within_eq, q, b2_f]
        rfl
    | true =>
      obtain ⟨j, hj, rfl⟩ := (wi_lt (by omega)).mp q
      refine ⟨ex (40 * s + j), ?_, ?_⟩
      · rw [elementAt_eq hs hz h4 hj]; rfl
      · simp only [h1, if_true, h8, Option.bind_some, if_neg hn1, xout_s hs (show 8 < 2 ^ 31 by omega), xat_nI (show s < 2 ^ 31 by omega), h5, X7_within_eq, q, b2_t, pk_mul, nI_add, xout_s (show 40 * s + j < 320 by omega) (show 320 < 2 ^ 31 by omega), xat_nI (show 40 * s + j < 2 ^ 31 by omega), (h6 j hj).1]
        rfl
end T
