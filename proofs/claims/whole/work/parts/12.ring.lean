-- PURE: the ring's own calls
theorem xl_pair {SX SM RX RM : Type} {bx : SX → Option (RX ⊕ SX)} {bm : SM → Option (RM ⊕ SM)} (I : Nat → SX → SM → Prop) (Post : RX → RM → Prop) (N : Nat) {s0 : SX} {t0 : SM} (hN : N < 19990) (h0 : I 0 s0 t0)
    (h : ∀ i s t, i ≤ N → I i s t → (∃ a b, bx s = some (.inl a) ∧ bm t = some (.inl b) ∧ Post a b) ∨ (i < N ∧ ∃ s' t', bx s = some (.inr s') ∧ bm t = some (.inr t') ∧ I (i + 1) s' t')) : ∃ a b, xloop bx xN s0 = some a ∧ xloop bm xN t0 = some b ∧ Post a b := by
  have key : ∀ (k i : Nat) (s : SX) (t : SM), i ≤ N → N - i < k → I i s t → ∃ a b, xloop bx k s = some a ∧ xloop bm k t = some b ∧ Post a b := by
    intro k
    induction k with
    | zero => intro i s t _ h2; omega
    | succ k ih =>
      intro i s t hi hk hI
      rcases h i s t hi hI with ⟨a, b, h1, h2, h3⟩ | ⟨hlt, s', t', h1, h2, h3⟩
      · refine ⟨a, b, ?_, ?_, h3⟩
        · show (bx s).bind _ = _
          rw [h1]; rfl
        · show (bm t).bind _ = _
          rw [h2]; rfl
      · obtain ⟨a, b, q1, q2, q3⟩ := ih (i + 1) s' t' hlt (by omega) h3
        refine ⟨a, b, ?_, ?_, q3⟩
        · show (bx s).bind _ = _
          rw [h1]; exact q1
        · show (bm t).bind _ = _
          rw [h2]; exact q2
  exact key xN 0 s0 t0 (Nat.zero_le _) (by unfold xN; omega) h0
theorem pub_of {a b : Option (Int32 × (Nat → Int32))} (h : ∃ x y, a = some x ∧ b = some y ∧ (x.1 = y.1 ∧ RR x.2 y.2)) : Pub a b := by
  obtain ⟨x, y, h1, h2, h3, h4⟩ := h
  exact ⟨x.1, x.2, y.2, h1, by rw [h2, h3], h4⟩
theorem eq_b2 {a b : Bool} : (b2 a = b2 b) = (a = b) := propext b2_eq
/-- a loop that keeps a flag: all so far -/
theorem allB_s (p : Nat → Bool) (k : Nat) : decide (∀ i, i < k + 1 → p i = true) = (decide (∀ i, i < k → p i = true) && p k) := by
  by_cases h : ∀ i, i < k → p i = true
  · cases hp : p k with
    | true =>
      have : ∀ i, i < k + 1 → p i = true := fun i hi => by
        rcases Nat.lt_or_ge i k with q | q
        · exact h i q
        · rw [show i = k by omega]; exact hp
      simp only [decide_eq_true this, decide_eq_true h, Bool.and_self]
    | false =>
      have : ¬ ∀ i, i < k + 1 → p i = true := fun q => by have := q k (by omega); rw [hp] at this; cases this
      simp only [decide_eq_false this, Bool.and_false]
  · have : ¬ ∀ i, i < k + 1 → p i = true := fun q => h (fun i hi => q i (by omega))
    simp only [decide_eq_false this, decide_eq_false h, Bool.false_and]
section B
variable {c f d n : Nat} {kn tn : Nat → Nat} {kx tx km tm rx rm : Nat → Int32} {r : Int64}
theorem e_step (hn : n ≤ 40) (hR : RR rx rm) (p1 : Int32) : Pub (f_X6_step r (nI n) rx p1) (f_X7_step r (nI n) rm p1) := by
  simp only [f_X6_step, f_X7_step, X6_isStep_eq, X7_isStep_eq, Option.bind_some, ifb]
  by_cases g : wi p1 (nI 0) (nI n - nI 1) = true
  · obtain ⟨t, ht, rfl⟩ := (wi_lt (by omega)).mp g
    simp only [g, if_true, X6_isIn_eq (show t < 64 by omega), X7_has_eq (show t < 64 by omega), Option.bind_some, X6_asNumber_eq, ifb]
    cases bt r t <;> exact pub_v hR _
  · simp only [g, if_false]; exact no2 hR
/-- the longest run -/
def rn (b : Bool) (s : Int32 × Int32 × Int32) : Int32 × Int32 × Int32 := let q := if b then s.2.1 + nI 1 else nI 0; (xmax s.1 q, q, s.2.2 + nI 1)
theorem X6_lr {x : Int64} {n i : Nat} (hn : n ≤ 62) (hi : i < n) {s : Int32 × Int32 × Int32} (hs : s.2.2 = nI i) : f_X6_longestRun_L8 x (nI n) s = some (.inr (rn (bt x i) s)) := by
  have g : ¬ nI n ≤ nI i := by rw [le_nI (by omega) (by omega)]; omega
  simp only [f_X6_longestRun_L8, hs, if_neg g, X6_isIn_eq (show i < 64 by omega), Option.bind_some, ifb, f_X6_longestRun_J31, rn]
  cases bt x i <;> simp
theorem X6_lr_end {x : Int64} {n : Nat} {s : Int32 × Int32 × Int32} (hn : n ≤ 62) (hs : s.2.2 = nI n) : f_X6_longestRun_L8 x (nI n) s = some (.inl s.1) := by
  have g : nI n ≤ nI n := by rw [le_nI (by omega) (by omega)]; omega
  simp only [f_X6_longestRun_L8, hs, if_pos g]
def rns (p : Nat → Bool) : Nat → Int32 × Int32 × Int32
  | 0 => (nI 0, nI 0, nI 0)
  | i + 1 => rn (p i) (rns p i)
theorem rns_i (p : Nat → Bool) : ∀ i, (rns p i).2.2 = nI i
  | 0 => rfl
  | i + 1 => by
    show (rns p i).2.2 + nI 1 = _
    rw [rns_i p i, nI_add]
theorem X6_longestRun_eq {x : Int64} {n : Nat} (hn : n ≤ 62) {p : Nat → Bool} (hp : ∀ i, i < n → bt x i = p i) : f_X6_longestRun x (nI n) = some (rns p n).1 := by
  unfold f_X6_longestRun
  refine xl_up (st := rns p) n rfl (by omega) (fun i hi => ?_) ?_
  · rw [X6_lr hn hi (rns_i p i), hp i hi]; rfl
  · exact X6_lr_end hn (rns_i p n)
theorem X7_run_tail (s : Int32 × Int32 × Int32) (b : Bool) : f_X7_run_J88 s (b2 b) = some (.inr (rn b s)) := by
  cases b <;> simp [f_X7_run_J88, f_X7_run_J102, rn, ifb, b2_t, b2_f, show ¬ nI 1 = nI 0 by decide]
theorem X7_run_L {hw : Nat} (hX : LwX c kn tn km tm) (hf : FOk c f) (hd : d ≤ 9) (hn : n ≤ 40) (hw2 : hw ≤ 2) {i : Nat} (hi : i < n) {s : Int32 × Int32 × Int32} (hs : s.2.2 = nI i) : f_X7_run_L23 (nI c) (nI f) (nI d) r (nI n) km tm rm (nI hw) s = some (.inr (rn (if hw = 0 then bt r i else if hw = 1 then !bt r i else isw 2 (lst c kn tn f r n) d r i) s)) := by
  have g : ¬ nI n ≤ nI i := by rw [le_nI (by omega) (by omega)]; omega
  have e0 : (nI hw = nI 0) = (hw = 0) := propext (nI_eq (by omega) (by omega))
  have e2 : (nI hw = nI 2) = (hw = 2) := propext (nI_eq (by omega) (by omega))
  simp only [f_X7_run_L23, hs, if_neg g, e0, e2, X7_has_eq (show i < 64 by omega), X7_isHeard_eq hX hf (show 0 < n by omega) (show n ≤ 62 by omega) (show i < 62 by omega) hd, Option.bind_some, ifb]
  have k1 : f_X7_run_J88 s (nI 1) = some (.inr (rn true s)) := X7_run_tail s true
  have k0 : f_X7_run_J88 s (nI 0) = some (.inr (rn false s)) := X7_run_tail s false
  rcases (show hw = 0 ∨ hw = 1 ∨ hw = 2 by omega) with rfl | rfl | rfl
  · simp (decide := true) only [if_true, if_false, f_X7_run_J80]
    cases bt r i
    · rw [b2_f, if_neg (by decide)]; exact k0
    · rw [b2_t, if_pos rfl]; exact k1
  · simp (decide := true) only [if_true, if_false, f_X7_run_J80]
    cases bt r i
    · rw [b2_f, if_pos rfl]; exact k1
    · rw [b2_t, if_neg (by decide)]; exact k0
  · simp (decide := true) only [if_true, if_false, isw]
    cases hrd (lst c kn tn f r n) d r i
    · simp only [Bool.false_eq_true, if_false]; exact k1
    · simp only [if_true]; exact k0
theorem e_run (hX : LwX c kn tn kx tx) (hM : LwX c kn tn km tm) (hf : FOk c f) (hd : d ≤ 9) (hn : n ≤ 40) (hr : ROk n r) (hR : RR rx rm) (p1 : Int32) : Pub (f_X6_run (nI f) (nI d) r (nI n) (nI c) kx tx rx p1) (f_X7_run (nI c) (nI f) (nI d) r (nI n) km tm rm p1) := by
  have hc := hX.1
  have hfl := hf.lt hc
  by_cases g : wi p1 (nI 0) (nI 2) = true
  · obtain ⟨w, -, hw, rfl⟩ := (wi_nI (by omega) (by omega)).mp g
    obtain ⟨p, hp⟩ : ∃ p : Nat → Bool, p = fun i => if w = 0 then bt r i else if w = 1 then !bt r i else isw 2 (lst c kn tn f r n) d r i := ⟨_, rfl⟩
    have eM : f_X7_run (nI c) (nI f) (nI d) r (nI n) km tm rm (nI w) = some ((rns p n).1, rm) := by
      simp only [f_X7_run, X7_within_eq, Option.bind_some, ifb, g, if_true]
      refine xl_up (st := rns p) n rfl (by omega) (fun i hi => ?_) ?_
      · rw [X7_run_L hM hf hd hn hw hi (rns_i p i)]
        rw [rns, hp]
      · have g : nI n ≤ nI n := by rw [le_nI (by omega) (by omega)]; omega
        simp only [f_X7_run_L23, rns_i p n, if_pos g]
    have e0 : (nI w = nI 0) = (w = 0) := propext (nI_eq (by omega) (by omega))
    have e1 : (nI w = nI 1) = (w = 1) := propext (nI_eq (by omega) (by omega))
    have e2 : (nI w = nI 2) = (w = 2) := propext (nI_eq (by omega) (by omega))
    have eX : f_X6_run (nI f) (nI d) r (nI n) (nI c) kx tx rx (nI w) = some ((rns p n).1, rx) := by
      simp only [f_X6_run, e0, e1, e2]
      rcases (show w = 0 ∨ w = 1 ∨ w = 2 by omega) with rfl | rfl | rfl
      · simp (decide := true) only [if_true, if_false]
        rw [X6_longestRun_eq (p := p) (show n ≤ 62 by omega) (fun i hi => by rw [hp]; rfl)]; rfl
      · simp (decide := true) only [if_true, if_false]
        rw [X6_longestRun_eq (p := p) (show n ≤ 62 by omega) (fun i hi => by rw [hp, bt_xor, bt_m1 i (by omega)]; simp)]; rfl
      · simp (decide := true) only [if_true, if_false, X0_sounds_eq hX hfl (show n ≤ 62 by omega) hd (show 2 ≤ 2 by omega) hr, Option.bind_some]
        rw [X6_longestRun_eq (p := p) (show n ≤ 62 by omega) (fun i hi => by rw [hp, bt_bI _ _ (by omega), show decide (i < n) = true by simpa using hi]; rfl)]; rfl
    rw [eM, eX]
    exact pub_v hR _
  · have z : ∀ j : Nat, j ≤ 2 → ¬ p1 = nI j := fun j hj q => g ((wi_nI (by omega) (by omega)).mpr ⟨j, by omega, hj, q⟩)
    simp only [f_X6_run, f_X7_run, X7_within_eq, Option.bind_some, ifb, g, z 0 (by omega), z 1 (by omega), z 2 (by omega), if_false]
    exact no2 hR
theorem X7_looped_eq {w : Nat} (hM : LwX c kn tn km tm) (hf : FOk c f) (hn : n ≤ 40) (hw : w ≤ 60) : f_X7_looped (nI c) (nI f) r (nI n) km tm (nI w) = some (nI (cnt (fun i => lst c kn tn f r n (w * n + i)) n)) := by
  unfold f_X7_looped
  have hwn : w * n ≤ 60 * 40 := Nat.mul_le_mul hw hn
  refine xl_up (st := fun i => (nI (cnt (fun i => lst c kn tn f r n (w * n + i)) i), nI i)) n rfl (by omega) (fun i hi => ?_) ?_
  · have g : ¬ nI n ≤ nI i := by rw [le_nI (by omega) (by omega)]; omega
    simp only [f_X7_looped_L4, if_neg g, pk_mul, nI_add, X7_strikesNow_eq hM hf (show 0 < n by omega) (show n ≤ 62 by omega) (show w * n + i < 2 ^ 20 by omega), Option.bind_some, ifb, cnt]
    by_cases hq : lst c kn tn f r n (w * n + i) = true <;> simp [hq]
  · have g : nI n ≤ nI n := by rw [le_nI (by omega) (by omega)]; omega
    simp only [f_X7_looped_L4, if_pos g]
theorem X0_rep_eq {w : Nat} (hX : LwX c kn tn kx tx) (hf : FOk c f) (hn : n ≤ 40) (hw : w ≤ 61) : f_X0_struckInRepetition (nI f) r (nI n) (nI c) kx tx (nI w) = some (bI (fun i => lst c kn tn f r n (w * n + i)) n) := by
  have hwn : w * n ≤ 61 * 40 := Nat.mul_le_mul hw hn
  simp only [f_X0_struckInRepetition, pk_mul, X2_struck_eq hX (hf.lt hX.1) (show n ≤ 62 by omega) (show w * n < 2 ^ 19 by omega), Option.bind_some]
theorem e_loop (hX : LwX c kn tn kx tx) (hM : LwX c kn tn km tm) (hf : FOk c f) (hn : n ≤ 40) (hR : RR rx rm) (p1 : Int32) : Pub (f_X6_loop (nI f) r (nI n) (nI c) kx tx rx p1) (f_X7_loop (nI c) (nI f) r (nI n) km tm rm p1) := by
  simp only [f_X6_loop, f_X7_loop, X6_isWithin_eq, X7_within_eq, Option.bind_some, ifb]
  by_cases g : wi p1 (nI 0) (nI 60) = true
  · obtain ⟨w, -, hw, rfl⟩ := (wi_nI (by omega) (by omega)).mp g
    simp only [g, if_true]
    by_cases g2 : nI c = nI 0
    · simp only [g2, if_true]; exact no5 hR
    · simp only [g2, if_false, X7_looped_eq hM hf hn hw, X0_rep_eq hX hf hn (show w ≤ 61 by omega), Option.bind_some, bitCount_eq, cnt_bI _ (show n ≤ 64 by omega)]
      exact pub_v hR _
  · simp only [g, if_false]; exact no2 hR
/-- a repetition like the one before -/
def rsm (p : Nat → Bool) (n w : Nat) : Bool := decide (∀ i, i < n → (p (w * n + i) == p ((w - 1) * n + i)) = true)
theorem X7_round_in {w : Nat} (hM : LwX c kn tn km tm) (hf : FOk c f) (hn : n ≤ 40) (h1 : 1 ≤ w) (hw : w ≤ 60) : f_X7_round_L23 (nI c) (nI f) r (nI n) km tm rm (nI w) = some (if rsm (lst c kn tn f r n) n w = true then .inl (nI w, rm) else .inr (nI (w + 1))) := by
  have g : ¬ nI 61 ≤ nI w := by rw [le_nI (by omega) (by omega)]; omega
  have hwn : w * n ≤ 60 * 40 := Nat.mul_le_mul hw hn
  have hle : n ≤ w * n := Nat.le_mul_of_pos_left n h1
  have hm1 : w * n - n = (w - 1) * n := by rw [Nat.sub_mul, Nat.one_mul]
  simp only [f_X7_round_L23, if_neg g]
  refine xl_up (st := fun k => (b2 (decide (∀ i, i < k → ((lst c kn tn f r n (w * n + i)) == (lst c kn tn f r n ((w - 1) * n + i))) = true)), nI k)) n (by simp [b2]) (by omega) (fun i hi => ?_) ?_
  · have g : ¬ nI n ≤ nI i := by rw [le_nI (by omega) (by omega)]; omega
    rw [allB_s]
    simp only [f_X7_round_L33, if_neg g, pk_mul, nI_dif hle, hm1, nI_add, X7_strikesNow_eq hM hf (show 0 < n by omega) (show n ≤ 62 by omega) (show w * n + i < 2 ^ 20 by omega), X7_strikesNow_eq hM hf (show 0 < n by omega) (show n ≤ 62 by omega) (show (w - 1) * n + i < 2 ^ 20 by omega), Option.bind_some, eq_b2]
    by_cases hq : lst c kn tn f r n (w * n + i) = lst c kn tn f r n ((w - 1) * n + i)
    · simp [hq]
    · simp [hq, b2]
  · have g : nI n ≤ nI n := by rw [le_nI (by omega) (by omega)]; omega
    simp only [f_X7_round_L33, if_pos g, nI_add, ifb]
    unfold rsm
    by_cases hq : (∀ i, i < n → ((lst c kn tn f r n (w * n + i)) == (lst c kn tn f r n ((w - 1) * n + i))) = true)
    · rw [decide_eq_true hq]; simp
    · rw [decide_eq_false hq]; simp
theorem e_round (hX : LwX c kn tn kx tx) (hM : LwX c kn tn km tm) (hf : FOk c f) (hn : n ≤ 40) (hR : RR rx rm) : Pub (f_X6_round (nI f) r (nI n) (nI c) kx tx rx) (f_X7_round (nI c) (nI f) r (nI n) km tm rm) := by
  simp only [f_X6_round, f_X7_round]
  by_cases g : nI c = nI 0
  · simp only [g, if_true]; exact no5 hR
  · by_cases g2 : nI n = nI 0
    · simp only [g, g2, if_true, if_false]; exact no5 hR
    · simp only [g, g2, if_false, X0_rep_eq hX hf hn (show 0 ≤ 61 by omega), Option.bind_some]
      refine pub_of (xl_pair (fun i s t => s = (bI (fun j => lst c kn tn f r n (i * n + j)) n, nI (i + 1)) ∧ t = nI (i + 1)) _ 60 (by omega) ⟨rfl, rfl⟩ (fun i s t hi hI => ?_))
      obtain ⟨rfl, rfl⟩ := hI
      by_cases h6 : i = 60
      · subst h6
        refine Or.inl ⟨(-1, rx), (-1, rm), ?_, ?_, rfl, hR⟩
        · simp only [f_X6_round_L41, if_pos (show nI 60 < nI (60 + 1) by decide)]
        · simp only [f_X7_round_L23, if_pos (show nI 61 ≤ nI (60 + 1) by decide)]
      · have ga : ¬ nI 60 < nI (i + 1) := by rw [nI_ltI (by omega) (by omega)]; omega
        have eX : f_X6_round_L41 (nI f) r (nI n) (nI c) kx tx rx (bI (fun j => lst c kn tn f r n (i * n + j)) n, nI (i + 1)) = some (if rsm (lst c kn tn f r n) n (i + 1) = true then .inl (nI (i + 1), rx) else .inr (bI (fun j => lst c kn tn f r n ((i + 1) * n + j)) n, nI (i + 2))) := by
          simp only [f_X6_round_L41, if_neg ga, X0_rep_eq hX hf hn (show i + 1 ≤ 61 by omega), Option.bind_some, nI_add]
          by_cases hq : rsm (lst c kn tn f r n) n (i + 1) = true
          · rw [if_pos hq, if_pos]
            rw [xcmp_0, bI_eq (by omega)]
            intro j hj
            have := of_decide_eq_true hq j hj
            simpa using this
          · rw [if_neg hq, if_neg]
            rw [xcmp_0, bI_eq (by omega)]
            exact fun z => hq (decide_eq_true (fun j hj => by have := z j hj; simpa using this))
        rw [eX, X7_round_in hM hf hn (by omega) (by omega)]
        by_cases hq : rsm (lst c kn tn f r n) n (i + 1) = true
        · exact Or.inl ⟨(nI (i + 1), rx), (nI (i + 1), rm), by rw [if_pos hq], by rw [if_pos hq], rfl, hR⟩
        · exact Or.inr ⟨by omega, _, _, by rw [if_neg hq], by rw [if_neg hq], rfl, rfl⟩
end B
