-- PURE BASE: bits of longs, counted loops, small numbers (the wb_ family began as kit/laws/BITS)
theorem wb_tb (n : Nat) : (lN n).toBitVec = BitVec.ofNat 64 n := rfl
theorem wb_inj {a b : Int64} (h : a.toBitVec = b.toBitVec) : a = b := Int64.toBitVec_inj.mp h
theorem wb_tn {n : Nat} (h : n < 2 ^ 64) : (lN n).toBitVec.toNat = n := by rw [wb_tb, BitVec.toNat_ofNat, Nat.mod_eq_of_lt h]
theorem wb_of (x : Int64) : ∃ n, n < 2 ^ 64 ∧ x = lN n := ⟨x.toBitVec.toNat, x.toBitVec.isLt, wb_inj (by rw [wb_tb]; simp)⟩
theorem wb_of32 (x : Int32) : ∃ n, n < 2 ^ 32 ∧ x = nI n := ⟨x.toBitVec.toNat, x.toBitVec.isLt, Int32.toBitVec_inj.mp (by show _ = BitVec.ofNat 32 _; simp)⟩
theorem wb_c : ∀ k, k < 64 → ((nI k).toInt64 &&& 63) = lN k := by decide +kernel
theorem wb_cu : ∀ k, k < 64 → ((nI k).toInt64.toUInt64 &&& Int64.toUInt64 63) = UInt64.ofNat k := by decide +kernel
theorem wb_sm : ∀ k, k < 64 → (BitVec.ofNat 64 k).smod 64 = BitVec.ofNat 64 k := by decide +kernel
theorem wb_pw {a b : Nat} (h : a ≤ b) : 2 ^ b = 2 ^ a * 2 ^ (b - a) := by rw [← Nat.pow_add]; congr 1; omega
theorem wb_lt2 {a b : Nat} (h : a < b) : 2 ^ a < 2 ^ b := Nat.pow_lt_pow_right (by decide) h
theorem wb_mod (n : Nat) : lN n = lN (n % 2 ^ 64) := wb_inj (by rw [wb_tb, wb_tb]; apply BitVec.eq_of_toNat_eq; rw [BitVec.toNat_ofNat, BitVec.toNat_ofNat, Nat.mod_mod])
theorem wb_shr {n k : Nat} (hn : n < 2 ^ 64) (hk : k < 64) : ((lN n).toUInt64 >>> ((nI k).toInt64.toUInt64 &&& Int64.toUInt64 63)).toInt64 = lN (n / 2 ^ k) := by
  rw [wb_cu k hk]
  apply wb_inj
  apply BitVec.eq_of_toNat_eq
  show ((lN n).toUInt64 >>> UInt64.ofNat k).toNat = (BitVec.ofNat 64 _).toNat
  have h1 : (UInt64.ofNat k).toNat = k := by
    show (BitVec.ofNat 64 k).toNat = k
    rw [BitVec.toNat_ofNat, Nat.mod_eq_of_lt (by omega)]
  have h2 : (lN n).toUInt64.toNat = n := wb_tn hn
  rw [UInt64.toNat_shiftRight, h1, h2, Nat.mod_eq_of_lt hk, Nat.shiftRight_eq_div_pow, BitVec.toNat_ofNat, Nat.mod_eq_of_lt (Nat.lt_of_le_of_lt (Nat.div_le_self _ _) hn)]
theorem wb_shl (n : Nat) {k : Nat} (hk : k < 64) : lN n <<< ((nI k).toInt64 &&& 63) = lN (n * 2 ^ k) := by
  rw [wb_c k hk]
  apply wb_inj
  rw [Int64.toBitVec_shiftLeft, wb_tb, wb_tb, wb_tb, wb_sm k hk]
  apply BitVec.eq_of_toNat_eq
  rw [BitVec.shiftLeft_eq', BitVec.toNat_shiftLeft, BitVec.toNat_ofNat, BitVec.toNat_ofNat, BitVec.toNat_ofNat, Nat.mod_eq_of_lt (show k < 2 ^ 64 by omega), Nat.shiftLeft_eq, Nat.mul_mod, Nat.mod_mod, ← Nat.mul_mod]
theorem wb_and {a b : Nat} (ha : a < 2 ^ 64) (hb : b < 2 ^ 64) : lN a &&& lN b = lN (a &&& b) := by
  apply wb_inj
  rw [Int64.toBitVec_and, wb_tb, wb_tb, wb_tb]
  apply BitVec.eq_of_toNat_eq
  rw [BitVec.toNat_and, BitVec.toNat_ofNat, BitVec.toNat_ofNat, BitVec.toNat_ofNat, Nat.mod_eq_of_lt ha, Nat.mod_eq_of_lt hb, Nat.mod_eq_of_lt (Nat.and_lt_two_pow _ hb)]
theorem wb_or {a b : Nat} (ha : a < 2 ^ 64) (hb : b < 2 ^ 64) : lN a ||| lN b = lN (a ||| b) := by
  apply wb_inj
  rw [Int64.toBitVec_or, wb_tb, wb_tb, wb_tb]
  apply BitVec.eq_of_toNat_eq
  rw [BitVec.toNat_or, BitVec.toNat_ofNat, BitVec.toNat_ofNat, BitVec.toNat_ofNat, Nat.mod_eq_of_lt ha, Nat.mod_eq_of_lt hb, Nat.mod_eq_of_lt (Nat.or_lt_two_pow ha hb)]
theorem wb_mask {n k : Nat} (hn : n < 2 ^ 64) (hk : k < 64) : lN n &&& lN (2 ^ k - 1) = lN (n % 2 ^ k) := by
  rw [wb_and hn (by have := wb_lt2 hk; omega), Nat.and_two_pow_sub_one_eq_mod]
theorem wb_a1 {n : Nat} (hn : n < 2 ^ 64) : lN n &&& 1 = lN (n % 2) := wb_mask (k := 1) hn (by decide)
theorem wb_bit {n k : Nat} (hn : n < 2 ^ 64) (hk : k < 64) : ((lN n).toUInt64 >>> ((nI k).toInt64.toUInt64 &&& Int64.toUInt64 63)).toInt64 &&& 1 = lN (n / 2 ^ k % 2) := by
  rw [wb_shr hn hk, wb_a1 (Nat.lt_of_le_of_lt (Nat.div_le_self _ _) hn)]
def b2 (b : Bool) : Int32 := if b then nI 1 else nI 0
theorem b2_t : b2 true = nI 1 := rfl
theorem b2_f : b2 false = nI 0 := rfl
theorem b2_0 {b : Bool} : b2 b = nI 0 ↔ b = false := by cases b <;> decide
theorem b2_1 {b : Bool} : b2 b = nI 1 ↔ b = true := by cases b <;> decide
theorem b2_dec {c : Prop} [Decidable c] : (if c then some (nI 1) else some (nI 0)) = some (b2 (decide c)) := by by_cases h : c <;> simp [h, b2]
theorem b2_dec' {c : Prop} [Decidable c] : (if c then some (nI 0) else some (nI 1)) = some (b2 (!decide c)) := by by_cases h : c <;> simp [h, b2]
theorem b2_eq {a b : Bool} : b2 a = b2 b ↔ a = b := by cases a <;> cases b <;> decide
theorem xat_nI {j : Nat} (h : j < 2 ^ 31) : xat (nI j) = j := nI_clamp h
theorem xout_nI {j n : Nat} (h : j < 2 ^ 31) : xout (nI j) n = decide (n ≤ j) := by
  unfold xout
  rw [nI_clamp h]
  have h0 := nI_pos h
  simp [h0]
theorem nI_neg1 : (nI 0 - nI 1) = (-1 : Int32) := by decide
theorem nI_sub1 (n : Nat) : nI (n + 1) - nI 1 = nI n := by
  have := pk_sub (a := n + 1) (b := 1) (by omega)
  simpa using this
-- counted loops: the trace of states is given
theorem xl_run {S R : Type} {body : S → Option (R ⊕ S)} (st : Nat → S) (N : Nat) (h1 : ∀ i, i < N → body (st i) = some (.inr (st (i + 1)))) : ∀ k, N ≤ k → xloop body k (st 0) = xloop body (k - N) (st N) := by
  induction N with
  | zero => intro k _; rfl
  | succ N ih =>
    intro k hk
    rw [ih (fun i hi => h1 i (by omega)) k (by omega)]
    obtain ⟨m, hm⟩ : ∃ m, k - N = m + 1 := ⟨k - N - 1, by omega⟩
    rw [hm]
    show (body (st N)).bind _ = _
    rw [h1 N (by omega)]
    show xloop body m (st (N + 1)) = _
    congr 1; omega
theorem xl_up {S R : Type} {body : S → Option (R ⊕ S)} (st : Nat → S) (N : Nat) {r : R} {s0 : S} (hs : s0 = st 0) (hN : N < 20000) (h1 : ∀ i, i < N → body (st i) = some (.inr (st (i + 1)))) (h2 : body (st N) = some (.inl r)) : xloop body xN s0 = some r := by
  subst hs
  rw [xl_run st N h1 xN (by unfold xN; omega)]
  obtain ⟨m, hm⟩ : ∃ m, xN - N = m + 1 := ⟨xN - N - 1, by unfold xN; omega⟩
  rw [hm]
  show (body (st N)).bind _ = _
  rw [h2]
  rfl
-- bits of a long
def bt (x : Int64) (i : Nat) : Bool := x.toBitVec.getLsbD i
theorem bt_ext {x y : Int64} (h : ∀ i, i < 64 → bt x i = bt y i) : x = y := wb_inj (BitVec.eq_of_getLsbD_eq h)
theorem bt_big {x : Int64} {i : Nat} (h : 64 ≤ i) : bt x i = false := BitVec.getLsbD_of_ge _ _ h
theorem bt_and (x y : Int64) (i : Nat) : bt (x &&& y) i = (bt x i && bt y i) := by unfold bt; rw [Int64.toBitVec_and, BitVec.getLsbD_and]
theorem bt_or (x y : Int64) (i : Nat) : bt (x ||| y) i = (bt x i || bt y i) := by unfold bt; rw [Int64.toBitVec_or, BitVec.getLsbD_or]
theorem bt_xor (x y : Int64) (i : Nat) : bt (x ^^^ y) i = (bt x i ^^ bt y i) := by unfold bt; rw [Int64.toBitVec_xor, BitVec.getLsbD_xor]
theorem bt_lN {n : Nat} (i : Nat) (hi : i < 64) : bt (lN n) i = n.testBit i := by unfold bt; rw [wb_tb, BitVec.getLsbD_ofNat]; simp [hi]
theorem bt_0 (i : Nat) : bt (lN 0) i = false := by
  by_cases h : i < 64
  · rw [bt_lN i h]; exact Nat.zero_testBit i
  · exact bt_big (by omega)
theorem bt_m1 (i : Nat) (hi : i < 64) : bt (-1) i = true := by
  have : ∀ i, i < 64 → bt (-1) i = true := by decide +kernel
  exact this i hi
theorem bt_shl (x : Int64) {k : Nat} (hk : k < 64) (i : Nat) : bt (xlshl x (nI k)) i = (decide (i < 64) && (decide (k ≤ i) && bt x (i - k))) := by
  unfold bt xlshl
  rw [wb_c k hk, Int64.toBitVec_shiftLeft, wb_tb, wb_sm k hk]
  have e : (BitVec.ofNat 64 k) = (BitVec.ofNat 64 k) := rfl
  rw [BitVec.shiftLeft_eq', BitVec.getLsbD_shiftLeft, BitVec.toNat_ofNat, Nat.mod_eq_of_lt (by omega)]
  by_cases h1 : i < 64 <;> by_cases h2 : i < k <;> simp [h1, h2, Nat.not_le.mpr, Nat.not_lt.mp] <;> omega
theorem bt_ushr (x : Int64) {k : Nat} (hk : k < 64) (i : Nat) : bt (xlushr x (nI k)) i = bt x (k + i) := by
  unfold bt xlushr
  rw [wb_cu k hk]
  show ((x.toUInt64 >>> UInt64.ofNat k).toBitVec).getLsbD i = _
  rw [UInt64.toBitVec_shiftRight]
  rw [BitVec.ushiftRight_eq', BitVec.getLsbD_ushiftRight]
  have : ((UInt64.ofNat k).toBitVec % 64).toNat = k := by
    have : ∀ k, k < 64 → ((UInt64.ofNat k).toBitVec % 64).toNat = k := by decide +kernel
    exact this k hk
  rw [this]
  rfl
theorem bt_one {k : Nat} (hk : k < 64) (i : Nat) : bt (xlshl (lN 1) (nI k)) i = decide (i = k) := by
  rw [bt_shl _ hk]
  by_cases h1 : i < 64
  · by_cases h2 : k ≤ i
    · rw [bt_lN _ (by omega)]
      by_cases h3 : i = k
      · subst h3; simp [h1]
      · obtain ⟨d, hd⟩ : ∃ d, i - k = d + 1 := ⟨i - k - 1, by omega⟩
        rw [hd]
        simp [h1, h2, h3, Nat.testBit_succ]
    · simp [h2]; omega
  · have : ¬ i = k := by omega
    simp [h1, this]
/-- the lowest n bits -/
def fb (n : Nat) : Int64 := xlshl (lN 1) (nI n) - lN 1
theorem fb_lN : ∀ n, n ≤ 62 → fb n = lN (2 ^ n - 1) := by decide +kernel
theorem bt_fb {n : Nat} (hn : n ≤ 62) (i : Nat) : bt (fb n) i = decide (i < n) := by
  by_cases h : i < 64
  · rw [fb_lN n hn, bt_lN i h, Nat.testBit_two_pow_sub_one]
  · rw [bt_big (by omega)]
    have : ¬ i < n := by omega
    simp [this]
/-- a long of told bits -/
def bI (p : Nat → Bool) : Nat → Int64
  | 0 => lN 0
  | n + 1 => if p n then bI p n ||| xlshl (lN 1) (nI n) else bI p n
theorem bt_bI (p : Nat → Bool) : ∀ (n : Nat), n ≤ 64 → ∀ i, bt (bI p n) i = (decide (i < n) && p i)
  | 0, _, i => by rw [bI, bt_0]; simp
  | n + 1, h, i => by
    rw [bI]
    by_cases hp : p n
    · rw [if_pos hp, bt_or, bt_bI p n (by omega), bt_one (by omega)]
      by_cases h1 : i = n
      · subst h1; simp [hp]
      · have : (i < n + 1) = (i < n) := by apply propext; omega
        simp [h1, this]
    · rw [if_neg hp, bt_bI p n (by omega)]
      by_cases h1 : i = n
      · subst h1; simp at hp; simp [hp]
      · have : (i < n + 1) = (i < n) := by apply propext; omega
        simp [this]
/-- how many -/
def cnt (p : Nat → Bool) : Nat → Nat
  | 0 => 0
  | n + 1 => cnt p n + (if p n then 1 else 0)
theorem cnt_le (p : Nat → Bool) : ∀ n, cnt p n ≤ n
  | 0 => Nat.le_refl 0
  | n + 1 => by rw [cnt]; have := cnt_le p n; split <;> omega
theorem cnt_congr {p q : Nat → Bool} : ∀ {n : Nat}, (∀ i, i < n → p i = q i) → cnt p n = cnt q n
  | 0, _ => rfl
  | n + 1, h => by rw [cnt, cnt, cnt_congr (fun i hi => h i (by omega)), h n (by omega)]
theorem bI_congr {p q : Nat → Bool} : ∀ {n : Nat}, (∀ i, i < n → p i = q i) → bI p n = bI q n
  | 0, _ => rfl
  | n + 1, h => by rw [bI, bI, bI_congr (fun i hi => h i (by omega)), h n (by omega)]
theorem cnt_ext {p q : Nat → Bool} {n m : Nat} (hnm : n ≤ m) (h : ∀ i, i < m → p i = (decide (i < n) && q i)) : cnt p m = cnt q n := by
  obtain ⟨d, rfl⟩ : ∃ d, m = n + d := ⟨m - n, by omega⟩
  induction d with
  | zero => exact cnt_congr (fun i hi => by rw [h i hi]; simp [show i < n from hi])
  | succ d ih =>
    show cnt p (n + d) + (if p (n + d) then 1 else 0) = _
    rw [ih (by omega) (fun i hi => h i (by omega)), h (n + d) (by omega)]
    have : ¬ n + d < n := by omega
    simp [this]
theorem bI_of {x : Int64} {p : Nat → Bool} {n : Nat} (hn : n ≤ 64) (h : ∀ i, i < 64 → bt x i = (decide (i < n) && p i)) : x = bI p n := bt_ext (fun i hi => by rw [h i hi, bt_bI p n hn])
theorem bI_eq {p q : Nat → Bool} {n : Nat} (hn : n ≤ 64) : bI p n = bI q n ↔ ∀ i, i < n → p i = q i := by
  constructor
  · intro h i hi
    have h1 := bt_bI p n hn i
    rw [h, bt_bI q n hn i] at h1
    simpa [hi] using h1.symm
  · exact bI_congr
theorem xcmp_0 {x y : Int64} : xcmp x y = nI 0 ↔ x = y := by
  unfold xcmp lg_cmp
  by_cases h1 : x > y
  · rw [if_pos h1]
    refine ⟨fun h => absurd h (by decide), fun h => ?_⟩
    subst h
    exact absurd h1 (by simp [Int64.lt_iff_toInt_lt])
  · rw [if_neg h1]
    by_cases h2 : x = y
    · rw [if_pos h2]; exact ⟨fun _ => h2, fun _ => rfl⟩
    · rw [if_neg h2]; exact ⟨fun h => absurd h (by decide), fun h => absurd h h2⟩
theorem xcmp_gt {x y : Int64} : nI 0 < xcmp x y ↔ y < x := by
  unfold xcmp lg_cmp
  by_cases h1 : x > y
  · rw [if_pos h1]
    exact ⟨fun _ => h1, fun _ => by decide⟩
  · rw [if_neg h1]
    by_cases h2 : x = y
    · rw [if_pos h2]; exact ⟨fun h => absurd h (by decide), fun h => absurd h h1⟩
    · rw [if_neg h2]; exact ⟨fun h => absurd h (by decide), fun h => absurd h h1⟩
/-- within -/
def wi (v lo hi : Int32) : Bool := decide (lo ≤ v ∧ v ≤ hi)
theorem nlt_le {a b : Int32} : ¬ a < b ↔ b ≤ a := by rw [Int32.lt_iff_toInt_lt, Int32.le_iff_toInt_le]; omega
theorem wi_step {v lo hi : Int32} : (if v < lo then some (nI 0) else if hi < v then some (nI 0) else some (nI 1)) = some (b2 (wi v lo hi)) := by
  unfold wi
  by_cases h1 : v < lo
  · have : ¬ lo ≤ v := fun h => (nlt_le.mpr h) h1
    simp [h1, this, b2]
  · by_cases h2 : hi < v
    · have : ¬ v ≤ hi := fun h => (nlt_le.mpr h) h2
      simp [h1, h2, this, b2]
    · simp [h1, h2, nlt_le.mp h1, nlt_le.mp h2, b2]
theorem X6_isWithin_eq (v lo hi : Int32) : f_X6_isWithin v lo hi = some (b2 (wi v lo hi)) := wi_step
/-- what within says of a small number -/
theorem wi_nI {v : Int32} {a n : Nat} (hn : n < 2 ^ 31) (ha : a < 2 ^ 31) : wi v (nI a) (nI n) = true ↔ ∃ j, a ≤ j ∧ j ≤ n ∧ v = nI j := by
  unfold wi
  rw [decide_eq_true_iff]
  constructor
  · intro ⟨h1, h2⟩
    have h0 : ¬ v < 0 := by
      rw [nlt_le]
      rw [Int32.le_iff_toInt_le] at h1 ⊢
      rw [nI_toInt ha] at h1
      rw [Int32.toInt_zero]; omega
    obtain ⟨j, hj, rfl⟩ := nI_of h0
    exact ⟨j, (nI_leI ha hj).mp h1, (nI_leI hj hn).mp h2, rfl⟩
  · rintro ⟨j, h1, h2, rfl⟩
    exact ⟨(nI_leI ha (by omega)).mpr h1, (nI_leI (by omega) hn).mpr h2⟩
/-- within 0 and one less than n -/
theorem wi_lt {v : Int32} {n : Nat} (hn : n < 2 ^ 31) : wi v (nI 0) (nI n - nI 1) = true ↔ ∃ j, j < n ∧ v = nI j := by
  cases n with
  | zero =>
    rw [nI_neg1]
    unfold wi
    rw [decide_eq_true_iff]
    constructor
    · intro ⟨h1, h2⟩
      have e1 : (nI 0).toInt = 0 := by decide
      have e2 : (-1 : Int32).toInt = -1 := by decide
      rw [Int32.le_iff_toInt_le] at h1 h2
      omega
    · rintro ⟨j, h, -⟩; omega
  | succ n =>
    rw [nI_sub1, wi_nI (by omega) (by omega)]
    constructor
    · rintro ⟨j, -, h, rfl⟩; exact ⟨j, by omega, rfl⟩
    · rintro ⟨j, h, rfl⟩; exact ⟨j, by omega, by omega, rfl⟩
theorem xrem_nI {a d : Nat} (ha : a < 2 ^ 31) (h0 : 0 < d) (hd : d < 2 ^ 31) : xrem (nI a) (nI d) = nI (a % d) := pk_rem ha h0 hd
theorem nI_e0 {n : Nat} (h : n < 2 ^ 31) : nI n = nI 0 ↔ n = 0 := nI_eq h (by omega)
theorem l_bit {x : Int64} {i : Nat} (hi : i < 64) : xlushr x (nI i) &&& lN 1 = lN 0 ↔ bt x i = false := by
  constructor
  · intro h
    have h1 : bt (xlushr x (nI i) &&& lN 1) 0 = false := by rw [h]; exact bt_0 0
    rw [bt_and, bt_ushr x hi, bt_lN 0 (by decide)] at h1
    simpa using h1
  · intro h
    apply bt_ext
    intro j hj
    rw [bt_and, bt_ushr x hi, bt_lN j hj, bt_0]
    cases j with
    | zero => simp [h]
    | succ j => simp [Nat.testBit_succ]
theorem X6_isIn_eq {x : Int64} {i : Nat} (hi : i < 64) : f_X6_isIn x (nI i) = some (b2 (bt x i)) := by
  unfold f_X6_isIn
  by_cases h : bt x i
  · rw [if_neg (by rw [xcmp_0, l_bit hi]; simp [h]), h]; rfl
  · rw [if_pos (by rw [xcmp_0, l_bit hi]; simpa using h)]
    simp at h; rw [h]; rfl
theorem bt_sshr (x : Int64) {k : Nat} (hk : k < 64) (i : Nat) (hi : k + i < 64) : bt (xlshr x (nI k)) i = bt x (k + i) := by
  unfold bt xlshr
  rw [wb_c k hk, Int64.toBitVec_shiftRight, wb_tb, wb_sm k hk]
  rw [BitVec.sshiftRight_eq', BitVec.getLsbD_sshiftRight, BitVec.toNat_ofNat, Nat.mod_eq_of_lt (by omega)]
  simp [show i < 64 by omega, hi]
theorem l_sbit {x : Int64} {i : Nat} (hi : i < 64) : xlshr x (nI i) &&& lN 1 = lN 1 ↔ bt x i = true := by
  constructor
  · intro h
    have h1 : bt (xlshr x (nI i) &&& lN 1) 0 = true := by rw [h, bt_lN 0 (by decide)]; decide
    rw [bt_and, bt_sshr x hi 0 (by omega), bt_lN 0 (by decide)] at h1
    simpa using h1
  · intro h
    apply bt_ext
    intro j hj
    rw [bt_and, bt_lN j hj]
    cases j with
    | zero => rw [bt_sshr x hi 0 (by omega)]; simp [h]
    | succ j => simp [Nat.testBit_succ]
theorem X7_has_eq {x : Int64} {i : Nat} (hi : i < 64) : f_X7_has x (nI i) = some (b2 (bt x i)) := by
  unfold f_X7_has
  by_cases h : bt x i
  · rw [if_pos (by rw [xcmp_0, l_sbit hi]; exact h), h]; rfl
  · rw [if_neg (by rw [xcmp_0, l_sbit hi]; exact h)]
    simp at h; rw [h]; rfl
theorem nI_subsub (t a b : Nat) : nI t - nI a - nI b = nI t - nI (a + b) := by
  rw [← nI_add]
  apply Int32.toBitVec_inj.mp
  simp only [Int32.toBitVec_sub, Int32.toBitVec_add]
  apply BitVec.eq_of_toNat_eq
  simp only [BitVec.toNat_sub, BitVec.toNat_add]
  have h1 := (nI t).toBitVec.isLt
  have h2 := (nI a).toBitVec.isLt
  have h3 := (nI b).toBitVec.isLt
  omega
theorem nI_neg {t a : Nat} (ha : a < 2 ^ 30) (h : t < a) : nI t - nI a < nI 0 := pk_sneg ha h
theorem nI_nneg {t : Nat} (h : t < 2 ^ 31) : ¬ nI t < nI 0 := nI_pos h
theorem nI_dif {t a : Nat} (h : a ≤ t) : nI t - nI a = nI (t - a) := pk_sub h
/-- a loop that asks whether all hold -/
theorem xl_all {S R : Type} {body : S → Option (R ⊕ S)} (st : Nat → S) (p : Nat → Bool) (N : Nat) {v0 v1 : R} {s0 : S} (hs : s0 = st 0) (hN : N < 20000) (h1 : ∀ i, i < N → p i = true → body (st i) = some (.inr (st (i + 1)))) (h0 : ∀ i, i < N → p i = false → body (st i) = some (.inl v0)) (h2 : body (st N) = some (.inl v1)) : xloop body xN s0 = some (if ∀ i, i < N → p i = true then v1 else v0) := by
  by_cases ha : ∀ i, i < N → p i = true
  · rw [if_pos ha]
    exact xl_up st N hs hN (fun i hi => h1 i hi (ha i hi)) h2
  · rw [if_neg ha]
    have hex : ∃ k, k < N ∧ p k = false := by
      refine Classical.byContradiction fun hn => ha fun i hi => ?_
      cases hp : p i with
      | true => rfl
      | false => exact absurd ⟨i, hi, hp⟩ hn
    obtain ⟨k, ⟨hk, hp⟩, hl⟩ := pk_least (fun k => k < N ∧ p k = false) hex
    refine xl_up st k hs (by omega) (fun i hi => h1 i (by omega) ?_) (h0 k hk hp)
    cases hq : p i with
    | true => rfl
    | false => exact absurd ⟨by omega, hq⟩ (hl i hi)
/-- a loop that looks for the first -/
theorem xl_find {S R : Type} {body : S → Option (R ⊕ S)} (st : Nat → S) (p : Nat → Bool) (N : Nat) (v : Nat → R) {v1 : R} {s0 : S} (hs : s0 = st 0) (hN : N < 20000) (h1 : ∀ i, i < N → p i = false → body (st i) = some (.inr (st (i + 1)))) (h0 : ∀ i, i < N → p i = true → body (st i) = some (.inl (v i))) (h2 : body (st N) = some (.inl v1)) : (∃ k, k < N ∧ p k = true ∧ (∀ j, j < k → p j = false) ∧ xloop body xN s0 = some (v k)) ∨ ((∀ j, j < N → p j = false) ∧ xloop body xN s0 = some v1) := by
  by_cases ha : ∃ k, k < N ∧ p k = true
  · obtain ⟨k, ⟨hk, hp⟩, hl⟩ := pk_least (fun k => k < N ∧ p k = true) ha
    have hf : ∀ j, j < k → p j = false := fun j hj => by
      cases hq : p j with
      | false => rfl
      | true => exact absurd ⟨by omega, hq⟩ (hl j hj)
    exact Or.inl ⟨k, hk, hp, hf, xl_up st k hs (by omega) (fun i hi => h1 i (by omega) (hf i hi)) (h0 k hk hp)⟩
  · have hf : ∀ j, j < N → p j = false := fun j hj => by
      cases hq : p j with
      | false => rfl
      | true => exact absurd ⟨j, hj, hq⟩ ha
    exact Or.inr ⟨hf, xl_up st N hs hN (fun i hi => h1 i hi (hf i hi)) h2⟩
