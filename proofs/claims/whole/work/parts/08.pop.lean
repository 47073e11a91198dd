-- PURE: Long.bitCount counts the bits
def q1 (M n : Nat) : Nat := n - ((n / 2) &&& M)
def q2 (M n : Nat) : Nat := (n &&& M) + ((n / 4) &&& M)
def q3 (M n : Nat) : Nat := (n + n / 16) &&& M
def mk (m : Nat) : Nat → Nat
  | 0 => 0
  | w + 1 => 256 * mk m w + m
theorem and_spl (a M m : Nat) (hm : m < 256) : a &&& (256 * M + m) = 256 * ((a / 256) &&& M) + ((a % 256) &&& m) := by
  have hb : (a % 256) &&& m < 256 := Nat.lt_of_le_of_lt Nat.and_le_right hm
  apply Nat.eq_of_testBit_eq
  intro i
  have e1 := Nat.testBit_two_pow_mul_add (i := 8) M (b := m) hm i
  have e2 := Nat.testBit_two_pow_mul_add (i := 8) ((a / 256) &&& M) (b := (a % 256) &&& m) hb i
  rw [Nat.testBit_and, show 256 * M + m = 2 ^ 8 * M + m from rfl, e1, show 256 * ((a / 256) &&& M) + ((a % 256) &&& m) = 2 ^ 8 * ((a / 256) &&& M) + ((a % 256) &&& m) from rfl, e2]
  by_cases h : i < 8
  · rw [if_pos h, if_pos h, Nat.testBit_and, show a % 256 = a % 2 ^ 8 from rfl, Nat.testBit_mod_two_pow]; simp [h]
  · rw [if_neg h, if_neg h, Nat.testBit_and, show a / 256 = a / 2 ^ 8 from rfl, Nat.testBit_div_two_pow, show i - 8 + 8 = i by omega]
theorem by1 : ∀ b, b < 2 → ∀ y, y < 128 → (128 * b + y) &&& 0x55 = y &&& 0x55 := by decide +kernel
theorem by2 : ∀ b, b < 4 → ∀ y, y < 64 → (64 * b + y) &&& 0x33 = y &&& 0x33 := by decide +kernel
theorem q1_spl (M h l : Nat) (hl : l < 256) : q1 (256 * M + 0x55) (256 * h + l) = 256 * q1 M h + q1 0x55 l := by
  unfold q1
  rw [and_spl _ _ _ (by decide)]
  have e1 : (256 * h + l) / 2 / 256 = h / 2 := by omega
  have e2 : (256 * h + l) / 2 % 256 = 128 * (h % 2) + l / 2 := by omega
  rw [e1, e2, by1 _ (by omega) _ (by omega)]
  have h1 : (h / 2 &&& M) ≤ h / 2 := Nat.and_le_left
  have h2 : (l / 2 &&& 0x55) ≤ l / 2 := Nat.and_le_left
  omega
theorem q2_spl (M h l : Nat) (hl : l < 256) : q2 (256 * M + 0x33) (256 * h + l) = 256 * q2 M h + q2 0x33 l := by
  unfold q2
  rw [and_spl _ _ _ (by decide), and_spl _ _ _ (by decide)]
  have e1 : (256 * h + l) / 4 / 256 = h / 4 := by omega
  have e2 : (256 * h + l) / 4 % 256 = 64 * (h % 4) + l / 4 := by omega
  have e3 : (256 * h + l) / 256 = h := by omega
  have e4 : (256 * h + l) % 256 = l := by omega
  rw [e1, e2, e3, e4, by2 _ (by omega) _ (by omega)]
  omega
theorem q3_spl (M h l : Nat) (hl : l ≤ 102) (hh : h % 16 ≤ 6) : q3 (256 * M + 0x0f) (256 * h + l) = 256 * q3 M h + q3 0x0f l := by
  unfold q3
  rw [and_spl _ _ _ (by decide)]
  have e1 : (256 * h + l + (256 * h + l) / 16) / 256 = h + h / 16 := by omega
  have e2 : ((256 * h + l + (256 * h + l) / 16) % 256) % 16 = (l + l / 16) % 16 := by omega
  have e3 : ∀ x : Nat, x &&& 0x0f = x % 16 := fun x => Nat.and_two_pow_sub_one_eq_mod x 4
  rw [e1, e3, e3, e2]
def g1 (l : Nat) : Nat := q3 0x0f (q2 0x33 (q1 0x55 l))
theorem byt : ∀ l, l < 256 → q1 0x55 l < 256 ∧ q2 0x33 (q1 0x55 l) ≤ 102 ∧ q2 0x33 (q1 0x55 l) % 16 ≤ 6 ∧ g1 l = cnt l.testBit 8 := by decide +kernel
theorem mk_s (m w : Nat) : mk m (w + 1) = 256 * mk m w + m := rfl
theorem gw (w : Nat) : ∀ n, n < 256 ^ w → q2 (mk 0x33 w) (q1 (mk 0x55 w) n) % 16 ≤ 6 ∧ ∀ l, l < 256 → q3 (mk 0x0f (w + 1)) (q2 (mk 0x33 (w + 1)) (q1 (mk 0x55 (w + 1)) (256 * n + l))) = 256 * q3 (mk 0x0f w) (q2 (mk 0x33 w) (q1 (mk 0x55 w) n)) + g1 l ∧ q2 (mk 0x33 (w + 1)) (q1 (mk 0x55 (w + 1)) (256 * n + l)) % 16 ≤ 6 := by
  induction w with
  | zero =>
    intro n hn
    have : n = 0 := by simpa using hn
    subst this
    have z : q2 (mk 0x33 0) (q1 (mk 0x55 0) 0) % 16 ≤ 6 := by decide
    refine ⟨z, fun l hl => ?_⟩
    obtain ⟨b1, b2, b3, b4⟩ := byt l hl
    rw [mk_s, mk_s, mk_s, q1_spl _ _ _ hl, q2_spl _ _ _ b1, q3_spl _ _ _ b2 z]
    exact ⟨rfl, by omega⟩
  | succ w ih =>
    intro n hn
    have hw : n / 256 < 256 ^ w := by rw [Nat.pow_succ] at hn; omega
    obtain ⟨-, i2⟩ := ih (n / 256) hw
    have z := (i2 (n % 256) (Nat.mod_lt _ (by decide))).2
    rw [show 256 * (n / 256) + n % 256 = n by omega] at z
    refine ⟨z, fun l hl => ?_⟩
    obtain ⟨b1, b2, b3, b4⟩ := byt l hl
    rw [mk_s 0x0f (w + 1), mk_s 0x33 (w + 1), mk_s 0x55 (w + 1), q1_spl _ _ _ hl, q2_spl _ _ _ b1, q3_spl _ _ _ b2 z]
    exact ⟨rfl, by omega⟩
theorem cnt_add (p : Nat → Bool) (a : Nat) : ∀ b, cnt p (a + b) = cnt p a + cnt (fun i => p (a + i)) b
  | 0 => rfl
  | b + 1 => by
    show cnt p (a + b) + (if p (a + b) then 1 else 0) = cnt p a + (cnt (fun i => p (a + i)) b + (if p (a + b) then 1 else 0))
    rw [cnt_add p a b]; omega
theorem cnt_spl (h l m : Nat) (hl : l < 256) : cnt (256 * h + l).testBit (8 + m) = cnt l.testBit 8 + cnt h.testBit m := by
  rw [cnt_add]
  congr 1
  · apply cnt_congr
    intro i hi
    rw [show 256 * h + l = 2 ^ 8 * h + l from rfl, Nat.testBit_two_pow_mul_add _ hl, if_pos hi]
  · apply cnt_congr
    intro i hi
    rw [show 256 * h + l = 2 ^ 8 * h + l from rfl, Nat.testBit_two_pow_mul_add _ hl, if_neg (by omega), show 8 + i - 8 = i by omega]
def Gf (w n : Nat) : Nat := q3 (mk 0x0f w) (q2 (mk 0x33 w) (q1 (mk 0x55 w) n))
theorem Gf_s (w n : Nat) (hn : n < 256 ^ (w + 1)) : Gf (w + 1) n = 256 * Gf w (n / 256) + g1 (n % 256) ∧ cnt n.testBit (8 * (w + 1)) = g1 (n % 256) + cnt (n / 256).testBit (8 * w) ∧ n / 256 < 256 ^ w := by
  have hw : n / 256 < 256 ^ w := by rw [Nat.pow_succ] at hn; omega
  have h1 := ((gw w (n / 256) hw).2 (n % 256) (Nat.mod_lt _ (by decide))).1
  have h2 := cnt_spl (n / 256) (n % 256) (8 * w) (Nat.mod_lt _ (by decide))
  rw [show 256 * (n / 256) + n % 256 = n by omega] at h1 h2
  rw [← (byt (n % 256) (Nat.mod_lt _ (by decide))).2.2.2, show 8 + 8 * w = 8 * (w + 1) by omega] at h2
  exact ⟨h1, h2, hw⟩
theorem g1_le (l : Nat) (h : l < 256) : g1 l ≤ 8 := by rw [(byt l h).2.2.2]; exact cnt_le _ 8
def q6 (v : Nat) : Nat := v + v / 4294967296
def q5 (v : Nat) : Nat := v + v / 65536
def q4 (v : Nat) : Nat := v + v / 256
theorem dvs {a m b v : Nat} (ha : a < m) (hv : v = a + m * b) : v / m = b := by
  subst hv
  rw [Nat.add_mul_div_left _ _ (by omega), Nat.div_eq_of_lt ha, Nat.zero_add]
theorem popSum (c0 c1 c2 c3 c4 c5 c6 c7 : Nat) (m0 : c0 ≤ 8) (m1 : c1 ≤ 8) (m2 : c2 ≤ 8) (m3 : c3 ≤ 8) (m4 : c4 ≤ 8) (m5 : c5 ≤ 8) (m6 : c6 ≤ 8) (m7 : c7 ≤ 8) :
    q6 (q5 (q4 (256 * (256 * (256 * (256 * (256 * (256 * (256 * (256 * 0 + c7) + c6) + c5) + c4) + c3) + c2) + c1) + c0))) % 128 = c0 + (c1 + (c2 + (c3 + (c4 + (c5 + (c6 + (c7 + 0))))))) ∧ 256 * (256 * (256 * (256 * (256 * (256 * (256 * (256 * 0 + c7) + c6) + c5) + c4) + c3) + c2) + c1) + c0 ≤ 0x0808080808080808 := by
  refine ⟨?_, by omega⟩
  obtain ⟨x4, h4⟩ : ∃ x, x = c4 + 256 * c5 + 65536 * c6 + 16777216 * c7 := ⟨_, rfl⟩
  obtain ⟨v, hv⟩ : ∃ v, v = 256 * (256 * (256 * (256 * (256 * (256 * (256 * (256 * 0 + c7) + c6) + c5) + c4) + c3) + c2) + c1) + c0 := ⟨_, rfl⟩
  rw [← hv]
  have d4 : v / 256 = c1 + 256 * c2 + 65536 * c3 + 16777216 * c4 + 4294967296 * c5 + 1099511627776 * c6 + 281474976710656 * c7 := dvs (a := c0) (by omega) (by omega)
  obtain ⟨w, hw⟩ : ∃ w, w = q4 v := ⟨_, rfl⟩
  have e4 : w = c0 + c1 + 256 * (c1 + c2) + 65536 * (c2 + c3) + 16777216 * (c3 + c4) + 4294967296 * (c4 + c5) + 1099511627776 * (c5 + c6) + 281474976710656 * (c6 + c7) + 72057594037927936 * c7 := by rw [hw]; unfold q4; rw [d4]; omega
  rw [← hw]
  clear hw d4 hv h4
  have d5 : w / 65536 = c2 + c3 + 256 * (c3 + c4) + 65536 * (c4 + c5) + 16777216 * (c5 + c6) + 4294967296 * (c6 + c7) + 1099511627776 * c7 := dvs (a := c0 + c1 + 256 * (c1 + c2)) (by omega) (by omega)
  obtain ⟨z, hz⟩ : ∃ z, z = q5 w := ⟨_, rfl⟩
  have e5 : z = c0 + c1 + c2 + c3 + 256 * (c1 + c2 + c3 + c4) + 65536 * (c2 + c3 + c4 + c5) + 16777216 * (c3 + c4 + c5 + c6) + 4294967296 * (c4 + c5 + c6 + c7) + 1099511627776 * (c5 + c6 + c7) + 281474976710656 * (c6 + c7) + 72057594037927936 * c7 := by rw [hz]; unfold q5; rw [d5]; omega
  rw [← hz]
  clear hz d5 e4
  have d6 : z / 4294967296 = c4 + c5 + c6 + c7 + 256 * (c5 + c6 + c7) + 65536 * (c6 + c7) + 16777216 * c7 := dvs (a := c0 + c1 + c2 + c3 + 256 * (c1 + c2 + c3 + c4) + 65536 * (c2 + c3 + c4 + c5) + 16777216 * (c3 + c4 + c5 + c6)) (by omega) (by omega)
  unfold q6
  rw [d6, e5]
  omega
theorem popN (n : Nat) (hn : n < 2 ^ 64) : q6 (q5 (q4 (Gf 8 n))) % 128 = cnt n.testBit 64 ∧ Gf 8 n ≤ 0x0808080808080808 := by
  obtain ⟨a0, b0, l1⟩ := Gf_s 7 n hn
  obtain ⟨a1, b1, l2⟩ := Gf_s 6 _ l1
  obtain ⟨a2, b2, l3⟩ := Gf_s 5 _ l2
  obtain ⟨a3, b3, l4⟩ := Gf_s 4 _ l3
  obtain ⟨a4, b4, l5⟩ := Gf_s 3 _ l4
  obtain ⟨a5, b5, l6⟩ := Gf_s 2 _ l5
  obtain ⟨a6, b6, l7⟩ := Gf_s 1 _ l6
  obtain ⟨a7, b7, l8⟩ := Gf_s 0 _ l7
  have z : Gf 0 (n / 256 / 256 / 256 / 256 / 256 / 256 / 256 / 256) = 0 := by simp [Gf, mk, q3]
  have z2 : cnt (n / 256 / 256 / 256 / 256 / 256 / 256 / 256 / 256).testBit (8 * 0) = 0 := rfl
  have m : ∀ x : Nat, g1 (x % 256) ≤ 8 := fun x => g1_le _ (Nat.mod_lt _ (by decide))
  have m0 := m n
  have m1 := m (n / 256)
  have m2 := m (n / 256 / 256)
  have m3 := m (n / 256 / 256 / 256)
  have m4 := m (n / 256 / 256 / 256 / 256)
  have m5 := m (n / 256 / 256 / 256 / 256 / 256)
  have m6 := m (n / 256 / 256 / 256 / 256 / 256 / 256)
  have m7 := m (n / 256 / 256 / 256 / 256 / 256 / 256 / 256)
  show q6 (q5 (q4 (Gf (7 + 1) n))) % 128 = cnt n.testBit (8 * (7 + 1)) ∧ Gf (7 + 1) n ≤ 0x0808080808080808
  rw [b0, b1, b2, b3, b4, b5, b6, b7, z2, a0, a1, a2, a3, a4, a5, a6, a7, z]
  generalize g1 (n % 256) = c0 at m0 ⊢
  generalize g1 (n / 256 % 256) = c1 at m1 ⊢
  generalize g1 (n / 256 / 256 % 256) = c2 at m2 ⊢
  generalize g1 (n / 256 / 256 / 256 % 256) = c3 at m3 ⊢
  generalize g1 (n / 256 / 256 / 256 / 256 % 256) = c4 at m4 ⊢
  generalize g1 (n / 256 / 256 / 256 / 256 / 256 % 256) = c5 at m5 ⊢
  generalize g1 (n / 256 / 256 / 256 / 256 / 256 / 256 % 256) = c6 at m6 ⊢
  generalize g1 (n / 256 / 256 / 256 / 256 / 256 / 256 / 256 % 256) = c7 at m7 ⊢
  clear a0 a1 a2 a3 a4 a5 a6 a7 b0 b1 b2 b3 b4 b5 b6 b7 z z2 l1 l2 l3 l4 l5 l6 l7 l8 m hn
  exact popSum c0 c1 c2 c3 c4 c5 c6 c7 m0 m1 m2 m3 m4 m5 m6 m7
theorem xlushr_lN {n k : Nat} (hn : n < 2 ^ 64) (hk : k < 64) : xlushr (lN n) (nI k) = lN (n / 2 ^ k) := wb_shr hn hk
def r1 (x : Int64) : Int64 := x - ((xlushr x (nI 1)) &&& (lN 6148914691236517205))
def r2 (x : Int64) : Int64 := (x &&& (lN 3689348814741910323)) + ((xlushr x (nI 2)) &&& (lN 3689348814741910323))
def r3 (x : Int64) : Int64 := (x + (xlushr x (nI 4))) &&& (lN 1085102592571150095)
def r4 (x : Int64) : Int64 := x + (xlushr x (nI 8))
def r5 (x : Int64) : Int64 := x + (xlushr x (nI 16))
def r6 (x : Int64) : Int64 := x + (xlushr x (nI 32))
theorem bitCount_r (x : Int64) : f_J13_bitCount_95d88 x = some ((Int64.toInt32 (r6 (r5 (r4 (r3 (r2 (r1 x))))))) &&& (nI 127)) := rfl
theorem bitCount_eq (x : Int64) : f_J13_bitCount_95d88 x = some (nI (cnt (bt x) 64)) := by
  obtain ⟨n, hn, rfl⟩ := wb_of x
  have e1 : r1 (lN n) = lN (q1 (mk 0x55 8) n) := by
    unfold r1 q1
    rw [xlushr_lN hn (by decide), wb_and (by omega) (by decide), lN_sub (Nat.le_trans Nat.and_le_left (by omega))]
    rfl
  have b1 : q1 (mk 0x55 8) n < 2 ^ 64 := Nat.lt_of_le_of_lt (Nat.sub_le _ _) hn
  have e2 : r2 (lN (q1 (mk 0x55 8) n)) = lN (q2 (mk 0x33 8) (q1 (mk 0x55 8) n)) := by
    unfold r2 q2
    rw [xlushr_lN b1 (by decide), wb_and b1 (by decide), wb_and (by omega) (by decide), lN_add]
    rfl
  have b2 : q2 (mk 0x33 8) (q1 (mk 0x55 8) n) ≤ 2 * 3689348814741910323 := by
    unfold q2
    have h1 : (q1 (mk 0x55 8) n &&& mk 0x33 8) ≤ 3689348814741910323 := Nat.and_le_right
    have h2 : (q1 (mk 0x55 8) n / 4 &&& mk 0x33 8) ≤ 3689348814741910323 := Nat.and_le_right
    omega
  have e3 : r3 (lN (q2 (mk 0x33 8) (q1 (mk 0x55 8) n))) = lN (Gf 8 n) := by
    unfold r3 Gf q3
    rw [xlushr_lN (by omega) (by decide), lN_add, wb_and (by omega) (by decide)]
    rfl
  obtain ⟨p1, p2⟩ := popN n hn
  have e4 : r4 (lN (Gf 8 n)) = lN (q4 (Gf 8 n)) := by unfold r4 q4; rw [xlushr_lN (by omega) (by decide), lN_add]
  have b4 : q4 (Gf 8 n) < 2 ^ 62 := by unfold q4; omega
  have e5 : r5 (lN (q4 (Gf 8 n))) = lN (q5 (q4 (Gf 8 n))) := by unfold r5 q5; rw [xlushr_lN (by omega) (by decide), lN_add]
  have b5 : q5 (q4 (Gf 8 n)) < 2 ^ 63 := by unfold q5; omega
  have e6 : r6 (lN (q5 (q4 (Gf 8 n)))) = lN (q6 (q5 (q4 (Gf 8 n)))) := by unfold r6 q6; rw [xlushr_lN (by omega) (by decide), lN_add]
  rw [bitCount_r, e1, e2, e3, e4, e5, e6, lN_i, pk_and _ 7 (by decide)]
  have ec : cnt (bt (lN n)) 64 = cnt n.testBit 64 := cnt_congr (fun i hi => bt_lN i hi)
  rw [ec, ← p1]
  congr 2
  show (BitVec.ofNat 32 (q6 (q5 (q4 (Gf 8 n))))).toNat % 2 ^ 7 = _
  rw [BitVec.toNat_ofNat]
  omega
