-- THE LAW: the start (written by gen_law.py)
def stT (i : Nat) : Term := .string RX1 ([39, 48, 53, 58, 63, 68, 73].getD i 0)
theorem st_ex : ∀ i, i < 7 → Cond.exactly (stT i) "java/lang/String" ∈ flatC (Cond.and given_1 narrow_1) := by decide +kernel
theorem st_co : ∀ i, i < 7 → Cond.eq (.field (stT i) "java/lang/String" "coder" "B") (.int 0) ∈ flatC (Cond.and given_1 narrow_1) := by decide +kernel
theorem st_ar : ∀ i, i < 7 → Cond.arrayOf (.field (stT i) "java/lang/String" "value" "[B") .byte ∈ flatC (Cond.and given_1 narrow_1) := by decide +kernel
theorem st_le : ∀ i, i < 7 → Cond.eq (.length (.field (stT i) "java/lang/String" "value" "[B")) (.int (Int32.ofNat (xLen.getD i 0))) ∈ flatC (Cond.and given_1 narrow_1) := by decide +kernel
theorem st_el : ∀ i, i < 7 → ∀ j, j < xLen.getD i 0 → Cond.eq (.elem (.field (stT i) "java/lang/String" "value" "[B") (.int (Int32.ofNat j))) (.int ((xByt.getD i []).getD j 0)) ∈ flatC (Cond.and given_1 narrow_1) := by decide +kernel
theorem st_ne : ∀ i, i < 7 → ∀ j, j < 7 → i ≠ j → (Cond.not (Cond.eq (stT i) (stT j)) ∈ flatC (Cond.and given_1 narrow_1) ∨ Cond.not (Cond.eq (stT j) (stT i)) ∈ flatC (Cond.and given_1 narrow_1)) := by decide +kernel
theorem st_ln : ∀ i, i < 7 → xLen.getD i 0 < 2 ^ 31 := by decide
theorem st_eq : ∀ q ∈ xStr, q.2.2.2 < 7 ∧ Cond.stringRef q.1 q.2.1 q.2.2.1 ∈ lw_tbl ∧ (stT q.2.2.2 = Term.string q.1 q.2.1 ∨ Cond.eq (stT q.2.2.2) (Term.string q.1 q.2.1) ∈ flatC (Cond.and given_1 narrow_1)) := by decide +kernel
theorem st_c1 : Cond.eq (.static "java/lang/String" "COMPACT_STRINGS" "Z") (.int 1) ∈ flatC (Cond.and given_1 narrow_1) := by decide +kernel
theorem st_c2 : Cond.isRef (.static "jdk/internal/util/Preconditions" "SIOOBE_FORMATTER" "Ljava/util/function/BiFunction;") ∈ flatC (Cond.and given_1 narrow_1) := by decide +kernel
theorem st_l1 : Cond.laysStatic "java/lang/String" "COMPACT_STRINGS" "Z" ∈ lw_tbl := by decide +kernel
theorem st_l2 : Cond.laysStatic "jdk/internal/util/Preconditions" "SIOOBE_FORMATTER" "Ljava/util/function/BiFunction;" ∈ lw_tbl := by decide +kernel
theorem st_i1 : Cond.initialized "java/lang/String" ∈ lw_tbl := by decide +kernel
theorem st_i2 : Cond.initialized "jdk/internal/util/Preconditions" ∈ lw_tbl := by decide +kernel
theorem st_arr {s : State} {args : Array Value} {ty : FieldType} (h : (Cond.arrayClass ty).before args s = true) (hty : ∀ C, ty ≠ .object C) : ∃ cA : ClassId, ArrOfT s cA ty ∧ va_RA s cA ty := by
  obtain ⟨cA, k, comp, h1, h2, h3⟩ := Cond.arrayClass_spec (args := args) (first := s) (o := none) (s := s) (idx := []) h
  refine ⟨cA, fun n z => ⟨fun k h => (by cases h), k, h2, comp, h3⟩, ?_⟩
  cases ty with
  | object C => exact absurd rfl (hty C)
  | _ => exact h1
theorem st_K {s : State} {args : Array Value} (hts : ∀ w ∈ lw_tbl, w.before args s = true) : ∃ X : va_G × ClassId × ClassId × ClassId, ∀ Y : (Nat → Nat) × (Nat → Nat), xK (X.1, X.2.1, X.2.2.1, X.2.2.2, Y.1, Y.2) s := by
  have hxB : ∀ w ∈ xB, w.before args s = true := fun w h => hts w (xB_tbl h)
  obtain ⟨C0, S0, k0⟩ := u_known (N := 8) hxB inb_X0 (hxB _ mw_14)
  obtain ⟨C1, S1, k1⟩ := u_known (N := 3) hxB inb_X1 (hxB _ mw_19)
  obtain ⟨C2, S2, k2⟩ := u_known (N := 3) hxB inb_X2 (hxB _ mw_32)
  obtain ⟨C3, S3, k3⟩ := u_known (N := 3) hxB inb_X3 (hxB _ mw_36)
  obtain ⟨C4, S4, k4⟩ := u_known (N := 3) hxB inb_X4 (hxB _ mw_23)
  obtain ⟨C5, S5, k5⟩ := u_known (N := 5) hxB inb_X5 (hxB _ mw_56)
  obtain ⟨C6, S6, k6⟩ := u_known (N := 6) hxB inb_X6 (hxB _ mw_1)
  obtain ⟨C7, S7, k7⟩ := u_known (N := 27) hxB inb_X7 (hxB _ mw_4)
  obtain ⟨c1, a1, b1⟩ := st_arr (hxB _ mw_26) (fun C h => by cases h)
  obtain ⟨c2, a2, b2⟩ := st_arr (hxB _ mw_50) (fun C h => by cases h)
  obtain ⟨c3, a3, b3⟩ := st_arr (hxB _ mw_86) (fun C h => by cases h)
  refine ⟨((fun i => [C0, C1, C2, C3, C4, C5, C6, C7].getD i C0, fun i => [S0, S1, S2, S3, S4, S5, S6, S7].getD i S0), c1, c2, c3), fun Y => ⟨⟨fun i q hq => ?_, fun i q hq => ?_⟩, ?_, ?_⟩⟩
  · match i, hq with
    | 0, hq => cases hq; exact k0
    | 1, hq => cases hq; exact k1
    | 2, hq => cases hq; exact k2
    | 3, hq => cases hq; exact k3
    | 4, hq => cases hq; exact k4
    | 5, hq => cases hq; exact k5
    | 6, hq => cases hq; exact k6
    | 7, hq => cases hq; exact k7
    | _ + 8, hq => cases hq
  · match i, hq with
    | 0, hq => cases hq; exact ⟨a1, b1⟩
    | 1, hq => cases hq; exact ⟨a2, b2⟩
    | 2, hq => cases hq; exact ⟨a3, b3⟩
    | _ + 3, hq => cases hq
  · exact fun q hq => va_Nw.of rfl (hts _ (xNestF_in q hq))
  · exact fun q hq => va_Nw.of rfl (hts _ (xNestM_in q hq))
theorem st_X {s : State} {args : Array Value} {A : Nat → Prop} (hts : ∀ w ∈ lw_tbl, w.before args s = true) (hgv : (Cond.and given_1 narrow_1).before args s = true) (hA : ∀ q : Nat, q < s.heap.size → ¬ A q) : ∃ X : xG, xK X s ∧ xS X A s s.heap := by
  have hs := flat_of_before _ hgv
  obtain ⟨X, hK⟩ := st_K hts
  obtain ⟨adK, adV, h1, h2⟩ := vk_Sof (s := s) (args := args) (N := 7) (tm := stT) (len := xLen) (byt := xByt) (A := A) st_ln (fun i hi => hs _ (st_ex i hi)) (fun i hi => hs _ (st_co i hi)) (fun i hi => hs _ (st_ar i hi)) (fun i hi => hs _ (st_le i hi)) (fun i hi j hj => hs _ (st_el i hi j hj)) (fun i j hi hj hne => (st_ne i hi j hj hne).imp (fun h => hs _ h) (fun h => hs _ h)) hA
  refine ⟨_, hK (adK, adV), fun q hq => ?_, h1, va_Zof (hts _ st_l1) (hts _ st_i1) (va_eqt (hs _ st_c1)) hA, va_Zqof (hts _ st_l2) (hts _ st_i2) (hs _ st_c2) hA⟩
  obtain ⟨e1, e2, e3⟩ := st_eq q hq
  refine vk_R.of (hts _ e2) ?_
  rcases e3 with e3 | e3
  · rw [← e3]; exact h2 _ e1
  · exact va_eqR (hs _ e3) (h2 _ e1)
theorem cl_RL_7 : xCl RL 7 6 6 [.null, .null, .null, .null, .null, .int 0] := ⟨RX6, TX6, tyX6, rfl, mw_0, mw_1, mw_2, inb_X6, tyX6_ok, fun j hj => by rcases (show j = 0 ∨ j = 1 ∨ j = 2 ∨ j = 3 ∨ j = 4 ∨ j = 5 by omega) with rfl | rfl | rfl | rfl | rfl | rfl <;> rfl⟩
theorem cl_RL_10 : xCl RL 10 7 27 [.int 0, .null, .null, .int 0, .int 0, .int 0, .long 0, .int 0, .int 0, .null, .int 0, .int 0, .null, .int 0, .int 0, .int 0, .int 0, .null, .null, .null, .null, .int 0, .null, .long 0, .null, .long 0, .null] := ⟨RX7, TX7, tyX7, rfl, mw_3, mw_4, mw_5, inb_X7, tyX7_ok, fun j hj => by rcases (show j = 0 ∨ j = 1 ∨ j = 2 ∨ j = 3 ∨ j = 4 ∨ j = 5 ∨ j = 6 ∨ j = 7 ∨ j = 8 ∨ j = 9 ∨ j = 10 ∨ j = 11 ∨ j = 12 ∨ j = 13 ∨ j = 14 ∨ j = 15 ∨ j = 16 ∨ j = 17 ∨ j = 18 ∨ j = 19 ∨ j = 20 ∨ j = 21 ∨ j = 22 ∨ j = 23 ∨ j = 24 ∨ j = 25 ∨ j = 26 by omega) with rfl | rfl | rfl | rfl | rfl | rfl | rfl | rfl | rfl | rfl | rfl | rfl | rfl | rfl | rfl | rfl | rfl | rfl | rfl | rfl | rfl | rfl | rfl | rfl | rfl | rfl | rfl <;> rfl⟩
section LW
variable {p : Program} {l : Launch} {e : Env} {s : State} {m : MethodId} {args : Array Value} {below : List Frame} {meth : Method} {c : Code} {H : Heap} {locs : List Loc} {Q : State → Prop}
variable {pc : Nat} {ls : Array Slot} {rest : List Value} {X : xG} {A : Nat → Prop} {a b : Nat → Nat} {bb L i : Nat} {xs : Nat → Int32}
set_option maxHeartbeats 8000000 in
set_option maxRecDepth 100000 in
theorem lw_begin (hC : lwC p s m args c X A bb L xs) (hA : ∀ q, s.heap.size ≤ q → A q) (fin : ∀ (H : Heap) (locs : List Loc) (ls : Array Slot), (∀ q ∈ locs, A q.base) → W p l e room_1 s m args below meth c H locs 42 2464 Q (F0 m 2124 ls [])) (hl : lv_has ls 4 [(0, .ref bb)]) : W p l e room_1 s m args below meth c s.heap [] 0 0 Q (F0 m 0 ls []) := by
  obtain ⟨hX, hxs, hbl, hbA, hL⟩ := id hC
  have hx := hX.1
  have hb := hX.2.1
  have hN : XN p s m args c cL_law 4 RL X A := ⟨hX.1, hX.2.1, hX.2.2.1, hX.2.2.2.1, hX.2.2.2.2.1, hX.2.2.2.2.2.1, hA⟩
  have hH : xH X A [] s.heap s.heap [] := ⟨fun k q h => (by cases h), ⟨fun i j x y h => (by cases h), fun k q h => (by cases h)⟩, va_S.rf⟩
  refine n_new hN cl_RL_7 hH (Nat.le_of_ble_eq_true rfl) (Nat.le_of_ble_eq_true rfl) dL_law_0 (fun a0 H hH => ?_)
  have hH : xH X A [(a0, xO 6 [.null, .null, .null, .null, .null, .int 0])] s.heap H _ := hH
  refine lv_dup hx hb dL_law_3 rfl ?_
  refine n_init (wr := []) hN (Or.inl mw_7) mw_9 mw_2 ⟨by decide, by decide, by decide +kernel⟩ rfl mw_8 (fun sz => c_X6_init (X := X) (sz := sz)) hH [0] [] rfl rfl (by decide) (by decide) (by decide) hl.1 rfl (Nat.le_of_ble_eq_true rfl) dL_law_4 ⟨Nat.le_of_ble_eq_true rfl, Nat.le_of_ble_eq_true rfl⟩ ⟨rfl, rfl⟩ ⟨Nat.le_of_ble_eq_true rfl, Nat.le_of_ble_eq_true rfl⟩ (fun u H locs hu hH => ?_)
  obtain ⟨a1, a2, a3, a4, a5, a6, a7, a8, a9, a10, a11, a12, a13, a14, a15, a16, a17, a18, a19, a20, a21, a22, a23, a24, a25, a26, a27, a28, fx, a29⟩ := u
  have hH : xH X A [(a0, xO 6 [.ref a1, .ref a8, .ref a15, .ref a25, .ref a29, .int 0]), (a1, xO 0 [.ref a2, .ref a5, .int 0, .int (nI 2), .int 0, .long 0, .int 0, .int (nI 1)]), (a2, xO 2 [.ref a3, .ref a4, .int 0]), (a3, xI X 6 (fun _ => 0)), (a4, xI X 6 (fun _ => 0)), (a5, xO 3 [.ref a6, .ref a7, .int 0]), (a6, xI X 10 (fun _ => 0)), (a7, xJ X 16 (fun _ => 0)), (a8, xO 0 [.ref a9, .ref a12, .int 0, .int (nI 2), .int 0, .long 0, .int 0, .int (nI 1)]), (a9, xO 2 [.ref a10, .ref a11, .int 0]), (a10, xI X 6 (fun _ => 0)), (a11, xI X 6 (fun _ => 0)), (a12, xO 3 [.ref a13, .ref a14, .int 0]), (a13, xI X 10 (fun _ => 0)), (a14, xJ X 16 (fun _ => 0)), (a15, xO 1 [.ref a16, .ref a18, .int 0]), (a16, xO 5 [.ref a17, .int 0, .int 0, .int 0, .int 0]), (a17, xI X 250 (fun _ => 0)), (a18, xO 0 [.ref a19, .ref a22, .int 0, .int (nI 2), .int 0, .long 0, .int 0, .int (nI 1)]), (a19, xO 2 [.ref a20, .ref a21, .int 0]), (a20, xI X 6 (fun _ => 0)), (a21, xI X 6 (fun _ => 0)), (a22, xO 3 [.ref a23, .ref a24, .int 0]), (a23, xI X 10 (fun _ => 0)), (a24, xJ X 16 (fun _ => 0)), (a25, xO 4 [.ref a26, .ref a27, .ref a28]), (a26, xI X 8 fx), (a27, xI X 8 (fun _ => 0)), (a28, xJ X 320 (fun _ => 0)), (a29, xI X 5 (fun _ => 0))] s.heap H _ := hH
  refine lv_astore_n (lv' := [(1, .ref a0), (0, .ref bb)]) hx hb dL_law_7 rfl hl (by decide) rfl (fun ls hl => ?_)
  refine n_new hN cl_RL_10 hH (Nat.le_of_ble_eq_true rfl) (Nat.le_of_ble_eq_true rfl) dL_law_8 (fun b0 H hH => ?_)
  have hH : xH X A ([(a0, xO 6 [.ref a1, .ref a8, .ref a15, .ref a25, .ref a29, .int 0]), (a1, xO 0 [.ref a2, .ref a5, .int 0, .int (nI 2), .int 0, .long 0, .int 0, .int (nI 1)]), (a2, xO 2 [.ref a3, .ref a4, .int 0]), (a3, xI X 6 (fun _ => 0)), (a4, xI X 6 (fun _ => 0)), (a5, xO 3 [.ref a6, .ref a7, .int 0]), (a6, xI X 10 (fun _ => 0)), (a7, xJ X 16 (fun _ => 0)), (a8, xO 0 [.ref a9, .ref a12, .int 0, .int (nI 2), .int 0, .long 0, .int 0, .int (nI 1)]), (a9, xO 2 [.ref a10, .ref a11, .int 0]), (a10, xI X 6 (fun _ => 0)), (a11, xI X 6 (fun _ => 0)), (a12, xO 3 [.ref a13, .ref a14, .int 0]), (a13, xI X 10 (fun _ => 0)), (a14, xJ X 16 (fun _ => 0)), (a15, xO 1 [.ref a16, .ref a18, .int 0]), (a16, xO 5 [.ref a17, .int 0, .int 0, .int 0, .int 0]), (a17, xI X 250 (fun _ => 0)), (a18, xO 0 [.ref a19, .ref a22, .int 0, .int (nI 2), .int 0, .long 0, .int 0, .int (nI 1)]), (a19, xO 2 [.ref a20, .ref a21, .int 0]), (a20, xI X 6 (fun _ => 0)), (a21, xI X 6 (fun _ => 0)), (a22, xO 3 [.ref a23, .ref a24, .int 0]), (a23, xI X 10 (fun _ => 0)), (a24, xJ X 16 (fun _ => 0)), (a25, xO 4 [.ref a26, .ref a27, .ref a28]), (a26, xI X 8 fx), (a27, xI X 8 (fun _ => 0)), (a28, xJ X 320 (fun _ => 0)), (a29, xI X 5 (fun _ => 0))] ++ [(b0, xO 7 [.int 0, .null, .null, .int 0, .int 0, .int 0, .long 0, .int 0, .int 0, .null, .int 0, .int 0, .null, .int 0, .int 0, .int 0, .int 0, .null, .null, .null, .null, .int 0, .null, .long 0, .null, .long 0, .null])]) s.heap H _ := hH
  refine lv_dup hx hb dL_law_11 rfl ?_
  have hu1 := hu
  refine n_init (wr := [(a0, xO 6 [.ref a1, .ref a8, .ref a15, .ref a25, .ref a29, .int 0]), (a1, xO 0 [.ref a2, .ref a5, .int 0, .int (nI 2), .int 0, .long 0, .int 0, .int (nI 1)]), (a2, xO 2 [.ref a3, .ref a4, .int 0]), (a3, xI X 6 (fun _ => 0)), (a4, xI X 6 (fun _ => 0)), (a5, xO 3 [.ref a6, .ref a7, .int 0]), (a6, xI X 10 (fun _ => 0)), (a7, xJ X 16 (fun _ => 0)), (a8, xO 0 [.ref a9, .ref a12, .int 0, .int (nI 2), .int 0, .long 0, .int 0, .int (nI 1)]), (a9, xO 2 [.ref a10, .ref a11, .int 0]), (a10, xI X 6 (fun _ => 0)), (a11, xI X 6 (fun _ => 0)), (a12, xO 3 [.ref a13, .ref a14, .int 0]), (a13, xI X 10 (fun _ => 0)), (a14, xJ X 16 (fun _ => 0)), (a15, xO 1 [.ref a16, .ref a18, .int 0]), (a16, xO 5 [.ref a17, .int 0, .int 0, .int 0, .int 0]), (a17, xI X 250 (fun _ => 0)), (a18, xO 0 [.ref a19, .ref a22, .int 0, .int (nI 2), .int 0, .long 0, .int 0, .int (nI 1)]), (a19, xO 2 [.ref a20, .ref a21, .int 0]), (a20, xI X 6 (fun _ => 0)), (a21, xI X 6 (fun _ => 0)), (a22, xO 3 [.ref a23, .ref a24, .int 0]), (a23, xI X 10 (fun _ => 0)), (a24, xJ X 16 (fun _ => 0)), (a25, xO 4 [.ref a26, .ref a27, .ref a28]), (a26, xI X 8 fx), (a27, xI X 8 (fun _ => 0)), (a28, xJ X 320 (fun _ => 0)), (a29, xI X 5 (fun _ => 0))]) hN (Or.inl mw_72) mw_74 mw_5 ⟨by decide, by decide, by decide +kernel⟩ rfl mw_73 (fun sz => c_X7_init (X := X) (sz := sz)) hH [30] [0, 1, 2, 3, 4, 5, 6, 7, 8, 9, 10, 11, 12, 13, 14, 15, 16, 17, 18, 19, 20, 21, 22, 23, 24, 25, 26, 27, 28, 29] rfl rfl (by decide) (by decide) (by decide) hl.1 rfl (Nat.le_of_ble_eq_true rfl) dL_law_12 ⟨Nat.le_of_ble_eq_true rfl, Nat.le_of_ble_eq_true rfl⟩ ⟨rfl, rfl⟩ ⟨Nat.le_of_ble_eq_true rfl, Nat.le_of_ble_eq_true rfl⟩ (fun u H locs hu hH => ?_)
  obtain ⟨b1, b2, b3, b4, b5, b6, b7, b8, b9, b10, b11, fm⟩ := u
  refine lv_astore_n (lv' := [(2, .ref b0), (1, .ref a0), (0, .ref bb)]) hx hb dL_law_15 rfl hl (by decide) rfl (fun ls hl => ?_)
  refine lv_iconst (v := nI 0) hx hb dL_law_16 (by decide) ?_
  refine lv_istore_n (lv' := [(3, .int (nI 0)), (2, .ref b0), (1, .ref a0), (0, .ref bb)]) hx hb dL_law_17 rfl hl (by decide) rfl (fun ls hl => ?_)
  refine lw_loop (a := fun k => [a0, a1, a2, a3, a4, a5, a6, a7, a8, a9, a10, a11, a12, a13, a14, a15, a16, a17, a18, a19, a20, a21, a22, a23, a24, a25, a26, a27, a28, a29].getD k 0) (b := fun k => [b0, b1, b2, b3, b4, b5, b6, b7, b8, b9, b10, b11].getD k 0) hC fin L 0 _ _ _ (by omega) (by omega) ⟨0, 0, nI 2, 0, 0, 0, nI 1, 0, (fun _ => 0), (fun _ => 0), 0, (fun _ => 0), (fun _ => 0), 0, nI 2, 0, 0, 0, nI 1, 0, (fun _ => 0), (fun _ => 0), 0, (fun _ => 0), (fun _ => 0), 0, 0, 0, 0, 0, (fun _ => 0), 0, nI 2, 0, 0, 0, nI 1, 0, (fun _ => 0), (fun _ => 0), 0, (fun _ => 0), (fun _ => 0), fx, (fun _ => 0), (fun _ => 0), (fun _ => 0), 0, 0, 0, 0, 0, 0, (fun _ => 0), (fun _ => 0), (fun _ => 0), (fun _ => 0), fm, (fun _ => 0), (fun _ => 0), (fun _ => 0), (fun _ => 0), (fun _ => 0), (fun _ => 0), ?_, ?_⟩ hl
  · exact Inv_0 hu1 hu (fun i hi => rfl) (fun i hi => rfl) (fun j hj => rfl)
  · exact hH
end LW
