def f_X3_isThere (v_count : Int32) (p1 : Int32) : Option (Int32) :=
  (f_X6_isWithin p1 (nI 0) (v_count - (nI 1))).bind fun u1 =>
  some u1
set_option maxHeartbeats 4000000 in
set_option maxRecDepth 100000 in
theorem c_X3_isThere {l : Launch} {X : xG} {h0 g0 g1 : Nat} {v_count : Int32} {p1 : Int32} {u : Int32} (hf : f_X3_isThere v_count p1 = some u) : Met l yX3_isThere (xw yX3_isThere cX3_isThere 2 (some .boolean)) (xrm 1 22) (xPc [.ref h0, .int p1] X [(h0, xO 3 [.ref g0, .ref g1, .int v_count])]) (xQ (u = 0 ∨ u = 1) (.returned (some (.int u)))) 0 0 xNo := by
  refine xMet (n := 1) md_X3_isThere.1 (Nat.le_of_ble_eq_true rfl) ?_
  intro p e s m args below meth c ls A hC hr hlk hH hl
  have hl : lv_has ls 2 [(0, .ref h0), (1, .int p1)] := hl
  have hx := hC.1
  have hb := hC.2.1
  refine lv_iload_n hx hb dX3_isThere_0 rfl (lv_at hl 1 rfl) ?_
  refine lv_iconst (v := (nI 0)) hx hb dX3_isThere_1 (by decide) ?_
  refine lv_aload_n hx hb dX3_isThere_2 rfl (lv_at hl 0 rfl) ?_
  refine x_get hC fd_RX3_19 hH.1 0 rfl rfl dX3_isThere_3 ?_
  refine lv_iconst (v := (nI 1)) hx hb dX3_isThere_6 (by decide) ?_
  refine lv_isub hx hb dX3_isThere_7 ?_
  obtain ⟨u1, hf1, hf⟩ := xb hf
  refine x_ran (x_runSN (rest := []) (As := [.int p1, .int (nI 0), .int (v_count - (nI 1))]) hC mn_RX3_31 md_X6_isWithin (c_X6_isWithin (X := X) hf1) hH [] rfl (by decide) hl.1 rfl rfl (Nat.le_of_ble_eq_true rfl) dX3_isThere_8 ⟨Nat.le_of_ble_eq_true rfl, Nat.le_of_ble_eq_true rfl⟩ ⟨rfl, rfl⟩ ⟨Nat.le_refl _, Nat.le_refl _⟩) rfl (fun hz1 => ?_)
  exact x_retz hC hr hlk hz1 hf dX3_isThere_11
def f_X3_agesOf_L4 (v_count : Int32) (v_ages : (Nat → Int32)) (p1 : Int32) (s4 : Int32 × Int32) : Option ((Int32) ⊕ (Int32 × Int32)) :=
  if v_count ≤ s4.2 then
    some (.inl s4.1)
  else
  (f_X6_isIn (Int32.toInt64 p1) s4.2).bind fun u2 =>
  if u2 = (nI 0) then
    some (.inr (s4.1, s4.2 + (nI 1)))
  else
  (f_X3_ageOf v_ages s4.2).bind fun u4 =>
  some (.inr (s4.1 + u4, s4.2 + (nI 1)))
def f_X3_agesOf (v_count : Int32) (v_ages : (Nat → Int32)) (p1 : Int32) : Option (Int32) :=
  xloop (f_X3_agesOf_L4 v_count v_ages p1) xN ((nI 0), (nI 0))
set_option maxHeartbeats 4000000 in
set_option maxRecDepth 100000 in
theorem c_X3_agesOf {l : Launch} {X : xG} {h0 h1 g0 : Nat} {v_count : Int32} {v_ages : (Nat → Int32)} {p1 : Int32} {u : Int32} (hf : f_X3_agesOf v_count v_ages p1 = some u) : Met l yX3_agesOf (xw yX3_agesOf cX3_agesOf 4 (some .int)) (xrm 2 43) (xPc [.ref h0, .int p1] X [(h0, xO 3 [.ref h1, .ref g0, .int v_count]), (h1, xI X 10 v_ages)]) (xQ True (.returned (some (.int u)))) 0 0 xNo := by
  refine xMet (n := 1) md_X3_agesOf.1 (Nat.le_of_ble_eq_true rfl) ?_
  intro p e s m args below meth c ls A hC hr hlk hH hl
  have hl : lv_has ls 4 [(0, .ref h0), (1, .int p1)] := hl
  have hx := hC.1
  have hb := hC.2.1
  have L4 : ∀ (n : Nat) (s4 : Int32 × Int32), xloop (f_X3_agesOf_L4 v_count v_ages p1) n s4 = some u → ∀ (ls : Array Slot), lv_has ls 4 [(0, .ref h0), (1, .int p1), (2, .int s4.1), (3, .int s4.2)] → W p l e (xrm 2 43) s m args below meth c s.heap [] 0 0 (MQ below (xQ True (.returned (some (.int u)))) args s 0 0 xNo) (F0 m 4 ls []) := by
    intro  n
    induction n with
    | zero => intro s4 hf; exact xloop_0 hf
    | succ n ih4 =>
      intro s4 hf ls hl
      obtain ⟨o4, hf, ho4⟩ := xloop_s hf
      refine lv_iload_n hx hb dX3_agesOf_4 rfl (lv_at hl 3 rfl) ?_
      refine lv_aload_n hx hb dX3_agesOf_5 rfl (lv_at hl 0 rfl) ?_
      refine x_get hC fd_RX3_19 hH.1 0 rfl rfl dX3_agesOf_6 ?_
      refine lv_icmp_ge (tgt := 35) hx hb dX3_agesOf_9 (by decide) (fun c1 => ?_) (fun c1 => ?_)
      · have hf := xt c1 hf
        refine lv_iload_n hx hb dX3_agesOf_35 rfl (lv_at hl 2 rfl) ?_
        have hf := xo_ret hf ho4
        exact x_reti hC hr hlk trivial hf dX3_agesOf_36
      · have hf := xe c1 hf
        refine lv_iload_n hx hb dX3_agesOf_12 rfl (lv_at hl 1 rfl) ?_
        refine lv_i2l hx hb dX3_agesOf_13 rfl ?_
        refine lv_iload_n hx hb dX3_agesOf_14 rfl (lv_at hl 3 rfl) ?_
        obtain ⟨u2, hf2, hf⟩ := xb hf
        refine x_ran (x_runSN (rest := []) (As := [.long (Int32.toInt64 p1), .int s4.2]) hC mn_RX3_39 md_X6_isIn (c_X6_isIn (X := X) hf2) hH [] rfl (by decide) hl.1 rfl rfl (Nat.le_of_ble_eq_true rfl) dX3_agesOf_15 ⟨Nat.le_of_ble_eq_true rfl, Nat.le_of_ble_eq_true rfl⟩ ⟨rfl, rfl⟩ ⟨Nat.le_refl _, Nat.le_refl _⟩) rfl (fun hz2 => ?_)
        refine lv_if_eq (tgt := 29) hx hb dX3_agesOf_18 (by decide) (fun c3 => ?_) (fun c3 => ?_)
        · have hf := xt c3 hf
          refine lv_iinc (v := s4.2 + (nI 1)) (lv' := [(3, .int (s4.2 + (nI 1))), (0, .ref h0), (1, .int p1), (2, .int s4.1)]) hx hb dX3_agesOf_29 hl (k := 3) rfl rfl (by decide) rfl (fun ls hl => ?_)
          refine lv_goto (tgt := 4) hx hb dX3_agesOf_32 (by decide) ?_
          have hf := xo_go hf ho4
          exact ih4 (s4.1, s4.2 + (nI 1)) hf ls (lv_sub hl [1, 2, 3, 0] rfl)
        · have hf := xe c3 hf
          refine lv_iload_n hx hb dX3_agesOf_21 rfl (lv_at hl 2 rfl) ?_
          refine lv_aload_n hx hb dX3_agesOf_22 rfl (lv_at hl 0 rfl) ?_
          refine lv_iload_n hx hb dX3_agesOf_23 rfl (lv_at hl 3 rfl) ?_
          obtain ⟨u4, hf4, hf⟩ := xb hf
          refine x_ran (x_runV (q0 := 0) (rest := [.int s4.1]) (As := [.int s4.2]) hC mw_456 md_X3_ageOf (c_X3_ageOf (X := X) hf4) hH [0, 1] rfl (by decide) rfl rfl rfl hl.1 rfl rfl (Nat.le_of_ble_eq_true rfl) dX3_agesOf_24 ⟨Nat.le_of_ble_eq_true rfl, Nat.le_of_ble_eq_true rfl⟩ ⟨rfl, rfl⟩ ⟨Nat.le_refl _, Nat.le_refl _⟩) rfl (fun hz4 => ?_)
          refine lv_iadd hx hb dX3_agesOf_27 ?_
          refine lv_istore_n (lv' := [(2, .int (s4.1 + u4)), (0, .ref h0), (1, .int p1), (3, .int s4.2)]) hx hb dX3_agesOf_28 rfl hl (by decide) rfl (fun ls hl => ?_)
          refine lv_iinc (v := s4.2 + (nI 1)) (lv' := [(3, .int (s4.2 + (nI 1))), (2, .int (s4.1 + u4)), (0, .ref h0), (1, .int p1)]) hx hb dX3_agesOf_29 hl (k := 3) rfl rfl (by decide) rfl (fun ls hl => ?_)
          refine lv_goto (tgt := 4) hx hb dX3_agesOf_32 (by decide) ?_
          have hf := xo_go hf ho4
          exact ih4 (s4.1 + u4, s4.2 + (nI 1)) hf ls (lv_sub hl [2, 3, 1, 0] rfl)
  refine lv_iconst (v := (nI 0)) hx hb dX3_agesOf_0 (by decide) ?_
  refine lv_istore_n (lv' := [(2, .int (nI 0)), (0, .ref h0), (1, .int p1)]) hx hb dX3_agesOf_1 rfl hl (by decide) rfl (fun ls hl => ?_)
  refine lv_iconst (v := (nI 0)) hx hb dX3_agesOf_2 (by decide) ?_
  refine lv_istore_n (lv' := [(3, .int (nI 0)), (2, .int (nI 0)), (0, .ref h0), (1, .int p1)]) hx hb dX3_agesOf_3 rfl hl (by decide) rfl (fun ls hl => ?_)
  exact L4 xN ((nI 0), (nI 0)) hf ls (lv_sub hl [2, 3, 1, 0] rfl)
def f_X3_agesOfAll (v_count : Int32) (v_ages : (Nat → Int32)) : Option (Int32) :=
  (f_X3_agesOf v_count v_ages ((xshl (nI 1) v_count) - (nI 1))).bind fun u1 =>
  some u1
set_option maxHeartbeats 4000000 in
set_option maxRecDepth 100000 in
theorem c_X3_agesOfAll {l : Launch} {X : xG} {h0 h1 g0 : Nat} {v_count : Int32} {v_ages : (Nat → Int32)} {u : Int32} (hf : f_X3_agesOfAll v_count v_ages = some u) : Met l yX3_agesOfAll (xw yX3_agesOfAll cX3_agesOfAll 1 (some .int)) (xrm 3 66) (xPc [.ref h0] X [(h0, xO 3 [.ref h1, .ref g0, .int v_count]), (h1, xI X 10 v_ages)]) (xQ True (.returned (some (.int u)))) 0 0 xNo := by
  refine xMet (n := 0) md_X3_agesOfAll.1 (Nat.le_of_ble_eq_true rfl) ?_
  intro p e s m args below meth c ls A hC hr hlk hH hl
  have hl : lv_has ls 1 [(0, .ref h0)] := hl
  have hx := hC.1
  have hb := hC.2.1
  refine lv_aload_n hx hb dX3_agesOfAll_0 rfl (lv_at hl 0 rfl) ?_
  refine lv_iconst (v := (nI 1)) hx hb dX3_agesOfAll_1 (by decide) ?_
  refine lv_aload_n hx hb dX3_agesOfAll_2 rfl (lv_at hl 0 rfl) ?_
  refine x_get hC fd_RX3_19 hH.1 0 rfl rfl dX3_agesOfAll_3 ?_
  refine x_ishl hx hb dX3_agesOfAll_6 ?_
  refine lv_iconst (v := (nI 1)) hx hb dX3_agesOfAll_7 (by decide) ?_
  refine lv_isub hx hb dX3_agesOfAll_8 ?_
  obtain ⟨u1, hf1, hf⟩ := xb hf
  refine x_ran (x_runV (q0 := 0) (rest := []) (As := [.int ((xshl (nI 1) v_count) - (nI 1))]) hC mw_1132 md_X3_agesOf (c_X3_agesOf (X := X) hf1) hH [0, 1] rfl (by decide) rfl rfl rfl hl.1 rfl rfl (Nat.le_of_ble_eq_true rfl) dX3_agesOfAll_9 ⟨Nat.le_of_ble_eq_true rfl, Nat.le_of_ble_eq_true rfl⟩ ⟨rfl, rfl⟩ ⟨Nat.le_refl _, Nat.le_refl _⟩) rfl (fun hz1 => ?_)
  exact x_reti hC hr hlk trivial hf dX3_agesOfAll_12
def f_X3_howManySets_L4 (v_count : Int32) (v_ages : (Nat → Int32)) (p1 : Int32) (s4 : Int32 × Int32) : Option ((Int32) ⊕ (Int32 × Int32)) :=
  if (xshl (nI 1) v_count) ≤ s4.2 then
    some (.inl s4.1)
  else
  (f_X3_agesOf v_count v_ages s4.2).bind fun u2 =>
  if u2 = p1 then
    some (.inr (s4.1 + (nI 1), s4.2 + (nI 1)))
  else
  some (.inr (s4.1, s4.2 + (nI 1)))
def f_X3_howManySets (v_count : Int32) (v_ages : (Nat → Int32)) (p1 : Int32) : Option (Int32) :=
  xloop (f_X3_howManySets_L4 v_count v_ages p1) xN ((nI 0), (nI 0))
set_option maxHeartbeats 4000000 in
set_option maxRecDepth 100000 in
theorem c_X3_howManySets {l : Launch} {X : xG} {h0 h1 g0 : Nat} {v_count : Int32} {v_ages : (Nat → Int32)} {p1 : Int32} {u : Int32} (hf : f_X3_howManySets v_count v_ages p1 = some u) : Met l yX3_howManySets (xw yX3_howManySets cX3_howManySets 4 (some .int)) (xrm 3 66) (xPc [.ref h0, .int p1] X [(h0, xO 3 [.ref h1, .ref g0, .int v_count]), (h1, xI X 10 v_ages)]) (xQ True (.returned (some (.int u)))) 0 0 xNo := by
  refine xMet (n := 1) md_X3_howManySets.1 (Nat.le_of_ble_eq_true rfl) ?_
  intro p e s m args below meth c ls A hC hr hlk hH hl
  have hl : lv_has ls 4 [(0, .ref h0), (1, .int p1)] := hl
  have hx := hC.1
  have hb := hC.2.1
  have L4 : ∀ (n : Nat) (s4 : Int32 × Int32), xloop (f_X3_howManySets_L4 v_count v_ages p1) n s4 = some u → ∀ (ls : Array Slot), lv_has ls 4 [(0, .ref h0), (1, .int p1), (2, .int s4.1), (3, .int s4.2)] → W p l e (xrm 3 66) s m args below meth c s.heap [] 0 0 (MQ below (xQ True (.returned (some (.int u)))) args s 0 0 xNo) (F0 m 4 ls []) := by
    intro  n
    induction n with
    | zero => intro s4 hf; exact xloop_0 hf
    | succ n ih4 =>
      intro s4 hf ls hl
      obtain ⟨o4, hf, ho4⟩ := xloop_s hf
      refine lv_iload_n hx hb dX3_howManySets_4 rfl (lv_at hl 3 rfl) ?_
      refine lv_iconst (v := (nI 1)) hx hb dX3_howManySets_5 (by decide) ?_
      refine lv_aload_n hx hb dX3_howManySets_6 rfl (lv_at hl 0 rfl) ?_
      refine x_get hC fd_RX3_19 hH.1 0 rfl rfl dX3_howManySets_7 ?_
      refine x_ishl hx hb dX3_howManySets_10 ?_
      refine lv_icmp_ge (tgt := 32) hx hb dX3_howManySets_11 (by decide) (fun c1 => ?_) (fun c1 => ?_)
      · have hf := xt c1 hf
        refine lv_iload_n hx hb dX3_howManySets_32 rfl (lv_at hl 2 rfl) ?_
        have hf := xo_ret hf ho4
        exact x_reti hC hr hlk trivial hf dX3_howManySets_33
      · have hf := xe c1 hf
        refine lv_aload_n hx hb dX3_howManySets_14 rfl (lv_at hl 0 rfl) ?_
        refine lv_iload_n hx hb dX3_howManySets_15 rfl (lv_at hl 3 rfl) ?_
        obtain ⟨u2, hf2, hf⟩ := xb hf
        refine x_ran (x_runV (q0 := 0) (rest := []) (As := [.int s4.2]) hC mw_1132 md_X3_agesOf (c_X3_agesOf (X := X) hf2) hH [0, 1] rfl (by decide) rfl rfl rfl hl.1 rfl rfl (Nat.le_of_ble_eq_true rfl) dX3_howManySets_16 ⟨Nat.le_of_ble_eq_true rfl, Nat.le_of_ble_eq_true rfl⟩ ⟨rfl, rfl⟩ ⟨Nat.le_refl _, Nat.le_refl _⟩) rfl (fun hz2 => ?_)
        refine lv_iload_n hx hb dX3_howManySets_19 rfl (lv_at hl 1 rfl) ?_
        refine lv_icmp_ne (tgt := 26) hx hb dX3_howManySets_20 (by decide) (fun c3 => ?_) (fun c3 => ?_)
        · have hf := xe c3 hf
          refine lv_iinc (v := s4.2 + (nI 1)) (lv' := [(3, .int (s4.2 + (nI 1))), (0, .ref h0), (1, .int p1), (2, .int s4.1)]) hx hb dX3_howManySets_26 hl (k := 3) rfl rfl (by decide) rfl (fun ls hl => ?_)
          refine lv_goto (tgt := 4) hx hb dX3_howManySets_29 (by decide) ?_
          have hf := xo_go hf ho4
          exact ih4 (s4.1, s4.2 + (nI 1)) hf ls (lv_sub hl [1, 2, 3, 0] rfl)
        · have hf := xt c3 hf
          refine lv_iinc (v := s4.1 + (nI 1)) (lv' := [(2, .int (s4.1 + (nI 1))), (0, .ref h0), (1, .int p1), (3, .int s4.2)]) hx hb dX3_howManySets_23 hl (k := 2) rfl rfl (by decide) rfl (fun ls hl => ?_)
          refine lv_iinc (v := s4.2 + (nI 1)) (lv' := [(3, .int (s4.2 + (nI 1))), (2, .int (s4.1 + (nI 1))), (0, .ref h0), (1, .int p1)]) hx hb dX3_howManySets_26 hl (k := 3) rfl rfl (by decide) rfl (fun ls hl => ?_)
          refine lv_goto (tgt := 4) hx hb dX3_howManySets_29 (by decide) ?_
          have hf := xo_go hf ho4
          exact ih4 (s4.1 + (nI 1), s4.2 + (nI 1)) hf ls (lv_sub hl [2, 3, 1, 0] rfl)
  refine lv_iconst (v := (nI 0)) hx hb dX3_howManySets_0 (by decide) ?_
  refine lv_istore_n (lv' := [(2, .int (nI 0)), (0, .ref h0), (1, .int p1)]) hx hb dX3_howManySets_1 rfl hl (by decide) rfl (fun ls hl => ?_)
  refine lv_iconst (v := (nI 0)) hx hb dX3_howManySets_2 (by decide) ?_
  refine lv_istore_n (lv' := [(3, .int (nI 0)), (2, .int (nI 0)), (0, .ref h0), (1, .int p1)]) hx hb dX3_howManySets_3 rfl hl (by decide) rfl (fun ls hl => ?_)
  exact L4 xN ((nI 0), (nI 0)) hf ls (lv_sub hl [2, 3, 1, 0] rfl)
def f_X3_smallestSet_L12 (v_count : Int32) (v_ages : (Nat → Int32)) (p1 : Int32) (s12 : Int32 × Int32 × Int32) : Option ((Int32) ⊕ (Int32 × Int32 × Int32)) :=
  if (xshl (nI 1) v_count) ≤ s12.2.2 then
    some (.inl s12.1)
  else
  (f_J6_bitCount_0f7a4 s12.2.2).bind fun u2 =>
  if s12.2.1 ≤ u2 then
    some (.inr (s12.1, s12.2.1, s12.2.2 + (nI 1)))
  else
  (f_X3_agesOf v_count v_ages s12.2.2).bind fun u4 =>
  if u4 = p1 then
    some (.inr (s12.2.2, u2, s12.2.2 + (nI 1)))
  else
  some (.inr (s12.1, s12.2.1, s12.2.2 + (nI 1)))
def f_X3_smallestSet (v_count : Int32) (v_ages : (Nat → Int32)) (p1 : Int32) : Option (Int32) :=
  xloop (f_X3_smallestSet_L12 v_count v_ages p1) xN ((-1 : Int32), v_count + (nI 1), (nI 0))
set_option maxHeartbeats 4000000 in
set_option maxRecDepth 100000 in
theorem c_X3_smallestSet {l : Launch} {X : xG} {h0 h1 g0 : Nat} {v_count : Int32} {v_ages : (Nat → Int32)} {p1 : Int32} {u : Int32} (hf : f_X3_smallestSet v_count v_ages p1 = some u) : Met l yX3_smallestSet (xw yX3_smallestSet cX3_smallestSet 6 (some .int)) (xrm 3 66) (xPc [.ref h0, .int p1] X [(h0, xO 3 [.ref h1, .ref g0, .int v_count]), (h1, xI X 10 v_ages)]) (xQ True (.returned (some (.int u)))) 0 0 xNo := by
  refine xMet (n := 1) md_X3_smallestSet.1 (Nat.le_of_ble_eq_true rfl) ?_
  intro p e s m args below meth c ls A hC hr hlk hH hl
  have hl : lv_has ls 6 [(0, .ref h0), (1, .int p1)] := hl
  have hx := hC.1
  have hb := hC.2.1
  have L12 : ∀ (n : Nat) (s12 : Int32 × Int32 × Int32), xloop (f_X3_smallestSet_L12 v_count v_ages p1) n s12 = some u → ∀ (ls : Array Slot), lv_has ls 6 [(0, .ref h0), (1, .int p1), (2, .int s12.1), (3, .int s12.2.1), (4, .int s12.2.2)] → W p l e (xrm 3 66) s m args below meth c s.heap [] 0 0 (MQ below (xQ True (.returned (some (.int u)))) args s 0 0 xNo) (F0 m 12 ls []) := by
    intro  n
    induction n with
    | zero => intro s12 hf; exact xloop_0 hf
    | succ n ih12 =>
      intro s12 hf ls hl
      obtain ⟨o12, hf, ho12⟩ := xloop_s hf
      refine lv_iload hx hb dX3_smallestSet_12 (lv_at hl 4 rfl) ?_
      refine lv_iconst (v := (nI 1)) hx hb dX3_smallestSet_14 (by decide) ?_
      refine lv_aload_n hx hb dX3_smallestSet_15 rfl (lv_at hl 0 rfl) ?_
      refine x_get hC fd_RX3_19 hH.1 0 rfl rfl dX3_smallestSet_16 ?_
      refine x_ishl hx hb dX3_smallestSet_19 ?_
      refine lv_icmp_ge (tgt := 58) hx hb dX3_smallestSet_20 (by decide) (fun c1 => ?_) (fun c1 => ?_)
      · have hf := xt c1 hf
        refine lv_iload_n hx hb dX3_smallestSet_58 rfl (lv_at hl 2 rfl) ?_
        have hf := xo_ret hf ho12
        exact x_reti hC hr hlk trivial hf dX3_smallestSet_59
      · have hf := xe c1 hf
        refine lv_iload hx hb dX3_smallestSet_23 (lv_at hl 4 rfl) ?_
        obtain ⟨u2, hf2, hf⟩ := xb hf
        refine x_ran (x_runS (rest := []) (As := [.int s12.2.2]) hC mw_1140 md_J6_bitCount_0f7a4 (c_J6_bitCount_0f7a4 (X := X) hf2) hH [] rfl (by decide) hl.1 rfl rfl (Nat.le_of_ble_eq_true rfl) dX3_smallestSet_25 ⟨Nat.le_of_ble_eq_true rfl, Nat.le_of_ble_eq_true rfl⟩ ⟨rfl, rfl⟩ ⟨Nat.le_refl _, Nat.le_refl _⟩) rfl (fun hz2 => ?_)
        refine lv_istore (lv' := [(5, .int u2), (0, .ref h0), (1, .int p1), (2, .int s12.1), (3, .int s12.2.1), (4, .int s12.2.2)]) hx hb dX3_smallestSet_28 hl (by decide) rfl (fun ls hl => ?_)
        refine lv_iload hx hb dX3_smallestSet_30 (lv_at hl 0 rfl) ?_
        refine lv_iload_n hx hb dX3_smallestSet_32 rfl (lv_at hl 4 rfl) ?_
        refine lv_icmp_ge (tgt := 52) hx hb dX3_smallestSet_33 (by decide) (fun c3 => ?_) (fun c3 => ?_)
        · have hf := xt c3 hf
          refine lv_iinc (v := s12.2.2 + (nI 1)) (lv' := [(4, .int (s12.2.2 + (nI 1))), (5, .int u2), (0, .ref h0), (1, .int p1), (2, .int s12.1), (3, .int s12.2.1)]) hx hb dX3_smallestSet_52 hl (k := 5) rfl rfl (by decide) rfl (fun ls hl => ?_)
          refine lv_goto (tgt := 12) hx hb dX3_smallestSet_55 (by decide) ?_
          have hf := xo_go hf ho12
          exact ih12 (s12.1, s12.2.1, s12.2.2 + (nI 1)) hf ls (lv_sub hl [2, 3, 4, 5, 0] rfl)
        · have hf := xe c3 hf
          refine lv_aload_n hx hb dX3_smallestSet_36 rfl (lv_at hl 1 rfl) ?_
          refine lv_iload hx hb dX3_smallestSet_37 (lv_at hl 5 rfl) ?_
          obtain ⟨u4, hf4, hf⟩ := xb hf
          refine x_ran (x_runV (q0 := 0) (rest := []) (As := [.int s12.2.2]) hC mw_1132 md_X3_agesOf (c_X3_agesOf (X := X) hf4) hH [0, 1] rfl (by decide) rfl rfl rfl hl.1 rfl rfl (Nat.le_of_ble_eq_true rfl) dX3_smallestSet_39 ⟨Nat.le_of_ble_eq_true rfl, Nat.le_of_ble_eq_true rfl⟩ ⟨rfl, rfl⟩ ⟨Nat.le_refl _, Nat.le_refl _⟩) rfl (fun hz4 => ?_)
          refine lv_iload_n hx hb dX3_smallestSet_42 rfl (lv_at hl 2 rfl) ?_
          refine lv_icmp_ne (tgt := 52) hx hb dX3_smallestSet_43 (by decide) (fun c5 => ?_) (fun c5 => ?_)
          · have hf := xe c5 hf
            refine lv_iinc (v := s12.2.2 + (nI 1)) (lv' := [(4, .int (s12.2.2 + (nI 1))), (5, .int u2), (0, .ref h0), (1, .int p1), (2, .int s12.1), (3, .int s12.2.1)]) hx hb dX3_smallestSet_52 hl (k := 5) rfl rfl (by decide) rfl (fun ls hl => ?_)
            refine lv_goto (tgt := 12) hx hb dX3_smallestSet_55 (by decide) ?_
            have hf := xo_go hf ho12
            exact ih12 (s12.1, s12.2.1, s12.2.2 + (nI 1)) hf ls (lv_sub hl [2, 3, 4, 5, 0] rfl)
          · have hf := xt c5 hf
            refine lv_iload hx hb dX3_smallestSet_46 (lv_at hl 5 rfl) ?_
            refine lv_istore_n (lv' := [(2, .int s12.2.2), (5, .int u2), (0, .ref h0), (1, .int p1), (3, .int s12.2.1), (4, .int s12.2.2)]) hx hb dX3_smallestSet_48 rfl hl (by decide) rfl (fun ls hl => ?_)
            refine lv_iload hx hb dX3_smallestSet_49 (lv_at hl 1 rfl) ?_
            refine lv_istore_n (lv' := [(3, .int u2), (2, .int s12.2.2), (5, .int u2), (0, .ref h0), (1, .int p1), (4, .int s12.2.2)]) hx hb dX3_smallestSet_51 rfl hl (by decide) rfl (fun ls hl => ?_)
            refine lv_iinc (v := s12.2.2 + (nI 1)) (lv' := [(4, .int (s12.2.2 + (nI 1))), (3, .int u2), (2, .int s12.2.2), (5, .int u2), (0, .ref h0), (1, .int p1)]) hx hb dX3_smallestSet_52 hl (k := 5) rfl rfl (by decide) rfl (fun ls hl => ?_)
            refine lv_goto (tgt := 12) hx hb dX3_smallestSet_55 (by decide) ?_
            have hf := xo_go hf ho12
            exact ih12 (s12.2.2, u2, s12.2.2 + (nI 1)) hf ls (lv_sub hl [4, 5, 2, 1, 0] rfl)
  refine lv_iconst (v := (-1 : Int32)) hx hb dX3_smallestSet_0 (by decide) ?_
  refine lv_istore_n (lv' := [(2, .int (-1 : Int32)), (0, .ref h0), (1, .int p1)]) hx hb dX3_smallestSet_1 rfl hl (by decide) rfl (fun ls hl => ?_)
  refine lv_aload_n hx hb dX3_smallestSet_2 rfl (lv_at hl 1 rfl) ?_
  refine x_get hC fd_RX3_19 hH.1 0 rfl rfl dX3_smallestSet_3 ?_
  refine lv_iconst (v := (nI 1)) hx hb dX3_smallestSet_6 (by decide) ?_
  refine lv_iadd hx hb dX3_smallestSet_7 ?_
  refine lv_istore_n (lv' := [(3, .int (v_count + (nI 1))), (2, .int (-1 : Int32)), (0, .ref h0), (1, .int p1)]) hx hb dX3_smallestSet_8 rfl hl (by decide) rfl (fun ls hl => ?_)
  refine lv_iconst (v := (nI 0)) hx hb dX3_smallestSet_9 (by decide) ?_
  refine lv_istore (lv' := [(4, .int (nI 0)), (3, .int (v_count + (nI 1))), (2, .int (-1 : Int32)), (0, .ref h0), (1, .int p1)]) hx hb dX3_smallestSet_10 hl (by decide) rfl (fun ls hl => ?_)
  exact L12 xN ((-1 : Int32), v_count + (nI 1), (nI 0)) hf ls (lv_sub hl [3, 4, 2, 1, 0] rfl)
def f_X3_mark (v_sums : (Nat → Int64)) (p1 : Int32) : Option ((Nat → Int64)) :=
  if (xshr p1 (nI 6)) < (nI 0) then
    some v_sums
  else
  if (nI 16) ≤ (xshr p1 (nI 6)) then
    some v_sums
  else
  if xout (xshr p1 (nI 6)) 16 then none else
  if xout (xshr p1 (nI 6)) 16 then none else
  some (vp_updL v_sums (xat (xshr p1 (nI 6))) ((v_sums (xat (xshr p1 (nI 6)))) ||| (xlshl (lN 1) (p1 &&& (nI 63)))))
set_option maxHeartbeats 4000000 in
set_option maxRecDepth 100000 in
theorem c_X3_mark {l : Launch} {X : xG} {h0 h1 g0 : Nat} {v_count : Int32} {v_sums : (Nat → Int64)} {p1 : Int32} {u : (Nat → Int64)} (hf : f_X3_mark v_sums p1 = some u) : Met l yX3_mark (xw yX3_mark cX3_mark 3 none) (xrm 0 0) (xPc [.ref h0, .int p1] X [(h0, xO 3 [.ref g0, .ref h1, .int v_count]), (h1, xJ X 16 v_sums)]) (xQw True (.returned none) X [(h0, xO 3 [.ref g0, .ref h1, .int v_count]), (h1, xJ X 16 u)] (xAs [(h0, xO 3 [.ref g0, .ref h1, .int v_count]), (h1, xJ X 16 v_sums)])) 0 0 (xAs [(h0, xO 3 [.ref g0, .ref h1, .int v_count]), (h1, xJ X 16 v_sums)]) := by
  refine xMetw (Qc := fun A => xQw True (.returned none) X [(h0, xO 3 [.ref g0, .ref h1, .int v_count]), (h1, xJ X 16 u)] A) (n := 1) md_X3_mark.1 (Nat.le_of_ble_eq_true rfl) ?_
  intro p e s m args below meth c ls A hC hr hlk hH hl
  have hl : lv_has ls 3 [(0, .ref h0), (1, .int p1)] := hl
  have hx := hC.1
  have hb := hC.2.1
  refine lv_iload_n hx hb dX3_mark_0 rfl (lv_at hl 1 rfl) ?_
  refine lv_bipush (v := (nI 6)) hx hb dX3_mark_1 (by decide) ?_
  refine x_ishr hx hb dX3_mark_3 ?_
  refine lv_istore_n (lv' := [(2, .int (xshr p1 (nI 6))), (0, .ref h0), (1, .int p1)]) hx hb dX3_mark_4 rfl hl (by decide) rfl (fun ls hl => ?_)
  refine lv_iload_n hx hb dX3_mark_5 rfl (lv_at hl 0 rfl) ?_
  refine lv_if_lt (tgt := 33) hx hb dX3_mark_6 (by decide) (fun c1 => ?_) (fun c1 => ?_)
  · have hf := xt c1 hf
    exact x_retvw (φ := fun _ => True) (wf := fun u : (Nat → Int64) => [(h0, xO 3 [.ref g0, .ref h1, .int v_count]), (h1, xJ X 16 u)]) hC hr hlk trivial hf hH rfl dX3_mark_33
  · have hf := xe c1 hf
    refine lv_iload_n hx hb dX3_mark_9 rfl (lv_at hl 0 rfl) ?_
    refine lv_aload_n hx hb dX3_mark_10 rfl (lv_at hl 1 rfl) ?_
    refine x_get hC fd_RX3_15 hH.1 0 rfl rfl dX3_mark_11 ?_
    refine x_alenL hC hH.1 1 rfl (v := (nI 16)) (by decide) dX3_mark_14 ?_
    refine lv_icmp_ge (tgt := 33) hx hb dX3_mark_15 (by decide) (fun c2 => ?_) (fun c2 => ?_)
    · have hf := xt c2 hf
      exact x_retvw (φ := fun _ => True) (wf := fun u : (Nat → Int64) => [(h0, xO 3 [.ref g0, .ref h1, .int v_count]), (h1, xJ X 16 u)]) hC hr hlk trivial hf hH rfl dX3_mark_33
    · have hf := xe c2 hf
      refine lv_aload_n hx hb dX3_mark_18 rfl (lv_at hl 1 rfl) ?_
      refine x_get hC fd_RX3_15 hH.1 0 rfl rfl dX3_mark_19 ?_
      refine lv_iload_n hx hb dX3_mark_22 rfl (lv_at hl 0 rfl) ?_
      refine lv_dup2_11 hx hb dX3_mark_23 rfl rfl ?_
      obtain ⟨n3, hf⟩ := xok hf
      refine x_lald hC hH.1 1 rfl n3 dX3_mark_24 ?_
      refine lv_lconst (v := (lN 1)) hx hb dX3_mark_25 (by decide) ?_
      refine lv_iload_n hx hb dX3_mark_26 rfl (lv_at hl 2 rfl) ?_
      refine lv_bipush (v := (nI 63)) hx hb dX3_mark_27 (by decide) ?_
      refine lv_iand hx hb dX3_mark_29 ?_
      refine x_lshl hx hb dX3_mark_30 ?_
      refine lv_lor hx hb dX3_mark_31 ?_
      obtain ⟨n4, hf⟩ := xok hf
      refine x_last (ws' := [(h0, xO 3 [.ref g0, .ref h1, .int v_count]), (h1, xJ X 16 (vp_updL v_sums (xat (xshr p1 (nI 6))) ((v_sums (xat (xshr p1 (nI 6)))) ||| (xlshl (lN 1) (p1 &&& (nI 63))))))]) hC hH 1 rfl n4 dX3_mark_32 rfl (fun H locs hH => ?_)
      exact x_retvw (φ := fun _ => True) (wf := fun u : (Nat → Int64) => [(h0, xO 3 [.ref g0, .ref h1, .int v_count]), (h1, xJ X 16 u)]) hC hr hlk trivial hf hH rfl dX3_mark_33
def f_X3_howManySums_L62 (s26 : Int32 × (Nat → Int64)) (s62 : Int32 × Int32) : Option ((((Int32 × (Nat → Int64)) ⊕ (Int32 × (Nat → Int64))) ⊕ (Int32 × (Nat → Int64))) ⊕ (Int32 × Int32)) :=
  if (nI 16) ≤ s62.2 then
    some (.inl (.inl (.inl (s62.1, s26.2))))
  else
  if xout s62.2 16 then none else
  (f_J13_bitCount_95d88 (s26.2 (xat s62.2))).bind fun u5 =>
  some (.inr (s62.1 + u5, s62.2 + (nI 1)))
def f_X3_howManySums_L26 (v_count : Int32) (v_ages : (Nat → Int32)) (p1 : Int32) (s26 : Int32 × (Nat → Int64)) : Option (((Int32 × (Nat → Int64)) ⊕ (Int32 × (Nat → Int64))) ⊕ (Int32 × (Nat → Int64))) :=
  if (xshl (nI 1) v_count) ≤ s26.1 then
    xloop (f_X3_howManySums_L62 s26) xN ((nI 0), (nI 0))
  else
  (f_X3_agesOf v_count v_ages s26.1).bind fun u6 =>
  if p1 < u6 then
    some (.inr (s26.1 + (nI 1), s26.2))
  else
  (f_X3_mark s26.2 u6).bind fun u8 =>
  some (.inr (s26.1 + (nI 1), u8))
def f_X3_howManySums_L2 (v_count : Int32) (v_ages : (Nat → Int32)) (p1 : Int32) (s2 : Int32 × (Nat → Int64)) : Option ((Int32 × (Nat → Int64)) ⊕ (Int32 × (Nat → Int64))) :=
  if (nI 16) ≤ s2.1 then
    xloop (f_X3_howManySums_L26 v_count v_ages p1) xN ((nI 0), s2.2)
  else
  if xout s2.1 16 then none else
  some (.inr (s2.1 + (nI 1), vp_updL s2.2 (xat s2.1) (lN 0)))
def f_X3_howManySums (v_count : Int32) (v_ages : (Nat → Int32)) (v_sums : (Nat → Int64)) (p1 : Int32) : Option (Int32 × (Nat → Int64)) :=
  xloop (f_X3_howManySums_L2 v_count v_ages p1) xN ((nI 0), v_sums)
set_option maxHeartbeats 4000000 in
set_option maxRecDepth 100000 in
theorem c_X3_howManySums {l : Launch} {X : xG} {h0 h1 h2 : Nat} {v_count : Int32} {v_ages : (Nat → Int32)} {v_sums : (Nat → Int64)} {p1 : Int32} {u : Int32 × (Nat → Int64)} (hf : f_X3_howManySums v_count v_ages v_sums p1 = some u) : Met l yX3_howManySums (xw yX3_howManySums cX3_howManySums 4 (some .int)) (xrm 3 66) (xPc [.ref h0, .int p1] X [(h0, xO 3 [.ref h1, .ref h2, .int v_count]), (h1, xI X 10 v_ages), (h2, xJ X 16 v_sums)]) (xQw True (.returned (some (.int u.1))) X [(h0, xO 3 [.ref h1, .ref h2, .int v_count]), (h1, xI X 10 v_ages), (h2, xJ X 16 u.2)] (xAs [(h0, xO 3 [.ref h1, .ref h2, .int v_count]), (h1, xI X 10 v_ages), (h2, xJ X 16 v_sums)])) 0 0 (xAs [(h0, xO 3 [.ref h1, .ref h2, .int v_count]), (h1, xI X 10 v_ages), (h2, xJ X 16 v_sums)]) := by
  refine xMetw (Qc := fun A => xQw True (.returned (some (.int u.1))) X [(h0, xO 3 [.ref h1, .ref h2, .int v_count]), (h1, xI X 10 v_ages), (h2, xJ X 16 u.2)] A) (n := 1) md_X3_howManySums.1 (Nat.le_of_ble_eq_true rfl) ?_
  intro p e s m args below meth c ls A hC hr hlk hH hl
  have hl : lv_has ls 4 [(0, .ref h0), (1, .int p1)] := hl
  have hx := hC.1
  have hb := hC.2.1
  have L2 : ∀ (n : Nat) (s2 : Int32 × (Nat → Int64)), xloop (f_X3_howManySums_L2 v_count v_ages p1) n s2 = some u → ∀ (H : Heap) (locs : List Loc), xH X A [(h0, xO 3 [.ref h1, .ref h2, .int v_count]), (h1, xI X 10 v_ages), (h2, xJ X 16 s2.2)] s.heap H locs → ∀ (ls : Array Slot), lv_has ls 4 [(0, .ref h0), (1, .int p1), (2, .int s2.1)] → W p l e (xrm 3 66) s m args below meth c H locs 0 0 (MQ below (xQw True (.returned (some (.int u.1))) X [(h0, xO 3 [.ref h1, .ref h2, .int v_count]), (h1, xI X 10 v_ages), (h2, xJ X 16 u.2)] A) args s 0 0 A) (F0 m 2 ls []) := by
    intro  n
    induction n with
    | zero => intro s2 hf; exact xloop_0 hf
    | succ n ih2 =>
      intro s2 hf H locs hH ls hl
      obtain ⟨o2, hf, ho2⟩ := xloop_s hf
      have L26 : ∀ (n : Nat) (s26 : Int32 × (Nat → Int64)), xloop (f_X3_howManySums_L26 v_count v_ages p1) n s26 = some o2 → ∀ (H : Heap) (locs : List Loc), xH X A [(h0, xO 3 [.ref h1, .ref h2, .int v_count]), (h1, xI X 10 v_ages), (h2, xJ X 16 s26.2)] s.heap H locs → ∀ (ls : Array Slot), lv_has ls 4 [(0, .ref h0), (1, .int p1), (2, .int s26.1)] → W p l e (xrm 3 66) s m args below meth c H locs 0 0 (MQ below (xQw True (.returned (some (.int u.1))) X [(h0, xO 3 [.ref h1, .ref h2, .int v_count]), (h1, xI X 10 v_ages), (h2, xJ X 16 u.2)] A) args s 0 0 A) (F0 m 26 ls []) := by
        intro  n
        induction n with
        | zero => intro s26 hf; exact xloop_0 hf
        | succ n ih26 =>
          intro s26 hf H locs hH ls hl
          obtain ⟨o26, hf, ho26⟩ := xloop_s hf
          have L62 : ∀ (n : Nat) (s62 : Int32 × Int32), xloop (f_X3_howManySums_L62 s26) n s62 = some o26 → ∀ (H : Heap) (locs : List Loc), xH X A [(h0, xO 3 [.ref h1, .ref h2, .int v_count]), (h1, xI X 10 v_ages), (h2, xJ X 16 s26.2)] s.heap H locs → ∀ (ls : Array Slot), lv_has ls 4 [(0, .ref h0), (2, .int s62.1), (3, .int s62.2)] → W p l e (xrm 3 66) s m args below meth c H locs 0 0 (MQ below (xQw True (.returned (some (.int u.1))) X [(h0, xO 3 [.ref h1, .ref h2, .int v_count]), (h1, xI X 10 v_ages), (h2, xJ X 16 u.2)] A) args s 0 0 A) (F0 m 62 ls []) := by
            intro  n
            induction n with
            | zero => intro s62 hf; exact xloop_0 hf
            | succ n ih62 =>
              intro s62 hf H locs hH ls hl
              obtain ⟨o62, hf, ho62⟩ := xloop_s hf
              refine lv_iload_n hx hb dX3_howManySums_62 rfl (lv_at hl 2 rfl) ?_
              refine lv_aload_n hx hb dX3_howManySums_63 rfl (lv_at hl 0 rfl) ?_
              refine x_get hC fd_RX3_15 hH.1 0 rfl rfl dX3_howManySums_64 ?_
              refine x_alenL hC hH.1 2 rfl (v := (nI 16)) (by decide) dX3_howManySums_67 ?_
              refine lv_icmp_ge (tgt := 89) hx hb dX3_howManySums_68 (by decide) (fun c3 => ?_) (fun c3 => ?_)
              · have hf := xt c3 hf
                refine lv_iload_n hx hb dX3_howManySums_89 rfl (lv_at hl 1 rfl) ?_
                have hf := xo_ret hf ho62
                have hf := xo_ret hf ho26
                have hf := xo_ret hf ho2
                exact x_retiw (φ := fun _ => True) (f := fun u : Int32 × (Nat → Int64) => u.1) (wf := fun u : Int32 × (Nat → Int64) => [(h0, xO 3 [.ref h1, .ref h2, .int v_count]), (h1, xI X 10 v_ages), (h2, xJ X 16 u.2)]) hC hr hlk trivial hf hH rfl rfl dX3_howManySums_90
              · have hf := xe c3 hf
                refine lv_iload_n hx hb dX3_howManySums_71 rfl (lv_at hl 1 rfl) ?_
                refine lv_aload_n hx hb dX3_howManySums_72 rfl (lv_at hl 0 rfl) ?_
                refine x_get hC fd_RX3_15 hH.1 0 rfl rfl dX3_howManySums_73 ?_
                refine lv_iload_n hx hb dX3_howManySums_76 rfl (lv_at hl 2 rfl) ?_
                obtain ⟨n4, hf⟩ := xok hf
                refine x_lald hC hH.1 2 rfl n4 dX3_howManySums_77 ?_
                obtain ⟨u5, hf5, hf⟩ := xb hf
                refine x_ran (x_runS (rest := [.int s62.1]) (As := [.long (s26.2 (xat s62.2))]) hC mw_1178 md_J13_bitCount_95d88 (c_J13_bitCount_95d88 (X := X) hf5) hH [] rfl (by decide) hl.1 rfl rfl (Nat.le_of_ble_eq_true rfl) dX3_howManySums_78 ⟨Nat.le_of_ble_eq_true rfl, Nat.le_of_ble_eq_true rfl⟩ ⟨rfl, rfl⟩ ⟨Nat.le_refl _, Nat.le_refl _⟩) rfl (fun hz5 => ?_)
                refine lv_iadd hx hb dX3_howManySums_81 ?_
                refine lv_istore_n (lv' := [(2, .int (s62.1 + u5)), (0, .ref h0), (3, .int s62.2)]) hx hb dX3_howManySums_82 rfl hl (by decide) rfl (fun ls hl => ?_)
                refine lv_iinc (v := s62.2 + (nI 1)) (lv' := [(3, .int (s62.2 + (nI 1))), (2, .int (s62.1 + u5)), (0, .ref h0)]) hx hb dX3_howManySums_83 hl (k := 2) rfl rfl (by decide) rfl (fun ls hl => ?_)
                refine lv_goto (tgt := 62) hx hb dX3_howManySums_86 (by decide) ?_
                have hf := xo_go hf ho62
                exact ih62 (s62.1 + u5, s62.2 + (nI 1)) hf _ _ hH ls (lv_sub hl [2, 1, 0] rfl)
          refine lv_iload_n hx hb dX3_howManySums_26 rfl (lv_at hl 2 rfl) ?_
          refine lv_iconst (v := (nI 1)) hx hb dX3_howManySums_27 (by decide) ?_
          refine lv_aload_n hx hb dX3_howManySums_28 rfl (lv_at hl 0 rfl) ?_
          refine x_get hC fd_RX3_19 hH.1 0 rfl rfl dX3_howManySums_29 ?_
          refine x_ishl hx hb dX3_howManySums_32 ?_
          refine lv_icmp_ge (tgt := 58) hx hb dX3_howManySums_33 (by decide) (fun c2 => ?_) (fun c2 => ?_)
          · have hf := xt c2 hf
            refine lv_iconst (v := (nI 0)) hx hb dX3_howManySums_58 (by decide) ?_
            refine lv_istore_n (lv' := [(2, .int (nI 0)), (0, .ref h0), (1, .int p1)]) hx hb dX3_howManySums_59 rfl hl (by decide) rfl (fun ls hl => ?_)
            refine lv_iconst (v := (nI 0)) hx hb dX3_howManySums_60 (by decide) ?_
            refine lv_istore_n (lv' := [(3, .int (nI 0)), (2, .int (nI 0)), (0, .ref h0), (1, .int p1)]) hx hb dX3_howManySums_61 rfl hl (by decide) rfl (fun ls hl => ?_)
            exact L62 xN ((nI 0), (nI 0)) hf _ _ hH ls (lv_sub hl [2, 1, 0] rfl)
          · have hf := xe c2 hf
            refine lv_aload_n hx hb dX3_howManySums_36 rfl (lv_at hl 0 rfl) ?_
            refine lv_iload_n hx hb dX3_howManySums_37 rfl (lv_at hl 2 rfl) ?_
            obtain ⟨u6, hf6, hf⟩ := xb hf
            refine x_ran (x_runV (q0 := 0) (rest := []) (As := [.int s26.1]) hC mw_1132 md_X3_agesOf (c_X3_agesOf (X := X) hf6) hH [0, 1] rfl (by decide) rfl rfl rfl hl.1 rfl rfl (Nat.le_of_ble_eq_true rfl) dX3_howManySums_38 ⟨Nat.le_of_ble_eq_true rfl, Nat.le_of_ble_eq_true rfl⟩ ⟨rfl, rfl⟩ ⟨Nat.le_refl _, Nat.le_refl _⟩) rfl (fun hz6 => ?_)
            refine lv_istore_n (lv' := [(3, .int u6), (0, .ref h0), (1, .int p1), (2, .int s26.1)]) hx hb dX3_howManySums_41 rfl hl (by decide) rfl (fun ls hl => ?_)
            refine lv_iload_n hx hb dX3_howManySums_42 rfl (lv_at hl 0 rfl) ?_
            refine lv_iload_n hx hb dX3_howManySums_43 rfl (lv_at hl 2 rfl) ?_
            refine lv_icmp_gt (tgt := 52) hx hb dX3_howManySums_44 (by decide) (fun c7 => ?_) (fun c7 => ?_)
            · have hf := xt c7 hf
              refine lv_iinc (v := s26.1 + (nI 1)) (lv' := [(2, .int (s26.1 + (nI 1))), (3, .int u6), (0, .ref h0), (1, .int p1)]) hx hb dX3_howManySums_52 hl (k := 3) rfl rfl (by decide) rfl (fun ls hl => ?_)
              refine lv_goto (tgt := 26) hx hb dX3_howManySums_55 (by decide) ?_
              have hf := xo_go hf ho26
              exact ih26 (s26.1 + (nI 1), s26.2) hf _ _ hH ls (lv_sub hl [2, 3, 0] rfl)
            · have hf := xe c7 hf
              refine lv_aload_n hx hb dX3_howManySums_47 rfl (lv_at hl 1 rfl) ?_
              refine lv_iload_n hx hb dX3_howManySums_48 rfl (lv_at hl 0 rfl) ?_
              obtain ⟨u8, hf8, hf⟩ := xb hf
              refine x_ranw (ws' := [(h0, xO 3 [.ref h1, .ref h2, .int v_count]), (h1, xI X 10 v_ages), (h2, xJ X 16 u8)]) (x_runV (q0 := 0) (rest := []) (As := [.int u6]) hC mw_1174 md_X3_mark (c_X3_mark (X := X) hf8) hH [0, 2] rfl (by decide) rfl rfl rfl hl.1 rfl rfl (Nat.le_of_ble_eq_true rfl) dX3_howManySums_49 ⟨Nat.le_of_ble_eq_true rfl, Nat.le_of_ble_eq_true rfl⟩ ⟨rfl, rfl⟩ ⟨Nat.le_refl _, Nat.le_refl _⟩) hH [0, 2] rfl rfl rfl rfl rfl (fun hz8 H locs hH => ?_)
              refine lv_iinc (v := s26.1 + (nI 1)) (lv' := [(2, .int (s26.1 + (nI 1))), (3, .int u6), (0, .ref h0), (1, .int p1)]) hx hb dX3_howManySums_52 hl (k := 3) rfl rfl (by decide) rfl (fun ls hl => ?_)
              refine lv_goto (tgt := 26) hx hb dX3_howManySums_55 (by decide) ?_
              have hf := xo_go hf ho26
              exact ih26 (s26.1 + (nI 1), u8) hf _ _ hH ls (lv_sub hl [2, 3, 0] rfl)
      refine lv_iload_n hx hb dX3_howManySums_2 rfl (lv_at hl 2 rfl) ?_
      refine lv_aload_n hx hb dX3_howManySums_3 rfl (lv_at hl 0 rfl) ?_
      refine x_get hC fd_RX3_15 hH.1 0 rfl rfl dX3_howManySums_4 ?_
      refine x_alenL hC hH.1 2 rfl (v := (nI 16)) (by decide) dX3_howManySums_7 ?_
      refine lv_icmp_ge (tgt := 24) hx hb dX3_howManySums_8 (by decide) (fun c1 => ?_) (fun c1 => ?_)
      · have hf := xt c1 hf
        refine lv_iconst (v := (nI 0)) hx hb dX3_howManySums_24 (by decide) ?_
        refine lv_istore_n (lv' := [(2, .int (nI 0)), (0, .ref h0), (1, .int p1)]) hx hb dX3_howManySums_25 rfl hl (by decide) rfl (fun ls hl => ?_)
        exact L26 xN ((nI 0), s2.2) hf _ _ hH ls (lv_sub hl [1, 2, 0] rfl)
      · have hf := xe c1 hf
        refine lv_aload_n hx hb dX3_howManySums_11 rfl (lv_at hl 0 rfl) ?_
        refine x_get hC fd_RX3_15 hH.1 0 rfl rfl dX3_howManySums_12 ?_
        refine lv_iload_n hx hb dX3_howManySums_15 rfl (lv_at hl 2 rfl) ?_
        refine lv_lconst (v := (lN 0)) hx hb dX3_howManySums_16 (by decide) ?_
        obtain ⟨n9, hf⟩ := xok hf
        refine x_last (ws' := [(h0, xO 3 [.ref h1, .ref h2, .int v_count]), (h1, xI X 10 v_ages), (h2, xJ X 16 (vp_updL s2.2 (xat s2.1) (lN 0)))]) hC hH 2 rfl n9 dX3_howManySums_17 rfl (fun H locs hH => ?_)
        refine lv_iinc (v := s2.1 + (nI 1)) (lv' := [(2, .int (s2.1 + (nI 1))), (0, .ref h0), (1, .int p1)]) hx hb dX3_howManySums_18 hl (k := 2) rfl rfl (by decide) rfl (fun ls hl => ?_)
        refine lv_goto (tgt := 2) hx hb dX3_howManySums_21 (by decide) ?_
        have hf := xo_go hf ho2
        exact ih2 (s2.1 + (nI 1), vp_updL s2.2 (xat s2.1) (lN 0)) hf _ _ hH ls (lv_sub hl [1, 2, 0] rfl)
  refine lv_iconst (v := (nI 0)) hx hb dX3_howManySums_0 (by decide) ?_
  refine lv_istore_n (lv' := [(2, .int (nI 0)), (0, .ref h0), (1, .int p1)]) hx hb dX3_howManySums_1 rfl hl (by decide) rfl (fun ls hl => ?_)
  exact L2 xN ((nI 0), v_sums) hf _ _ hH ls (lv_sub hl [1, 2, 0] rfl)
def f_X3_nearestToHalf_L12 (v_count : Int32) (v_ages : (Nat → Int32)) (x12_1 : Int32) (s12 : Int32 × Int32 × Int32) : Option ((Int32) ⊕ (Int32 × Int32 × Int32)) :=
  if (xshl (nI 1) v_count) ≤ s12.2.2 then
    some (.inl s12.1)
  else
  (f_X3_agesOf v_count v_ages s12.2.2).bind fun u3 =>
  if s12.2.1 ≤ (xabs (((nI 2) * u3) - x12_1)) then
    some (.inr (s12.1, s12.2.1, s12.2.2 + (nI 1)))
  else
  some (.inr (s12.2.2, xabs (((nI 2) * u3) - x12_1), s12.2.2 + (nI 1)))
def f_X3_nearestToHalf (v_count : Int32) (v_ages : (Nat → Int32)) : Option (Int32) :=
  (f_X3_agesOfAll v_count v_ages).bind fun u1 =>
  xloop (f_X3_nearestToHalf_L12 v_count v_ages u1) xN ((nI 0), u1, (nI 1))
set_option maxHeartbeats 4000000 in
set_option maxRecDepth 100000 in
theorem c_X3_nearestToHalf {l : Launch} {X : xG} {h0 h1 g0 : Nat} {v_count : Int32} {v_ages : (Nat → Int32)} {u : Int32} (hf : f_X3_nearestToHalf v_count v_ages = some u) : Met l yX3_nearestToHalf (xw yX3_nearestToHalf cX3_nearestToHalf 6 (some .int)) (xrm 4 86) (xPc [.ref h0] X [(h0, xO 3 [.ref h1, .ref g0, .int v_count]), (h1, xI X 10 v_ages)]) (xQ True (.returned (some (.int u)))) 0 0 xNo := by
  refine xMet (n := 0) md_X3_nearestToHalf.1 (Nat.le_of_ble_eq_true rfl) ?_
  intro p e s m args below meth c ls A hC hr hlk hH hl
  have hl : lv_has ls 6 [(0, .ref h0)] := hl
  have hx := hC.1
  have hb := hC.2.1
  have L12 : ∀ (x12_1 : Int32) (n : Nat) (s12 : Int32 × Int32 × Int32), xloop (f_X3_nearestToHalf_L12 v_count v_ages x12_1) n s12 = some u → ∀ (ls : Array Slot), lv_has ls 6 [(0, .ref h0), (1, .int x12_1), (2, .int s12.1), (3, .int s12.2.1), (4, .int s12.2.2)] → W p l e (xrm 4 86) s m args below meth c s.heap [] 0 0 (MQ below (xQ True (.returned (some (.int u)))) args s 0 0 xNo) (F0 m 12 ls []) := by
    intro x12_1 n
    induction n with
    | zero => intro s12 hf; exact xloop_0 hf
    | succ n ih12 =>
      intro s12 hf ls hl
      obtain ⟨o12, hf, ho12⟩ := xloop_s hf
      refine lv_iload hx hb dX3_nearestToHalf_12 (lv_at hl 4 rfl) ?_
      refine lv_iconst (v := (nI 1)) hx hb dX3_nearestToHalf_14 (by decide) ?_
      refine lv_aload_n hx hb dX3_nearestToHalf_15 rfl (lv_at hl 0 rfl) ?_
      refine x_get hC fd_RX3_19 hH.1 0 rfl rfl dX3_nearestToHalf_16 ?_
      refine x_ishl hx hb dX3_nearestToHalf_19 ?_
      refine lv_icmp_ge (tgt := 56) hx hb dX3_nearestToHalf_20 (by decide) (fun c2 => ?_) (fun c2 => ?_)
      · have hf := xt c2 hf
        refine lv_iload_n hx hb dX3_nearestToHalf_56 rfl (lv_at hl 2 rfl) ?_
        have hf := xo_ret hf ho12
        exact x_reti hC hr hlk trivial hf dX3_nearestToHalf_57
      · have hf := xe c2 hf
        refine lv_iconst (v := (nI 2)) hx hb dX3_nearestToHalf_23 (by decide) ?_
        refine lv_aload_n hx hb dX3_nearestToHalf_24 rfl (lv_at hl 0 rfl) ?_
        refine lv_iload hx hb dX3_nearestToHalf_25 (lv_at hl 4 rfl) ?_
        obtain ⟨u3, hf3, hf⟩ := xb hf
        refine x_ran (x_runV (q0 := 0) (rest := [.int (nI 2)]) (As := [.int s12.2.2]) hC mw_1132 md_X3_agesOf (c_X3_agesOf (X := X) hf3) hH [0, 1] rfl (by decide) rfl rfl rfl hl.1 rfl rfl (Nat.le_of_ble_eq_true rfl) dX3_nearestToHalf_27 ⟨Nat.le_of_ble_eq_true rfl, Nat.le_of_ble_eq_true rfl⟩ ⟨rfl, rfl⟩ ⟨Nat.le_refl _, Nat.le_refl _⟩) rfl (fun hz3 => ?_)
        refine lv_imul hx hb dX3_nearestToHalf_30 ?_
        refine lv_iload_n hx hb dX3_nearestToHalf_31 rfl (lv_at hl 1 rfl) ?_
        refine lv_isub hx hb dX3_nearestToHalf_32 ?_
        refine x_abs hC hl.1 mw_1191 mw_1192 mw_477 mw_1193 (Nat.le_of_ble_eq_true rfl) (Nat.le_of_ble_eq_true rfl) (Nat.le_refl _) (Nat.le_refl _) dX3_nearestToHalf_33 ?_
        refine lv_istore (lv' := [(5, .int (xabs (((nI 2) * u3) - x12_1))), (0, .ref h0), (1, .int x12_1), (2, .int s12.1), (3, .int s12.2.1), (4, .int s12.2.2)]) hx hb dX3_nearestToHalf_36 hl (by decide) rfl (fun ls hl => ?_)
        refine lv_iload hx hb dX3_nearestToHalf_38 (lv_at hl 0 rfl) ?_
        refine lv_iload_n hx hb dX3_nearestToHalf_40 rfl (lv_at hl 4 rfl) ?_
        refine lv_icmp_ge (tgt := 50) hx hb dX3_nearestToHalf_41 (by decide) (fun c4 => ?_) (fun c4 => ?_)
        · have hf := xt c4 hf
          refine lv_iinc (v := s12.2.2 + (nI 1)) (lv' := [(4, .int (s12.2.2 + (nI 1))), (5, .int (xabs (((nI 2) * u3) - x12_1))), (0, .ref h0), (1, .int x12_1), (2, .int s12.1), (3, .int s12.2.1)]) hx hb dX3_nearestToHalf_50 hl (k := 5) rfl rfl (by decide) rfl (fun ls hl => ?_)
          refine lv_goto (tgt := 12) hx hb dX3_nearestToHalf_53 (by decide) ?_
          have hf := xo_go hf ho12
          exact ih12 (s12.1, s12.2.1, s12.2.2 + (nI 1)) hf ls (lv_sub hl [2, 3, 4, 5, 0] rfl)
        · have hf := xe c4 hf
          refine lv_iload hx hb dX3_nearestToHalf_44 (lv_at hl 5 rfl) ?_
          refine lv_istore_n (lv' := [(2, .int s12.2.2), (5, .int (xabs (((nI 2) * u3) - x12_1))), (0, .ref h0), (1, .int x12_1), (3, .int s12.2.1), (4, .int s12.2.2)]) hx hb dX3_nearestToHalf_46 rfl hl (by decide) rfl (fun ls hl => ?_)
          refine lv_iload hx hb dX3_nearestToHalf_47 (lv_at hl 1 rfl) ?_
          refine lv_istore_n (lv' := [(3, .int (xabs (((nI 2) * u3) - x12_1))), (2, .int s12.2.2), (5, .int (xabs (((nI 2) * u3) - x12_1))), (0, .ref h0), (1, .int x12_1), (4, .int s12.2.2)]) hx hb dX3_nearestToHalf_49 rfl hl (by decide) rfl (fun ls hl => ?_)
          refine lv_iinc (v := s12.2.2 + (nI 1)) (lv' := [(4, .int (s12.2.2 + (nI 1))), (3, .int (xabs (((nI 2) * u3) - x12_1))), (2, .int s12.2.2), (5, .int (xabs (((nI 2) * u3) - x12_1))), (0, .ref h0), (1, .int x12_1)]) hx hb dX3_nearestToHalf_50 hl (k := 5) rfl rfl (by decide) rfl (fun ls hl => ?_)
          refine lv_goto (tgt := 12) hx hb dX3_nearestToHalf_53 (by decide) ?_
          have hf := xo_go hf ho12
          exact ih12 (s12.2.2, xabs (((nI 2) * u3) - x12_1), s12.2.2 + (nI 1)) hf ls (lv_sub hl [4, 5, 2, 1, 0] rfl)
  refine lv_aload_n hx hb dX3_nearestToHalf_0 rfl (lv_at hl 0 rfl) ?_
  obtain ⟨u1, hf1, hf⟩ := xb hf
  refine x_ran (x_runV (q0 := 0) (rest := []) (As := []) hC mw_1194 md_X3_agesOfAll (c_X3_agesOfAll (X := X) hf1) hH [0, 1] rfl (by decide) rfl rfl rfl hl.1 rfl rfl (Nat.le_of_ble_eq_true rfl) dX3_nearestToHalf_1 ⟨Nat.le_of_ble_eq_true rfl, Nat.le_of_ble_eq_true rfl⟩ ⟨rfl, rfl⟩ ⟨Nat.le_refl _, Nat.le_refl _⟩) rfl (fun hz1 => ?_)
  refine lv_istore_n (lv' := [(1, .int u1), (0, .ref h0)]) hx hb dX3_nearestToHalf_4 rfl hl (by decide) rfl (fun ls hl => ?_)
  refine lv_iconst (v := (nI 0)) hx hb dX3_nearestToHalf_5 (by decide) ?_
  refine lv_istore_n (lv' := [(2, .int (nI 0)), (1, .int u1), (0, .ref h0)]) hx hb dX3_nearestToHalf_6 rfl hl (by decide) rfl (fun ls hl => ?_)
  refine lv_iload_n hx hb dX3_nearestToHalf_7 rfl (lv_at hl 1 rfl) ?_
  refine lv_istore_n (lv' := [(3, .int u1), (2, .int (nI 0)), (1, .int u1), (0, .ref h0)]) hx hb dX3_nearestToHalf_8 rfl hl (by decide) rfl (fun ls hl => ?_)
  refine lv_iconst (v := (nI 1)) hx hb dX3_nearestToHalf_9 (by decide) ?_
  refine lv_istore (lv' := [(4, .int (nI 1)), (3, .int u1), (2, .int (nI 0)), (1, .int u1), (0, .ref h0)]) hx hb dX3_nearestToHalf_10 hl (by decide) rfl (fun ls hl => ?_)
  exact L12 u1 xN ((nI 0), u1, (nI 1)) hf ls (lv_sub hl [4, 3, 2, 1, 0] rfl)
def f_X3_rankOf_L4 (v_count : Int32) (v_ages : (Nat → Int32)) (p1 : Int32) (s4 : Int32 × Int32) : Option ((Int32) ⊕ (Int32 × Int32)) :=
  if v_count ≤ s4.2 then
    some (.inl s4.1)
  else
  (f_X3_ageOf v_ages s4.2).bind fun u2 =>
  (f_X3_ageOf v_ages p1).bind fun u3 =>
  if u2 < u3 then
    some (.inr (s4.1 + (nI 1), s4.2 + (nI 1)))
  else
  (f_X3_ageOf v_ages s4.2).bind fun u5 =>
  (f_X3_ageOf v_ages p1).bind fun u6 =>
  if u5 = u6 then
    if p1 ≤ s4.2 then
      some (.inr (s4.1, s4.2 + (nI 1)))
    else
    some (.inr (s4.1 + (nI 1), s4.2 + (nI 1)))
  else
  some (.inr (s4.1, s4.2 + (nI 1)))
def f_X3_rankOf (v_count : Int32) (v_ages : (Nat → Int32)) (p1 : Int32) : Option (Int32) :=
  xloop (f_X3_rankOf_L4 v_count v_ages p1) xN ((nI 0), (nI 0))
set_option maxHeartbeats 4000000 in
set_option maxRecDepth 100000 in
theorem c_X3_rankOf {l : Launch} {X : xG} {h0 h1 g0 : Nat} {v_count : Int32} {v_ages : (Nat → Int32)} {p1 : Int32} {u : Int32} (hf : f_X3_rankOf v_count v_ages p1 = some u) : Met l yX3_rankOf (xw yX3_rankOf cX3_rankOf 4 (some .int)) (xrm 2 43) (xPc [.ref h0, .int p1] X [(h0, xO 3 [.ref h1, .ref g0, .int v_count]), (h1, xI X 10 v_ages)]) (xQ True (.returned (some (.int u)))) 0 0 xNo := by
  refine xMet (n := 1) md_X3_rankOf.1 (Nat.le_of_ble_eq_true rfl) ?_
  intro p e s m args below meth c ls A hC hr hlk hH hl
  have hl : lv_has ls 4 [(0, .ref h0), (1, .int p1)] := hl
  have hx := hC.1
  have hb := hC.2.1
  have L4 : ∀ (n : Nat) (s4 : Int32 × Int32), xloop (f_X3_rankOf_L4 v_count v_ages p1) n s4 = some u → ∀ (ls : Array Slot), lv_has ls 4 [(0, .ref h0), (1, .int p1), (2, .int s4.1), (3, .int s4.2)] → W p l e (xrm 2 43) s m args below meth c s.heap [] 0 0 (MQ below (xQ True (.returned (some (.int u)))) args s 0 0 xNo) (F0 m 4 ls []) := by
    intro  n
    induction n with
    | zero => intro s4 hf; exact xloop_0 hf
    | succ n ih4 =>
      intro s4 hf ls hl
      obtain ⟨o4, hf, ho4⟩ := xloop_s hf
      refine lv_iload_n hx hb dX3_rankOf_4 rfl (lv_at hl 3 rfl) ?_
      refine lv_aload_n hx hb dX3_rankOf_5 rfl (lv_at hl 0 rfl) ?_
      refine x_get hC fd_RX3_19 hH.1 0 rfl rfl dX3_rankOf_6 ?_
      refine lv_icmp_ge (tgt := 52) hx hb dX3_rankOf_9 (by decide) (fun c1 => ?_) (fun c1 => ?_)
      · have hf := xt c1 hf
        refine lv_iload_n hx hb dX3_rankOf_52 rfl (lv_at hl 2 rfl) ?_
        have hf := xo_ret hf ho4
        exact x_reti hC hr hlk trivial hf dX3_rankOf_53
      · have hf := xe c1 hf
        refine lv_aload_n hx hb dX3_rankOf_12 rfl (lv_at hl 0 rfl) ?_
        refine lv_iload_n hx hb dX3_rankOf_13 rfl (lv_at hl 3 rfl) ?_
        obtain ⟨u2, hf2, hf⟩ := xb hf
        refine x_ran (x_runV (q0 := 0) (rest := []) (As := [.int s4.2]) hC mw_456 md_X3_ageOf (c_X3_ageOf (X := X) hf2) hH [0, 1] rfl (by decide) rfl rfl rfl hl.1 rfl rfl (Nat.le_of_ble_eq_true rfl) dX3_rankOf_14 ⟨Nat.le_of_ble_eq_true rfl, Nat.le_of_ble_eq_true rfl⟩ ⟨rfl, rfl⟩ ⟨Nat.le_refl _, Nat.le_refl _⟩) rfl (fun hz2 => ?_)
        refine lv_aload_n hx hb dX3_rankOf_17 rfl (lv_at hl 0 rfl) ?_
        refine lv_iload_n hx hb dX3_rankOf_18 rfl (lv_at hl 1 rfl) ?_
        obtain ⟨u3, hf3, hf⟩ := xb hf
        refine x_ran (x_runV (q0 := 0) (rest := [.int u2]) (As := [.int p1]) hC mw_456 md_X3_ageOf (c_X3_ageOf (X := X) hf3) hH [0, 1] rfl (by decide) rfl rfl rfl hl.1 rfl rfl (Nat.le_of_ble_eq_true rfl) dX3_rankOf_19 ⟨Nat.le_of_ble_eq_true rfl, Nat.le_of_ble_eq_true rfl⟩ ⟨rfl, rfl⟩ ⟨Nat.le_refl _, Nat.le_refl _⟩) rfl (fun hz3 => ?_)
        refine lv_icmp_lt (tgt := 43) hx hb dX3_rankOf_22 (by decide) (fun c4 => ?_) (fun c4 => ?_)
        · have hf := xt c4 hf
          refine lv_iinc (v := s4.1 + (nI 1)) (lv' := [(2, .int (s4.1 + (nI 1))), (0, .ref h0), (1, .int p1), (3, .int s4.2)]) hx hb dX3_rankOf_43 hl (k := 2) rfl rfl (by decide) rfl (fun ls hl => ?_)
          refine lv_iinc (v := s4.2 + (nI 1)) (lv' := [(3, .int (s4.2 + (nI 1))), (2, .int (s4.1 + (nI 1))), (0, .ref h0), (1, .int p1)]) hx hb dX3_rankOf_46 hl (k := 3) rfl rfl (by decide) rfl (fun ls hl => ?_)
          refine lv_goto (tgt := 4) hx hb dX3_rankOf_49 (by decide) ?_
          have hf := xo_go hf ho4
          exact ih4 (s4.1 + (nI 1), s4.2 + (nI 1)) hf ls (lv_sub hl [2, 3, 1, 0] rfl)
        · have hf := xe c4 hf
          refine lv_aload_n hx hb dX3_rankOf_25 rfl (lv_at hl 0 rfl) ?_
          refine lv_iload_n hx hb dX3_rankOf_26 rfl (lv_at hl 3 rfl) ?_
          obtain ⟨u5, hf5, hf⟩ := xb hf
          refine x_ran (x_runV (q0 := 0) (rest := []) (As := [.int s4.2]) hC mw_456 md_X3_ageOf (c_X3_ageOf (X := X) hf5) hH [0, 1] rfl (by decide) rfl rfl rfl hl.1 rfl rfl (Nat.le_of_ble_eq_true rfl) dX3_rankOf_27 ⟨Nat.le_of_ble_eq_true rfl, Nat.le_of_ble_eq_true rfl⟩ ⟨rfl, rfl⟩ ⟨Nat.le_refl _, Nat.le_refl _⟩) rfl (fun hz5 => ?_)
          refine lv_aload_n hx hb dX3_rankOf_30 rfl (lv_at hl 0 rfl) ?_
          refine lv_iload_n hx hb dX3_rankOf_31 rfl (lv_at hl 1 rfl) ?_
          obtain ⟨u6, hf6, hf⟩ := xb hf
          refine x_ran (x_runV (q0 := 0) (rest := [.int u5]) (As := [.int p1]) hC mw_456 md_X3_ageOf (c_X3_ageOf (X := X) hf6) hH [0, 1] rfl (by decide) rfl rfl rfl hl.1 rfl rfl (Nat.le_of_ble_eq_true rfl) dX3_rankOf_32 ⟨Nat.le_of_ble_eq_true rfl, Nat.le_of_ble_eq_true rfl⟩ ⟨rfl, rfl⟩ ⟨Nat.le_refl _, Nat.le_refl _⟩) rfl (fun hz6 => ?_)
          refine lv_icmp_ne (tgt := 46) hx hb dX3_rankOf_35 (by decide) (fun c7 => ?_) (fun c7 => ?_)
          · have hf := xe c7 hf
            refine lv_iinc (v := s4.2 + (nI 1)) (lv' := [(3, .int (s4.2 + (nI 1))), (0, .ref h0), (1, .int p1), (2, .int s4.1)]) hx hb dX3_rankOf_46 hl (k := 3) rfl rfl (by decide) rfl (fun ls hl => ?_)
            refine lv_goto (tgt := 4) hx hb dX3_rankOf_49 (by decide) ?_
            have hf := xo_go hf ho4
            exact ih4 (s4.1, s4.2 + (nI 1)) hf ls (lv_sub hl [1, 2, 3, 0] rfl)
          · have hf := xt c7 hf
            refine lv_iload_n hx hb dX3_rankOf_38 rfl (lv_at hl 3 rfl) ?_
            refine lv_iload_n hx hb dX3_rankOf_39 rfl (lv_at hl 1 rfl) ?_
            refine lv_icmp_ge (tgt := 46) hx hb dX3_rankOf_40 (by decide) (fun c8 => ?_) (fun c8 => ?_)
            · have hf := xt c8 hf
              refine lv_iinc (v := s4.2 + (nI 1)) (lv' := [(3, .int (s4.2 + (nI 1))), (0, .ref h0), (1, .int p1), (2, .int s4.1)]) hx hb dX3_rankOf_46 hl (k := 3) rfl rfl (by decide) rfl (fun ls hl => ?_)
              refine lv_goto (tgt := 4) hx hb dX3_rankOf_49 (by decide) ?_
              have hf := xo_go hf ho4
              exact ih4 (s4.1, s4.2 + (nI 1)) hf ls (lv_sub hl [1, 2, 3, 0] rfl)
            · have hf := xe c8 hf
              refine lv_iinc (v := s4.1 + (nI 1)) (lv' := [(2, .int (s4.1 + (nI 1))), (0, .ref h0), (1, .int p1), (3, .int s4.2)]) hx hb dX3_rankOf_43 hl (k := 2) rfl rfl (by decide) rfl (fun ls hl => ?_)
              refine lv_iinc (v := s4.2 + (nI 1)) (lv' := [(3, .int (s4.2 + (nI 1))), (2, .int (s4.1 + (nI 1))), (0, .ref h0), (1, .int p1)]) hx hb dX3_rankOf_46 hl (k := 3) rfl rfl (by decide) rfl (fun ls hl => ?_)
              refine lv_goto (tgt := 4) hx hb dX3_rankOf_49 (by decide) ?_
              have hf := xo_go hf ho4
              exact ih4 (s4.1 + (nI 1), s4.2 + (nI 1)) hf ls (lv_sub hl [2, 3, 1, 0] rfl)
  refine lv_iconst (v := (nI 0)) hx hb dX3_rankOf_0 (by decide) ?_
  refine lv_istore_n (lv' := [(2, .int (nI 0)), (0, .ref h0), (1, .int p1)]) hx hb dX3_rankOf_1 rfl hl (by decide) rfl (fun ls hl => ?_)
  refine lv_iconst (v := (nI 0)) hx hb dX3_rankOf_2 (by decide) ?_
  refine lv_istore_n (lv' := [(3, .int (nI 0)), (2, .int (nI 0)), (0, .ref h0), (1, .int p1)]) hx hb dX3_rankOf_3 rfl hl (by decide) rfl (fun ls hl => ?_)
  exact L4 xN ((nI 0), (nI 0)) hf ls (lv_sub hl [2, 3, 1, 0] rfl)
def f_X3_withRank_L2 (v_count : Int32) (v_ages : (Nat → Int32)) (p1 : Int32) (s2 : Int32) : Option ((Int32) ⊕ (Int32)) :=
  if v_count ≤ s2 then
    some (.inl (-1 : Int32))
  else
  (f_X3_rankOf v_count v_ages s2).bind fun u2 =>
  if u2 = p1 then
    some (.inl s2)
  else
  some (.inr (s2 + (nI 1)))
def f_X3_withRank (v_count : Int32) (v_ages : (Nat → Int32)) (p1 : Int32) : Option (Int32) :=
  xloop (f_X3_withRank_L2 v_count v_ages p1) xN (nI 0)
set_option maxHeartbeats 4000000 in
set_option maxRecDepth 100000 in
theorem c_X3_withRank {l : Launch} {X : xG} {h0 h1 g0 : Nat} {v_count : Int32} {v_ages : (Nat → Int32)} {p1 : Int32} {u : Int32} (hf : f_X3_withRank v_count v_ages p1 = some u) : Met l yX3_withRank (xw yX3_withRank cX3_withRank 3 (some .int)) (xrm 3 66) (xPc [.ref h0, .int p1] X [(h0, xO 3 [.ref h1, .ref g0, .int v_count]), (h1, xI X 10 v_ages)]) (xQ True (.returned (some (.int u)))) 0 0 xNo := by
  refine xMet (n := 1) md_X3_withRank.1 (Nat.le_of_ble_eq_true rfl) ?_
  intro p e s m args below meth c ls A hC hr hlk hH hl
  have hl : lv_has ls 3 [(0, .ref h0), (1, .int p1)] := hl
  have hx := hC.1
  have hb := hC.2.1
  have L2 : ∀ (n : Nat) (s2 : Int32), xloop (f_X3_withRank_L2 v_count v_ages p1) n s2 = some u → ∀ (ls : Array Slot), lv_has ls 3 [(0, .ref h0), (1, .int p1), (2, .int s2)] → W p l e (xrm 3 66) s m args below meth c s.heap [] 0 0 (MQ below (xQ True (.returned (some (.int u)))) args s 0 0 xNo) (F0 m 2 ls []) := by
    intro  n
    induction n with
    | zero => intro s2 hf; exact xloop_0 hf
    | succ n ih2 =>
      intro s2 hf ls hl
      obtain ⟨o2, hf, ho2⟩ := xloop_s hf
      refine lv_iload_n hx hb dX3_withRank_2 rfl (lv_at hl 2 rfl) ?_
      refine lv_aload_n hx hb dX3_withRank_3 rfl (lv_at hl 0 rfl) ?_
      refine x_get hC fd_RX3_19 hH.1 0 rfl rfl dX3_withRank_4 ?_
      refine lv_icmp_ge (tgt := 27) hx hb dX3_withRank_7 (by decide) (fun c1 => ?_) (fun c1 => ?_)
      · have hf := xt c1 hf
        refine lv_iconst (v := (-1 : Int32)) hx hb dX3_withRank_27 (by decide) ?_
        have hf := xo_ret hf ho2
        exact x_reti hC hr hlk trivial hf dX3_withRank_28
      · have hf := xe c1 hf
        refine lv_aload_n hx hb dX3_withRank_10 rfl (lv_at hl 0 rfl) ?_
        refine lv_iload_n hx hb dX3_withRank_11 rfl (lv_at hl 2 rfl) ?_
        obtain ⟨u2, hf2, hf⟩ := xb hf
        refine x_ran (x_runV (q0 := 0) (rest := []) (As := [.int s2]) hC mw_1211 md_X3_rankOf (c_X3_rankOf (X := X) hf2) hH [0, 1] rfl (by decide) rfl rfl rfl hl.1 rfl rfl (Nat.le_of_ble_eq_true rfl) dX3_withRank_12 ⟨Nat.le_of_ble_eq_true rfl, Nat.le_of_ble_eq_true rfl⟩ ⟨rfl, rfl⟩ ⟨Nat.le_refl _, Nat.le_refl _⟩) rfl (fun hz2 => ?_)
        refine lv_iload_n hx hb dX3_withRank_15 rfl (lv_at hl 1 rfl) ?_
        refine lv_icmp_ne (tgt := 21) hx hb dX3_withRank_16 (by decide) (fun c3 => ?_) (fun c3 => ?_)
        · have hf := xe c3 hf
          refine lv_iinc (v := s2 + (nI 1)) (lv' := [(2, .int (s2 + (nI 1))), (0, .ref h0), (1, .int p1)]) hx hb dX3_withRank_21 hl (k := 2) rfl rfl (by decide) rfl (fun ls hl => ?_)
          refine lv_goto (tgt := 2) hx hb dX3_withRank_24 (by decide) ?_
          have hf := xo_go hf ho2
          exact ih2 (s2 + (nI 1)) hf ls (lv_sub hl [1, 2, 0] rfl)
        · have hf := xt c3 hf
          refine lv_iload_n hx hb dX3_withRank_19 rfl (lv_at hl 2 rfl) ?_
          have hf := xo_ret hf ho2
          exact x_reti hC hr hlk trivial hf dX3_withRank_20
  refine lv_iconst (v := (nI 0)) hx hb dX3_withRank_0 (by decide) ?_
  refine lv_istore_n (lv' := [(2, .int (nI 0)), (0, .ref h0), (1, .int p1)]) hx hb dX3_withRank_1 rfl hl (by decide) rfl (fun ls hl => ?_)
  exact L2 xN (nI 0) hf ls (lv_sub hl [1, 2, 0] rfl)
def f_X3_firstOldest_L4 (v_count : Int32) (v_ages : (Nat → Int32)) (s4 : Int32 × Int32) : Option ((Int32) ⊕ (Int32 × Int32)) :=
  if v_count ≤ s4.2 then
    some (.inl s4.1)
  else
  (f_X3_ageOf v_ages s4.2).bind fun u2 =>
  (f_X3_ageOf v_ages s4.1).bind fun u3 =>
  if u2 ≤ u3 then
    some (.inr (s4.1, s4.2 + (nI 1)))
  else
  some (.inr (s4.2, s4.2 + (nI 1)))
def f_X3_firstOldest (v_count : Int32) (v_ages : (Nat → Int32)) : Option (Int32) :=
  xloop (f_X3_firstOldest_L4 v_count v_ages) xN ((nI 0), (nI 1))
set_option maxHeartbeats 4000000 in
set_option maxRecDepth 100000 in
theorem c_X3_firstOldest {l : Launch} {X : xG} {h0 h1 g0 : Nat} {v_count : Int32} {v_ages : (Nat → Int32)} {u : Int32} (hf : f_X3_firstOldest v_count v_ages = some u) : Met l yX3_firstOldest (xw yX3_firstOldest cX3_firstOldest 3 (some .int)) (xrm 2 43) (xPc [.ref h0] X [(h0, xO 3 [.ref h1, .ref g0, .int v_count]), (h1, xI X 10 v_ages)]) (xQ True (.returned (some (.int u)))) 0 0 xNo := by
  refine xMet (n := 0) md_X3_firstOldest.1 (Nat.le_of_ble_eq_true rfl) ?_
  intro p e s m args below meth c ls A hC hr hlk hH hl
  have hl : lv_has ls 3 [(0, .ref h0)] := hl
  have hx := hC.1
  have hb := hC.2.1
  have L4 : ∀ (n : Nat) (s4 : Int32 × Int32), xloop (f_X3_firstOldest_L4 v_count v_ages) n s4 = some u → ∀ (ls : Array Slot), lv_has ls 3 [(0, .ref h0), (1, .int s4.1), (2, .int s4.2)] → W p l e (xrm 2 43) s m args below meth c s.heap [] 0 0 (MQ below (xQ True (.returned (some (.int u)))) args s 0 0 xNo) (F0 m 4 ls []) := by
    intro  n
    induction n with
    | zero => intro s4 hf; exact xloop_0 hf
    | succ n ih4 =>
      intro s4 hf ls hl
      obtain ⟨o4, hf, ho4⟩ := xloop_s hf
      refine lv_iload_n hx hb dX3_firstOldest_4 rfl (lv_at hl 2 rfl) ?_
      refine lv_aload_n hx hb dX3_firstOldest_5 rfl (lv_at hl 0 rfl) ?_
      refine x_get hC fd_RX3_19 hH.1 0 rfl rfl dX3_firstOldest_6 ?_
      refine lv_icmp_ge (tgt := 33) hx hb dX3_firstOldest_9 (by decide) (fun c1 => ?_) (fun c1 => ?_)
      · have hf := xt c1 hf
        refine lv_iload_n hx hb dX3_firstOldest_33 rfl (lv_at hl 1 rfl) ?_
        have hf := xo_ret hf ho4
        exact x_reti hC hr hlk trivial hf dX3_firstOldest_34
      · have hf := xe c1 hf
        refine lv_aload_n hx hb dX3_firstOldest_12 rfl (lv_at hl 0 rfl) ?_
        refine lv_iload_n hx hb dX3_firstOldest_13 rfl (lv_at hl 2 rfl) ?_
        obtain ⟨u2, hf2, hf⟩ := xb hf
        refine x_ran (x_runV (q0 := 0) (rest := []) (As := [.int s4.2]) hC mw_456 md_X3_ageOf (c_X3_ageOf (X := X) hf2) hH [0, 1] rfl (by decide) rfl rfl rfl hl.1 rfl rfl (Nat.le_of_ble_eq_true rfl) dX3_firstOldest_14 ⟨Nat.le_of_ble_eq_true rfl, Nat.le_of_ble_eq_true rfl⟩ ⟨rfl, rfl⟩ ⟨Nat.le_refl _, Nat.le_refl _⟩) rfl (fun hz2 => ?_)
        refine lv_aload_n hx hb dX3_firstOldest_17 rfl (lv_at hl 0 rfl) ?_
        refine lv_iload_n hx hb dX3_firstOldest_18 rfl (lv_at hl 1 rfl) ?_
        obtain ⟨u3, hf3, hf⟩ := xb hf
        refine x_ran (x_runV (q0 := 0) (rest := [.int u2]) (As := [.int s4.1]) hC mw_456 md_X3_ageOf (c_X3_ageOf (X := X) hf3) hH [0, 1] rfl (by decide) rfl rfl rfl hl.1 rfl rfl (Nat.le_of_ble_eq_true rfl) dX3_firstOldest_19 ⟨Nat.le_of_ble_eq_true rfl, Nat.le_of_ble_eq_true rfl⟩ ⟨rfl, rfl⟩ ⟨Nat.le_refl _, Nat.le_refl _⟩) rfl (fun hz3 => ?_)
        refine lv_icmp_le (tgt := 27) hx hb dX3_firstOldest_22 (by decide) (fun c4 => ?_) (fun c4 => ?_)
        · have hf := xt c4 hf
          refine lv_iinc (v := s4.2 + (nI 1)) (lv' := [(2, .int (s4.2 + (nI 1))), (0, .ref h0), (1, .int s4.1)]) hx hb dX3_firstOldest_27 hl (k := 2) rfl rfl (by decide) rfl (fun ls hl => ?_)
          refine lv_goto (tgt := 4) hx hb dX3_firstOldest_30 (by decide) ?_
          have hf := xo_go hf ho4
          exact ih4 (s4.1, s4.2 + (nI 1)) hf ls (lv_sub hl [1, 2, 0] rfl)
        · have hf := xe c4 hf
          refine lv_iload_n hx hb dX3_firstOldest_25 rfl (lv_at hl 2 rfl) ?_
          refine lv_istore_n (lv' := [(1, .int s4.2), (0, .ref h0), (2, .int s4.2)]) hx hb dX3_firstOldest_26 rfl hl (by decide) rfl (fun ls hl => ?_)
          refine lv_iinc (v := s4.2 + (nI 1)) (lv' := [(2, .int (s4.2 + (nI 1))), (1, .int s4.2), (0, .ref h0)]) hx hb dX3_firstOldest_27 hl (k := 2) rfl rfl (by decide) rfl (fun ls hl => ?_)
          refine lv_goto (tgt := 4) hx hb dX3_firstOldest_30 (by decide) ?_
          have hf := xo_go hf ho4
          exact ih4 (s4.2, s4.2 + (nI 1)) hf ls (lv_sub hl [2, 1, 0] rfl)
  refine lv_iconst (v := (nI 0)) hx hb dX3_firstOldest_0 (by decide) ?_
  refine lv_istore_n (lv' := [(1, .int (nI 0)), (0, .ref h0)]) hx hb dX3_firstOldest_1 rfl hl (by decide) rfl (fun ls hl => ?_)
  refine lv_iconst (v := (nI 1)) hx hb dX3_firstOldest_2 (by decide) ?_
  refine lv_istore_n (lv' := [(2, .int (nI 1)), (1, .int (nI 0)), (0, .ref h0)]) hx hb dX3_firstOldest_3 rfl hl (by decide) rfl (fun ls hl => ?_)
  exact L4 xN ((nI 0), (nI 1)) hf ls (lv_sub hl [2, 1, 0] rfl)
def f_X4_isShelf (p0 : Int32) : Option (Int32) :=
  (f_X6_isWithin p0 (nI 0) (nI 7)).bind fun u1 =>
  some u1
set_option maxHeartbeats 4000000 in
set_option maxRecDepth 100000 in
theorem c_X4_isShelf {l : Launch} {X : xG} {p0 : Int32} {u : Int32} (hf : f_X4_isShelf p0 = some u) : Met l yX4_isShelf (xw yX4_isShelf cX4_isShelf 1 (some .boolean)) (xrm 1 22) (xPc [.int p0] X []) (xQ (u = 0 ∨ u = 1) (.returned (some (.int u)))) 0 0 xNo := by
  refine xMet (n := 1) md_X4_isShelf.1 (Nat.le_of_ble_eq_true rfl) ?_
  intro p e s m args below meth c ls A hC hr hlk hH hl
  have hl : lv_has ls 1 [(0, .int p0)] := hl
  have hx := hC.1
  have hb := hC.2.1
  refine lv_iload_n hx hb dX4_isShelf_0 rfl (lv_at hl 0 rfl) ?_
  refine lv_iconst (v := (nI 0)) hx hb dX4_isShelf_1 (by decide) ?_
  refine lv_bipush (v := (nI 7)) hx hb dX4_isShelf_2 (by decide) ?_
  obtain ⟨u1, hf1, hf⟩ := xb hf
  refine x_ran (x_runSN (rest := []) (As := [.int p0, .int (nI 0), .int (nI 7)]) hC mn_RX4_22 md_X6_isWithin (c_X6_isWithin (X := X) hf1) hH [] rfl (by decide) hl.1 rfl rfl (Nat.le_of_ble_eq_true rfl) dX4_isShelf_4 ⟨Nat.le_of_ble_eq_true rfl, Nat.le_of_ble_eq_true rfl⟩ ⟨rfl, rfl⟩ ⟨Nat.le_refl _, Nat.le_refl _⟩) rfl (fun hz1 => ?_)
  exact x_retz hC hr hlk hz1 hf dX4_isShelf_7
def f_X4_heldOn (v_held : (Nat → Int32)) (p1 : Int32) : Option (Int32) :=
  (f_X6_elementOf 8 v_held p1 (-1 : Int32)).bind fun u1 =>
  some u1
set_option maxHeartbeats 4000000 in
set_option maxRecDepth 100000 in
theorem c_X4_heldOn {l : Launch} {X : xG} {h0 h1 g0 g1 : Nat} {v_held : (Nat → Int32)} {p1 : Int32} {u : Int32} (hf : f_X4_heldOn v_held p1 = some u) : Met l yX4_heldOn (xw yX4_heldOn cX4_heldOn 2 (some .int)) (xrm 1 22) (xPc [.ref h0, .int p1] X [(h0, xO 4 [.ref h1, .ref g0, .ref g1]), (h1, xI X 8 v_held)]) (xQ True (.returned (some (.int u)))) 0 0 xNo := by
  refine xMet (n := 1) md_X4_heldOn.1 (Nat.le_of_ble_eq_true rfl) ?_
  intro p e s m args below meth c ls A hC hr hlk hH hl
  have hl : lv_has ls 2 [(0, .ref h0), (1, .int p1)] := hl
  have hx := hC.1
  have hb := hC.2.1
  refine lv_aload_n hx hb dX4_heldOn_0 rfl (lv_at hl 0 rfl) ?_
  refine x_get hC fd_RX4_11 hH.1 0 rfl rfl dX4_heldOn_1 ?_
  refine lv_iload_n hx hb dX4_heldOn_4 rfl (lv_at hl 1 rfl) ?_
  refine lv_iconst (v := (-1 : Int32)) hx hb dX4_heldOn_5 (by decide) ?_
  obtain ⟨u1, hf1, hf⟩ := xb hf
  refine x_ran (x_runSN (rest := []) (As := [.ref h1, .int p1, .int (-1 : Int32)]) hC mn_RX4_26 md_X6_elementOf (c_X6_elementOf (X := X) hf1) hH [1] rfl (by decide) hl.1 rfl rfl (Nat.le_of_ble_eq_true rfl) dX4_heldOn_6 ⟨Nat.le_of_ble_eq_true rfl, Nat.le_of_ble_eq_true rfl⟩ ⟨rfl, rfl⟩ ⟨Nat.le_refl _, Nat.le_refl _⟩) rfl (fun hz1 => ?_)
  exact x_reti hC hr hlk trivial hf dX4_heldOn_9
def f_X4_holdsRow (v_held : (Nat → Int32)) (p1 : Int32) : Option (Int32) :=
  (f_X4_heldOn v_held p1).bind fun u1 =>
  (f_X6_isWithin u1 (nI 0) (nI 4)).bind fun u2 =>
  some u2
set_option maxHeartbeats 4000000 in
set_option maxRecDepth 100000 in
theorem c_X4_holdsRow {l : Launch} {X : xG} {h0 h1 g0 g1 : Nat} {v_held : (Nat → Int32)} {p1 : Int32} {u : Int32} (hf : f_X4_holdsRow v_held p1 = some u) : Met l yX4_holdsRow (xw yX4_holdsRow cX4_holdsRow 2 (some .boolean)) (xrm 2 43) (xPc [.ref h0, .int p1] X [(h0, xO 4 [.ref h1, .ref g0, .ref g1]), (h1, xI X 8 v_held)]) (xQ (u = 0 ∨ u = 1) (.returned (some (.int u)))) 0 0 xNo := by
  refine xMet (n := 1) md_X4_holdsRow.1 (Nat.le_of_ble_eq_true rfl) ?_
  intro p e s m args below meth c ls A hC hr hlk hH hl
  have hl : lv_has ls 2 [(0, .ref h0), (1, .int p1)] := hl
  have hx := hC.1
  have hb := hC.2.1
  refine lv_aload_n hx hb dX4_holdsRow_0 rfl (lv_at hl 0 rfl) ?_
  refine lv_iload_n hx hb dX4_holdsRow_1 rfl (lv_at hl 1 rfl) ?_
  obtain ⟨u1, hf1, hf⟩ := xb hf
  refine x_ran (x_runV (q0 := 0) (rest := []) (As := [.int p1]) hC mw_126 md_X4_heldOn (c_X4_heldOn (X := X) hf1) hH [0, 1] rfl (by decide) rfl rfl rfl hl.1 rfl rfl (Nat.le_of_ble_eq_true rfl) dX4_holdsRow_2 ⟨Nat.le_of_ble_eq_true rfl, Nat.le_of_ble_eq_true rfl⟩ ⟨rfl, rfl⟩ ⟨Nat.le_refl _, Nat.le_refl _⟩) rfl (fun hz1 => ?_)
  refine lv_iconst (v := (nI 0)) hx hb dX4_holdsRow_5 (by decide) ?_
  refine lv_iconst (v := (nI 4)) hx hb dX4_holdsRow_6 (by decide) ?_
  obtain ⟨u2, hf2, hf⟩ := xb hf
  refine x_ran (x_runSN (rest := []) (As := [.int u1, .int (nI 0), .int (nI 4)]) hC mn_RX4_22 md_X6_isWithin (c_X6_isWithin (X := X) hf2) hH [] rfl (by decide) hl.1 rfl rfl (Nat.le_of_ble_eq_true rfl) dX4_holdsRow_7 ⟨Nat.le_of_ble_eq_true rfl, Nat.le_of_ble_eq_true rfl⟩ ⟨rfl, rfl⟩ ⟨Nat.le_refl _, Nat.le_refl _⟩) rfl (fun hz2 => ?_)
  exact x_retz hC hr hlk hz2 hf dX4_holdsRow_10
def f_X4_lawOn (v_held : (Nat → Int32)) (p1 : Int32) : Option (Int32) :=
  (f_X4_heldOn v_held p1).bind fun u1 =>
  if u1 < (nI 10) then
    some (-1 : Int32)
  else
  (f_X4_heldOn v_held p1).bind fun u3 =>
  some (u3 - (nI 10))
set_option maxHeartbeats 4000000 in
set_option maxRecDepth 100000 in
theorem c_X4_lawOn {l : Launch} {X : xG} {h0 h1 g0 g1 : Nat} {v_held : (Nat → Int32)} {p1 : Int32} {u : Int32} (hf : f_X4_lawOn v_held p1 = some u) : Met l yX4_lawOn (xw yX4_lawOn cX4_lawOn 2 (some .int)) (xrm 2 43) (xPc [.ref h0, .int p1] X [(h0, xO 4 [.ref h1, .ref g0, .ref g1]), (h1, xI X 8 v_held)]) (xQ True (.returned (some (.int u)))) 0 0 xNo := by
  refine xMet (n := 1) md_X4_lawOn.1 (Nat.le_of_ble_eq_true rfl) ?_
  intro p e s m args below meth c ls A hC hr hlk hH hl
  have hl : lv_has ls 2 [(0, .ref h0), (1, .int p1)] := hl
  have hx := hC.1
  have hb := hC.2.1
  refine lv_aload_n hx hb dX4_lawOn_0 rfl (lv_at hl 0 rfl) ?_
  refine lv_iload_n hx hb dX4_lawOn_1 rfl (lv_at hl 1 rfl) ?_
  obtain ⟨u1, hf1, hf⟩ := xb hf
  refine x_ran (x_runV (q0 := 0) (rest := []) (As := [.int p1]) hC mw_126 md_X4_heldOn (c_X4_heldOn (X := X) hf1) hH [0, 1] rfl (by decide) rfl rfl rfl hl.1 rfl rfl (Nat.le_of_ble_eq_true rfl) dX4_lawOn_2 ⟨Nat.le_of_ble_eq_true rfl, Nat.le_of_ble_eq_true rfl⟩ ⟨rfl, rfl⟩ ⟨Nat.le_refl _, Nat.le_refl _⟩) rfl (fun hz1 => ?_)
  refine lv_bipush (v := (nI 10)) hx hb dX4_lawOn_5 (by decide) ?_
  refine lv_icmp_lt (tgt := 21) hx hb dX4_lawOn_7 (by decide) (fun c2 => ?_) (fun c2 => ?_)
  · have hf := xt c2 hf
    refine lv_iconst (v := (-1 : Int32)) hx hb dX4_lawOn_21 (by decide) ?_
    exact x_reti hC hr hlk trivial hf dX4_lawOn_22
  · have hf := xe c2 hf
    refine lv_aload_n hx hb dX4_lawOn_10 rfl (lv_at hl 0 rfl) ?_
    refine lv_iload_n hx hb dX4_lawOn_11 rfl (lv_at hl 1 rfl) ?_
    obtain ⟨u3, hf3, hf⟩ := xb hf
    refine x_ran (x_runV (q0 := 0) (rest := []) (As := [.int p1]) hC mw_126 md_X4_heldOn (c_X4_heldOn (X := X) hf3) hH [0, 1] rfl (by decide) rfl rfl rfl hl.1 rfl rfl (Nat.le_of_ble_eq_true rfl) dX4_lawOn_12 ⟨Nat.le_of_ble_eq_true rfl, Nat.le_of_ble_eq_true rfl⟩ ⟨rfl, rfl⟩ ⟨Nat.le_refl _, Nat.le_refl _⟩) rfl (fun hz3 => ?_)
    refine lv_bipush (v := (nI 10)) hx hb dX4_lawOn_15 (by decide) ?_
    refine lv_isub hx hb dX4_lawOn_17 ?_
    refine lv_goto (tgt := 22) hx hb dX4_lawOn_18 (by decide) ?_
    exact x_reti hC hr hlk trivial hf dX4_lawOn_22
def f_X4_sizeOf (v_sizes : (Nat → Int32)) (p1 : Int32) : Option (Int32) :=
  (f_X6_elementOf 8 v_sizes p1 (nI 0)).bind fun u1 =>
  some u1
set_option maxHeartbeats 4000000 in
set_option maxRecDepth 100000 in
theorem c_X4_sizeOf {l : Launch} {X : xG} {h0 h1 g0 g1 : Nat} {v_sizes : (Nat → Int32)} {p1 : Int32} {u : Int32} (hf : f_X4_sizeOf v_sizes p1 = some u) : Met l yX4_sizeOf (xw yX4_sizeOf cX4_sizeOf 2 (some .int)) (xrm 1 22) (xPc [.ref h0, .int p1] X [(h0, xO 4 [.ref g0, .ref h1, .ref g1]), (h1, xI X 8 v_sizes)]) (xQ True (.returned (some (.int u)))) 0 0 xNo := by
  refine xMet (n := 1) md_X4_sizeOf.1 (Nat.le_of_ble_eq_true rfl) ?_
  intro p e s m args below meth c ls A hC hr hlk hH hl
  have hl : lv_has ls 2 [(0, .ref h0), (1, .int p1)] := hl
  have hx := hC.1
  have hb := hC.2.1
  refine lv_aload_n hx hb dX4_sizeOf_0 rfl (lv_at hl 0 rfl) ?_
  refine x_get hC fd_RX4_15 hH.1 0 rfl rfl dX4_sizeOf_1 ?_
  refine lv_iload_n hx hb dX4_sizeOf_4 rfl (lv_at hl 1 rfl) ?_
  refine lv_iconst (v := (nI 0)) hx hb dX4_sizeOf_5 (by decide) ?_
  obtain ⟨u1, hf1, hf⟩ := xb hf
  refine x_ran (x_runSN (rest := []) (As := [.ref h1, .int p1, .int (nI 0)]) hC mn_RX4_26 md_X6_elementOf (c_X6_elementOf (X := X) hf1) hH [1] rfl (by decide) hl.1 rfl rfl (Nat.le_of_ble_eq_true rfl) dX4_sizeOf_6 ⟨Nat.le_of_ble_eq_true rfl, Nat.le_of_ble_eq_true rfl⟩ ⟨rfl, rfl⟩ ⟨Nat.le_refl _, Nat.le_refl _⟩) rfl (fun hz1 => ?_)
  exact x_reti hC hr hlk trivial hf dX4_sizeOf_9
def f_X4_howManyHold_L4 (v_held : (Nat → Int32)) (s4 : Int32 × Int32) : Option ((Int32) ⊕ (Int32 × Int32)) :=
  if (nI 8) ≤ s4.2 then
    some (.inl s4.1)
  else
  (f_X4_heldOn v_held s4.2).bind fun u2 =>
  if u2 = (-1 : Int32) then
    some (.inr (s4.1 + (nI 0), s4.2 + (nI 1)))
  else
  some (.inr (s4.1 + (nI 1), s4.2 + (nI 1)))
def f_X4_howManyHold (v_held : (Nat → Int32)) : Option (Int32) :=
  xloop (f_X4_howManyHold_L4 v_held) xN ((nI 0), (nI 0))
set_option maxHeartbeats 4000000 in
set_option maxRecDepth 100000 in
theorem c_X4_howManyHold {l : Launch} {X : xG} {h0 h1 g0 g1 : Nat} {v_held : (Nat → Int32)} {u : Int32} (hf : f_X4_howManyHold v_held = some u) : Met l yX4_howManyHold (xw yX4_howManyHold cX4_howManyHold 3 (some .int)) (xrm 2 43) (xPc [.ref h0] X [(h0, xO 4 [.ref h1, .ref g0, .ref g1]), (h1, xI X 8 v_held)]) (xQ True (.returned (some (.int u)))) 0 0 xNo := by
  refine xMet (n := 0) md_X4_howManyHold.1 (Nat.le_of_ble_eq_true rfl) ?_
  intro p e s m args below meth c ls A hC hr hlk hH hl
  have hl : lv_has ls 3 [(0, .ref h0)] := hl
  have hx := hC.1
  have hb := hC.2.1
  have L4 : ∀ (n : Nat) (s4 : Int32 × Int32), xloop (f_X4_howManyHold_L4 v_held) n s4 = some u → ∀ (ls : Array Slot), lv_has ls 3 [(0, .ref h0), (1, .int s4.1), (2, .int s4.2)] → W p l e (xrm 2 43) s m args below meth c s.heap [] 0 0 (MQ below (xQ True (.returned (some (.int u)))) args s 0 0 xNo) (F0 m 4 ls []) := by
    intro  n
    induction n with
    | zero => intro s4 hf; exact xloop_0 hf
    | succ n ih4 =>
      intro s4 hf ls hl
      obtain ⟨o4, hf, ho4⟩ := xloop_s hf
      refine lv_iload_n hx hb dX4_howManyHold_4 rfl (lv_at hl 2 rfl) ?_
      refine lv_bipush (v := (nI 8)) hx hb dX4_howManyHold_5 (by decide) ?_
      refine lv_icmp_ge (tgt := 33) hx hb dX4_howManyHold_7 (by decide) (fun c1 => ?_) (fun c1 => ?_)
      · have hf := xt c1 hf
        refine lv_iload_n hx hb dX4_howManyHold_33 rfl (lv_at hl 1 rfl) ?_
        have hf := xo_ret hf ho4
        exact x_reti hC hr hlk trivial hf dX4_howManyHold_34
      · have hf := xe c1 hf
        refine lv_iload_n hx hb dX4_howManyHold_10 rfl (lv_at hl 1 rfl) ?_
        refine lv_aload_n hx hb dX4_howManyHold_11 rfl (lv_at hl 0 rfl) ?_
        refine lv_iload_n hx hb dX4_howManyHold_12 rfl (lv_at hl 2 rfl) ?_
        obtain ⟨u2, hf2, hf⟩ := xb hf
        refine x_ran (x_runV (q0 := 0) (rest := [.int s4.1]) (As := [.int s4.2]) hC mw_126 md_X4_heldOn (c_X4_heldOn (X := X) hf2) hH [0, 1] rfl (by decide) rfl rfl rfl hl.1 rfl rfl (Nat.le_of_ble_eq_true rfl) dX4_howManyHold_13 ⟨Nat.le_of_ble_eq_true rfl, Nat.le_of_ble_eq_true rfl⟩ ⟨rfl, rfl⟩ ⟨Nat.le_refl _, Nat.le_refl _⟩) rfl (fun hz2 => ?_)
        refine lv_iconst (v := (-1 : Int32)) hx hb dX4_howManyHold_16 (by decide) ?_
        refine lv_icmp_ne (tgt := 24) hx hb dX4_howManyHold_17 (by decide) (fun c3 => ?_) (fun c3 => ?_)
        · have hf := xe c3 hf
          refine lv_iconst (v := (nI 1)) hx hb dX4_howManyHold_24 (by decide) ?_
          refine lv_iadd hx hb dX4_howManyHold_25 ?_
          refine lv_istore_n (lv' := [(1, .int (s4.1 + (nI 1))), (0, .ref h0), (2, .int s4.2)]) hx hb dX4_howManyHold_26 rfl hl (by decide) rfl (fun ls hl => ?_)
          refine lv_iinc (v := s4.2 + (nI 1)) (lv' := [(2, .int (s4.2 + (nI 1))), (1, .int (s4.1 + (nI 1))), (0, .ref h0)]) hx hb dX4_howManyHold_27 hl (k := 2) rfl rfl (by decide) rfl (fun ls hl => ?_)
          refine lv_goto (tgt := 4) hx hb dX4_howManyHold_30 (by decide) ?_
          have hf := xo_go hf ho4
          exact ih4 (s4.1 + (nI 1), s4.2 + (nI 1)) hf ls (lv_sub hl [2, 1, 0] rfl)
        · have hf := xt c3 hf
          refine lv_iconst (v := (nI 0)) hx hb dX4_howManyHold_20 (by decide) ?_
          refine lv_goto (tgt := 25) hx hb dX4_howManyHold_21 (by decide) ?_
          refine lv_iadd hx hb dX4_howManyHold_25 ?_
          refine lv_istore_n (lv' := [(1, .int (s4.1 + (nI 0))), (0, .ref h0), (2, .int s4.2)]) hx hb dX4_howManyHold_26 rfl hl (by decide) rfl (fun ls hl => ?_)
          refine lv_iinc (v := s4.2 + (nI 1)) (lv' := [(2, .int (s4.2 + (nI 1))), (1, .int (s4.1 + (nI 0))), (0, .ref h0)]) hx hb dX4_howManyHold_27 hl (k := 2) rfl rfl (by decide) rfl (fun ls hl => ?_)
          refine lv_goto (tgt := 4) hx hb dX4_howManyHold_30 (by decide) ?_
          have hf := xo_go hf ho4
          exact ih4 (s4.1 + (nI 0), s4.2 + (nI 1)) hf ls (lv_sub hl [2, 1, 0] rfl)
  refine lv_iconst (v := (nI 0)) hx hb dX4_howManyHold_0 (by decide) ?_
  refine lv_istore_n (lv' := [(1, .int (nI 0)), (0, .ref h0)]) hx hb dX4_howManyHold_1 rfl hl (by decide) rfl (fun ls hl => ?_)
  refine lv_iconst (v := (nI 0)) hx hb dX4_howManyHold_2 (by decide) ?_
  refine lv_istore_n (lv' := [(2, .int (nI 0)), (1, .int (nI 0)), (0, .ref h0)]) hx hb dX4_howManyHold_3 rfl hl (by decide) rfl (fun ls hl => ?_)
  exact L4 xN ((nI 0), (nI 0)) hf ls (lv_sub hl [2, 1, 0] rfl)
def f_X4_put (v_held : (Nat → Int32)) (v_sizes : (Nat → Int32)) (p1 : Int32) (p2 : Int32) (p3 : Int32) : Option ((Nat → Int32) × (Nat → Int32)) :=
  if p1 < (nI 0) then
    some (v_held, v_sizes)
  else
  if (nI 8) ≤ p1 then
    some (v_held, v_sizes)
  else
  if (nI 8) ≤ p1 then
    some (v_held, v_sizes)
  else
  if xout p1 8 then none else
  if xout p1 8 then none else
  some (upd v_held (xat p1) p2, upd v_sizes (xat p1) p3)
set_option maxHeartbeats 4000000 in
set_option maxRecDepth 100000 in
theorem c_X4_put {l : Launch} {X : xG} {h0 h1 h2 g0 : Nat} {v_held : (Nat → Int32)} {v_sizes : (Nat → Int32)} {p1 : Int32} {p2 : Int32} {p3 : Int32} {u : (Nat → Int32) × (Nat → Int32)} (hf : f_X4_put v_held v_sizes p1 p2 p3 = some u) : Met l yX4_put (xw yX4_put cX4_put 4 none) (xrm 0 0) (xPc [.ref h0, .int p1, .int p2, .int p3] X [(h0, xO 4 [.ref h1, .ref h2, .ref g0]), (h1, xI X 8 v_held), (h2, xI X 8 v_sizes)]) (xQw True (.returned none) X [(h0, xO 4 [.ref h1, .ref h2, .ref g0]), (h1, xI X 8 u.1), (h2, xI X 8 u.2)] (xAs [(h0, xO 4 [.ref h1, .ref h2, .ref g0]), (h1, xI X 8 v_held), (h2, xI X 8 v_sizes)])) 0 0 (xAs [(h0, xO 4 [.ref h1, .ref h2, .ref g0]), (h1, xI X 8 v_held), (h2, xI X 8 v_sizes)]) := by
  refine xMetw (Qc := fun A => xQw True (.returned none) X [(h0, xO 4 [.ref h1, .ref h2, .ref g0]), (h1, xI X 8 u.1), (h2, xI X 8 u.2)] A) (n := 3) md_X4_put.1 (Nat.le_of_ble_eq_true rfl) ?_
  intro p e s m args below meth c ls A hC hr hlk hH hl
  have hl : lv_has ls 4 [(0, .ref h0), (1, .int p1), (2, .int p2), (3, .int p3)] := hl
  have hx := hC.1
  have hb := hC.2.1
  refine lv_iload_n hx hb dX4_put_0 rfl (lv_at hl 1 rfl) ?_
  refine lv_if_lt (tgt := 36) hx hb dX4_put_1 (by decide) (fun c1 => ?_) (fun c1 => ?_)
  · have hf := xt c1 hf
    exact x_retvw (φ := fun _ => True) (wf := fun u : (Nat → Int32) × (Nat → Int32) => [(h0, xO 4 [.ref h1, .ref h2, .ref g0]), (h1, xI X 8 u.1), (h2, xI X 8 u.2)]) hC hr hlk trivial hf hH rfl dX4_put_36
  · have hf := xe c1 hf
    refine lv_iload_n hx hb dX4_put_4 rfl (lv_at hl 1 rfl) ?_
    refine lv_aload_n hx hb dX4_put_5 rfl (lv_at hl 0 rfl) ?_
    refine x_get hC fd_RX4_11 hH.1 0 rfl rfl dX4_put_6 ?_
    refine x_alen hC hH.1 1 rfl (v := (nI 8)) (by decide) dX4_put_9 ?_
    refine lv_icmp_ge (tgt := 36) hx hb dX4_put_10 (by decide) (fun c2 => ?_) (fun c2 => ?_)
    · have hf := xt c2 hf
      exact x_retvw (φ := fun _ => True) (wf := fun u : (Nat → Int32) × (Nat → Int32) => [(h0, xO 4 [.ref h1, .ref h2, .ref g0]), (h1, xI X 8 u.1), (h2, xI X 8 u.2)]) hC hr hlk trivial hf hH rfl dX4_put_36
    · have hf := xe c2 hf
      refine lv_iload_n hx hb dX4_put_13 rfl (lv_at hl 1 rfl) ?_
      refine lv_aload_n hx hb dX4_put_14 rfl (lv_at hl 0 rfl) ?_
      refine x_get hC fd_RX4_15 hH.1 0 rfl rfl dX4_put_15 ?_
      refine x_alen hC hH.1 2 rfl (v := (nI 8)) (by decide) dX4_put_18 ?_
      refine lv_icmp_ge (tgt := 36) hx hb dX4_put_19 (by decide) (fun c3 => ?_) (fun c3 => ?_)
      · have hf := xt c3 hf
        exact x_retvw (φ := fun _ => True) (wf := fun u : (Nat → Int32) × (Nat → Int32) => [(h0, xO 4 [.ref h1, .ref h2, .ref g0]), (h1, xI X 8 u.1), (h2, xI X 8 u.2)]) hC hr hlk trivial hf hH rfl dX4_put_36
      · have hf := xe c3 hf
        refine lv_aload_n hx hb dX4_put_22 rfl (lv_at hl 0 rfl) ?_
        refine x_get hC fd_RX4_11 hH.1 0 rfl rfl dX4_put_23 ?_
        refine lv_iload_n hx hb dX4_put_26 rfl (lv_at hl 1 rfl) ?_
        refine lv_iload_n hx hb dX4_put_27 rfl (lv_at hl 2 rfl) ?_
        obtain ⟨n4, hf⟩ := xok hf
        refine x_iast (ws' := [(h0, xO 4 [.ref h1, .ref h2, .ref g0]), (h1, xI X 8 (upd v_held (xat p1) p2)), (h2, xI X 8 v_sizes)]) hC hH 1 rfl n4 dX4_put_28 rfl (fun H locs hH => ?_)
        refine lv_aload_n hx hb dX4_put_29 rfl (lv_at hl 0 rfl) ?_
        refine x_get hC fd_RX4_15 hH.1 0 rfl rfl dX4_put_30 ?_
        refine lv_iload_n hx hb dX4_put_33 rfl (lv_at hl 1 rfl) ?_
        refine lv_iload_n hx hb dX4_put_34 rfl (lv_at hl 3 rfl) ?_
        obtain ⟨n5, hf⟩ := xok hf
        refine x_iast (ws' := [(h0, xO 4 [.ref h1, .ref h2, .ref g0]), (h1, xI X 8 (upd v_held (xat p1) p2)), (h2, xI X 8 (upd v_sizes (xat p1) p3))]) hC hH 2 rfl n5 dX4_put_35 rfl (fun H locs hH => ?_)
        exact x_retvw (φ := fun _ => True) (wf := fun u : (Nat → Int32) × (Nat → Int32) => [(h0, xO 4 [.ref h1, .ref h2, .ref g0]), (h1, xI X 8 u.1), (h2, xI X 8 u.2)]) hC hr hlk trivial hf hH rfl dX4_put_36
def f_X4_putNothing (v_held : (Nat → Int32)) (v_sizes : (Nat → Int32)) (p1 : Int32) : Option ((Nat → Int32) × (Nat → Int32)) :=
  (f_X4_put v_held v_sizes p1 (-1 : Int32) (nI 0)).bind fun u1 =>
  some (u1.1, u1.2)
set_option maxHeartbeats 4000000 in
set_option maxRecDepth 100000 in
theorem c_X4_putNothing {l : Launch} {X : xG} {h0 h1 h2 g0 : Nat} {v_held : (Nat → Int32)} {v_sizes : (Nat → Int32)} {p1 : Int32} {u : (Nat → Int32) × (Nat → Int32)} (hf : f_X4_putNothing v_held v_sizes p1 = some u) : Met l yX4_putNothing (xw yX4_putNothing cX4_putNothing 2 none) (xrm 1 23) (xPc [.ref h0, .int p1] X [(h0, xO 4 [.ref h1, .ref h2, .ref g0]), (h1, xI X 8 v_held), (h2, xI X 8 v_sizes)]) (xQw True (.returned none) X [(h0, xO 4 [.ref h1, .ref h2, .ref g0]), (h1, xI X 8 u.1), (h2, xI X 8 u.2)] (xAs [(h0, xO 4 [.ref h1, .ref h2, .ref g0]), (h1, xI X 8 v_held), (h2, xI X 8 v_sizes)])) 0 0 (xAs [(h0, xO 4 [.ref h1, .ref h2, .ref g0]), (h1, xI X 8 v_held), (h2, xI X 8 v_sizes)]) := by
  refine xMetw (Qc := fun A => xQw True (.returned none) X [(h0, xO 4 [.ref h1, .ref h2, .ref g0]), (h1, xI X 8 u.1), (h2, xI X 8 u.2)] A) (n := 1) md_X4_putNothing.1 (Nat.le_of_ble_eq_true rfl) ?_
  intro p e s m args below meth c ls A hC hr hlk hH hl
  have hl : lv_has ls 2 [(0, .ref h0), (1, .int p1)] := hl
  have hx := hC.1
  have hb := hC.2.1
  refine lv_aload_n hx hb dX4_putNothing_0 rfl (lv_at hl 0 rfl) ?_
  refine lv_iload_n hx hb dX4_putNothing_1 rfl (lv_at hl 1 rfl) ?_
  refine lv_iconst (v := (-1 : Int32)) hx hb dX4_putNothing_2 (by decide) ?_
  refine lv_iconst (v := (nI 0)) hx hb dX4_putNothing_3 (by decide) ?_
  obtain ⟨u1, hf1, hf⟩ := xb hf
  refine x_ranw (ws' := [(h0, xO 4 [.ref h1, .ref h2, .ref g0]), (h1, xI X 8 u1.1), (h2, xI X 8 u1.2)]) (x_runV (q0 := 0) (rest := []) (As := [.int p1, .int (-1 : Int32), .int (nI 0)]) hC mw_108 md_X4_put (c_X4_put (X := X) hf1) hH [0, 1, 2] rfl (by decide) rfl rfl rfl hl.1 rfl rfl (Nat.le_of_ble_eq_true rfl) dX4_putNothing_4 ⟨Nat.le_of_ble_eq_true rfl, Nat.le_of_ble_eq_true rfl⟩ ⟨rfl, rfl⟩ ⟨Nat.le_refl _, Nat.le_refl _⟩) hH [0, 1, 2] rfl rfl rfl rfl rfl (fun hz1 H locs hH => ?_)
  exact x_retvw (φ := fun _ => True) (wf := fun u : (Nat → Int32) × (Nat → Int32) => [(h0, xO 4 [.ref h1, .ref h2, .ref g0]), (h1, xI X 8 u.1), (h2, xI X 8 u.2)]) hC hr hlk trivial hf hH rfl dX4_putNothing_7
def f_X4_putLaw (v_held : (Nat → Int32)) (v_sizes : (Nat → Int32)) (p1 : Int32) (p2 : Int32) : Option ((Nat → Int32) × (Nat → Int32)) :=
  (f_X4_put v_held v_sizes p1 ((nI 10) + p2) (nI 0)).bind fun u1 =>
  some (u1.1, u1.2)
set_option maxHeartbeats 4000000 in
set_option maxRecDepth 100000 in
theorem c_X4_putLaw {l : Launch} {X : xG} {h0 h1 h2 g0 : Nat} {v_held : (Nat → Int32)} {v_sizes : (Nat → Int32)} {p1 : Int32} {p2 : Int32} {u : (Nat → Int32) × (Nat → Int32)} (hf : f_X4_putLaw v_held v_sizes p1 p2 = some u) : Met l yX4_putLaw (xw yX4_putLaw cX4_putLaw 3 none) (xrm 1 23) (xPc [.ref h0, .int p1, .int p2] X [(h0, xO 4 [.ref h1, .ref h2, .ref g0]), (h1, xI X 8 v_held), (h2, xI X 8 v_sizes)]) (xQw True (.returned none) X [(h0, xO 4 [.ref h1, .ref h2, .ref g0]), (h1, xI X 8 u.1), (h2, xI X 8 u.2)] (xAs [(h0, xO 4 [.ref h1, .ref h2, .ref g0]), (h1, xI X 8 v_held), (h2, xI X 8 v_sizes)])) 0 0 (xAs [(h0, xO 4 [.ref h1, .ref h2, .ref g0]), (h1, xI X 8 v_held), (h2, xI X 8 v_sizes)]) := by
  refine xMetw (Qc := fun A => xQw True (.returned none) X [(h0, xO 4 [.ref h1, .ref h2, .ref g0]), (h1, xI X 8 u.1), (h2, xI X 8 u.2)] A) (n := 2) md_X4_putLaw.1 (Nat.le_of_ble_eq_true rfl) ?_
  intro p e s m args below meth c ls A hC hr hlk hH hl
  have hl : lv_has ls 3 [(0, .ref h0), (1, .int p1), (2, .int p2)] := hl
  have hx := hC.1
  have hb := hC.2.1
  refine lv_aload_n hx hb dX4_putLaw_0 rfl (lv_at hl 0 rfl) ?_
  refine lv_iload_n hx hb dX4_putLaw_1 rfl (lv_at hl 1 rfl) ?_
  refine lv_bipush (v := (nI 10)) hx hb dX4_putLaw_2 (by decide) ?_
  refine lv_iload_n hx hb dX4_putLaw_4 rfl (lv_at hl 2 rfl) ?_
  refine lv_iadd hx hb dX4_putLaw_5 ?_
  refine lv_iconst (v := (nI 0)) hx hb dX4_putLaw_6 (by decide) ?_
  obtain ⟨u1, hf1, hf⟩ := xb hf
  refine x_ranw (ws' := [(h0, xO 4 [.ref h1, .ref h2, .ref g0]), (h1, xI X 8 u1.1), (h2, xI X 8 u1.2)]) (x_runV (q0 := 0) (rest := []) (As := [.int p1, .int ((nI 10) + p2), .int (nI 0)]) hC mw_108 md_X4_put (c_X4_put (X := X) hf1) hH [0, 1, 2] rfl (by decide) rfl rfl rfl hl.1 rfl rfl (Nat.le_of_ble_eq_true rfl) dX4_putLaw_7 ⟨Nat.le_of_ble_eq_true rfl, Nat.le_of_ble_eq_true rfl⟩ ⟨rfl, rfl⟩ ⟨Nat.le_refl _, Nat.le_refl _⟩) hH [0, 1, 2] rfl rfl rfl rfl rfl (fun hz1 H locs hH => ?_)
  exact x_retvw (φ := fun _ => True) (wf := fun u : (Nat → Int32) × (Nat → Int32) => [(h0, xO 4 [.ref h1, .ref h2, .ref g0]), (h1, xI X 8 u.1), (h2, xI X 8 u.2)]) hC hr hlk trivial hf hH rfl dX4_putLaw_10
def f_X4_placeOf (v_sizes : (Nat → Int32)) (p1 : Int32) (p2 : Int32) : Option (Int32) :=
  (f_X4_sizeOf v_sizes p1).bind fun u1 =>
  (f_X6_isWithin p2 (nI 0) (u1 - (nI 1))).bind fun u2 =>
  if u2 = (nI 0) then
    some (-1 : Int32)
  else
  some ((p1 * (nI 40)) + p2)
set_option maxHeartbeats 4000000 in
set_option maxRecDepth 100000 in
theorem c_X4_placeOf {l : Launch} {X : xG} {h0 h1 g0 g1 : Nat} {v_sizes : (Nat → Int32)} {p1 : Int32} {p2 : Int32} {u : Int32} (hf : f_X4_placeOf v_sizes p1 p2 = some u) : Met l yX4_placeOf (xw yX4_placeOf cX4_placeOf 3 (some .int)) (xrm 2 43) (xPc [.ref h0, .int p1, .int p2] X [(h0, xO 4 [.ref g0, .ref h1, .ref g1]), (h1, xI X 8 v_sizes)]) (xQ True (.returned (some (.int u)))) 0 0 xNo := by
  refine xMet (n := 2) md_X4_placeOf.1 (Nat.le_of_ble_eq_true rfl) ?_
  intro p e s m args below meth c ls A hC hr hlk hH hl
  have hl : lv_has ls 3 [(0, .ref h0), (1, .int p1), (2, .int p2)] := hl
  have hx := hC.1
  have hb := hC.2.1
  refine lv_iload_n hx hb dX4_placeOf_0 rfl (lv_at hl 2 rfl) ?_
  refine lv_iconst (v := (nI 0)) hx hb dX4_placeOf_1 (by decide) ?_
  refine lv_aload_n hx hb dX4_placeOf_2 rfl (lv_at hl 0 rfl) ?_
  refine lv_iload_n hx hb dX4_placeOf_3 rfl (lv_at hl 1 rfl) ?_
  obtain ⟨u1, hf1, hf⟩ := xb hf
  refine x_ran (x_runV (q0 := 0) (rest := [.int (nI 0), .int p2]) (As := [.int p1]) hC mw_120 md_X4_sizeOf (c_X4_sizeOf (X := X) hf1) hH [0, 1] rfl (by decide) rfl rfl rfl hl.1 rfl rfl (Nat.le_of_ble_eq_true rfl) dX4_placeOf_4 ⟨Nat.le_of_ble_eq_true rfl, Nat.le_of_ble_eq_true rfl⟩ ⟨rfl, rfl⟩ ⟨Nat.le_refl _, Nat.le_refl _⟩) rfl (fun hz1 => ?_)
  refine lv_iconst (v := (nI 1)) hx hb dX4_placeOf_7 (by decide) ?_
  refine lv_isub hx hb dX4_placeOf_8 ?_
  obtain ⟨u2, hf2, hf⟩ := xb hf
  refine x_ran (x_runSN (rest := []) (As := [.int p2, .int (nI 0), .int (u1 - (nI 1))]) hC mn_RX4_22 md_X6_isWithin (c_X6_isWithin (X := X) hf2) hH [] rfl (by decide) hl.1 rfl rfl (Nat.le_of_ble_eq_true rfl) dX4_placeOf_9 ⟨Nat.le_of_ble_eq_true rfl, Nat.le_of_ble_eq_true rfl⟩ ⟨rfl, rfl⟩ ⟨Nat.le_refl _, Nat.le_refl _⟩) rfl (fun hz2 => ?_)
  refine lv_if_eq (tgt := 24) hx hb dX4_placeOf_12 (by decide) (fun c3 => ?_) (fun c3 => ?_)
  · have hf := xt c3 hf
    refine lv_iconst (v := (-1 : Int32)) hx hb dX4_placeOf_24 (by decide) ?_
    exact x_reti hC hr hlk trivial hf dX4_placeOf_25
  · have hf := xe c3 hf
    refine lv_iload_n hx hb dX4_placeOf_15 rfl (lv_at hl 1 rfl) ?_
    refine lv_bipush (v := (nI 40)) hx hb dX4_placeOf_16 (by decide) ?_
    refine lv_imul hx hb dX4_placeOf_18 ?_
    refine lv_iload_n hx hb dX4_placeOf_19 rfl (lv_at hl 2 rfl) ?_
    refine lv_iadd hx hb dX4_placeOf_20 ?_
    refine lv_goto (tgt := 25) hx hb dX4_placeOf_21 (by decide) ?_
    exact x_reti hC hr hlk trivial hf dX4_placeOf_25
def f_X4_lowestBits (p0 : Int32) (p1 : Int64) : Option (Int64) :=
  if p0 = (nI 0) then
    some (Int32.toInt64 ((Int32.toInt8 (Int64.toInt32 p1)).toInt32))
  else
  if p0 = (nI 1) then
    some (Int32.toInt64 ((Int32.toInt16 (Int64.toInt32 p1)).toInt32))
  else
  if p0 = (nI 2) then
    some (Int32.toInt64 (Int64.toInt32 p1))
  else
  if p0 = (nI 3) then
    some p1
  else
  if p0 = (nI 4) then
    if (xcmp p1 (lN 0)) = (nI 0) then
      some (lN 0)
    else
    some (lN 1)
  else
  some p1
set_option maxHeartbeats 4000000 in
set_option maxRecDepth 100000 in
theorem c_X4_lowestBits {l : Launch} {X : xG} {p0 : Int32} {p1 : Int64} {u : Int64} (hf : f_X4_lowestBits p0 p1 = some u) : Met l yX4_lowestBits (xw yX4_lowestBits cX4_lowestBits 3 (some .long)) (xrm 0 0) (xPc [.int p0, .long p1] X []) (xQ True (.returned (some (.long u)))) 0 0 xNo := by
  refine xMet (n := 2) md_X4_lowestBits.1 (Nat.le_of_ble_eq_true rfl) ?_
  intro p e s m args below meth c ls A hC hr hlk hH hl
  have hl : lv_has ls 3 [(0, .int p0), (1, .long p1)] := hl
  have hx := hC.1
  have hb := hC.2.1
  refine lv_iload_n hx hb dX4_lowestBits_0 rfl (lv_at hl 0 rfl) ?_
  by_cases c1 : p0 = (nI 0)
  · have hf := xt c1 hf
    refine x_tin (k := (nI 0)) (tgt := 36) hx hb dX4_lowestBits_1 c1 (by decide) (by decide) ?_
    refine lv_lload_n hx hb dX4_lowestBits_36 rfl (lv_at hl 1 rfl) ?_
    refine lv_l2i hx hb dX4_lowestBits_37 rfl ?_
    refine lv_i2b hx hb dX4_lowestBits_38 rfl ?_
    refine lv_i2l hx hb dX4_lowestBits_39 rfl ?_
    exact x_retl hC hr hlk trivial hf dX4_lowestBits_40
  · have hf := xe c1 hf
    by_cases c2 : p0 = (nI 1)
    · have hf := xt c2 hf
      refine x_tin (k := (nI 1)) (tgt := 41) hx hb dX4_lowestBits_1 c2 (by decide) (by decide) ?_
      refine lv_lload_n hx hb dX4_lowestBits_41 rfl (lv_at hl 1 rfl) ?_
      refine lv_l2i hx hb dX4_lowestBits_42 rfl ?_
      refine lv_i2s hx hb dX4_lowestBits_43 rfl ?_
      refine lv_i2l hx hb dX4_lowestBits_44 rfl ?_
      exact x_retl hC hr hlk trivial hf dX4_lowestBits_45
    · have hf := xe c2 hf
      by_cases c3 : p0 = (nI 2)
      · have hf := xt c3 hf
        refine x_tin (k := (nI 2)) (tgt := 46) hx hb dX4_lowestBits_1 c3 (by decide) (by decide) ?_
        refine lv_lload_n hx hb dX4_lowestBits_46 rfl (lv_at hl 1 rfl) ?_
        refine lv_l2i hx hb dX4_lowestBits_47 rfl ?_
        refine lv_i2l hx hb dX4_lowestBits_48 rfl ?_
        exact x_retl hC hr hlk trivial hf dX4_lowestBits_49
      · have hf := xe c3 hf
        by_cases c4 : p0 = (nI 3)
        · have hf := xt c4 hf
          refine x_tin (k := (nI 3)) (tgt := 62) hx hb dX4_lowestBits_1 c4 (by decide) (by decide) ?_
          refine lv_lload_n hx hb dX4_lowestBits_62 rfl (lv_at hl 1 rfl) ?_
          exact x_retl hC hr hlk trivial hf dX4_lowestBits_63
        · have hf := xe c4 hf
          by_cases c5 : p0 = (nI 4)
          · have hf := xt c5 hf
            refine x_tin (k := (nI 4)) (tgt := 50) hx hb dX4_lowestBits_1 c5 (by decide) (by decide) ?_
            refine lv_lload_n hx hb dX4_lowestBits_50 rfl (lv_at hl 1 rfl) ?_
            refine lv_lconst (v := (lN 0)) hx hb dX4_lowestBits_51 (by decide) ?_
            refine x_lcmp hx hb dX4_lowestBits_52 ?_
            refine lv_if_eq (tgt := 60) hx hb dX4_lowestBits_53 (by decide) (fun c6 => ?_) (fun c6 => ?_)
            · have hf := xt c6 hf
              refine lv_lconst (v := (lN 0)) hx hb dX4_lowestBits_60 (by decide) ?_
              exact x_retl hC hr hlk trivial hf dX4_lowestBits_61
            · have hf := xe c6 hf
              refine lv_lconst (v := (lN 1)) hx hb dX4_lowestBits_56 (by decide) ?_
              refine lv_goto (tgt := 61) hx hb dX4_lowestBits_57 (by decide) ?_
              exact x_retl hC hr hlk trivial hf dX4_lowestBits_61
          · have hf := xe c5 hf
            refine x_tout (tgt := 62) hx hb dX4_lowestBits_1 (fun j hj => match j, hj with | 0, _ => c1 | 1, _ => c2 | 2, _ => c3 | 3, _ => c4 | 4, _ => c5 | _ + 5, hj => absurd hj (by simp <;> omega)) (by decide) ?_
            refine lv_lload_n hx hb dX4_lowestBits_62 rfl (lv_at hl 1 rfl) ?_
            exact x_retl hC hr hlk trivial hf dX4_lowestBits_63
def f_X4_putElement (v_elements : (Nat → Int64)) (v_held : (Nat → Int32)) (v_sizes : (Nat → Int32)) (p1 : Int32) (p2 : Int32) (p3 : Int64) : Option ((Nat → Int64)) :=
  (f_X4_placeOf v_sizes p1 p2).bind fun u1 =>
  if u1 < (nI 0) then
    some v_elements
  else
  if (nI 320) ≤ u1 then
    some v_elements
  else
  (f_X4_heldOn v_held p1).bind fun u4 =>
  (f_X4_lowestBits u4 p3).bind fun u5 =>
  if xout u1 320 then none else
  some (vp_updL v_elements (xat u1) u5)
set_option maxHeartbeats 4000000 in
set_option maxRecDepth 100000 in
theorem c_X4_putElement {l : Launch} {X : xG} {h0 h1 h2 h3 : Nat} {v_elements : (Nat → Int64)} {v_held : (Nat → Int32)} {v_sizes : (Nat → Int32)} {p1 : Int32} {p2 : Int32} {p3 : Int64} {u : (Nat → Int64)} (hf : f_X4_putElement v_elements v_held v_sizes p1 p2 p3 = some u) : Met l yX4_putElement (xw yX4_putElement cX4_putElement 6 none) (xrm 3 65) (xPc [.ref h0, .int p1, .int p2, .long p3] X [(h0, xO 4 [.ref h2, .ref h3, .ref h1]), (h1, xJ X 320 v_elements), (h2, xI X 8 v_held), (h3, xI X 8 v_sizes)]) (xQw True (.returned none) X [(h0, xO 4 [.ref h2, .ref h3, .ref h1]), (h1, xJ X 320 u), (h2, xI X 8 v_held), (h3, xI X 8 v_sizes)] (xAs [(h0, xO 4 [.ref h2, .ref h3, .ref h1]), (h1, xJ X 320 v_elements), (h2, xI X 8 v_held), (h3, xI X 8 v_sizes)])) 0 0 (xAs [(h0, xO 4 [.ref h2, .ref h3, .ref h1]), (h1, xJ X 320 v_elements), (h2, xI X 8 v_held), (h3, xI X 8 v_sizes)]) := by
  refine xMetw (Qc := fun A => xQw True (.returned none) X [(h0, xO 4 [.ref h2, .ref h3, .ref h1]), (h1, xJ X 320 u), (h2, xI X 8 v_held), (h3, xI X 8 v_sizes)] A) (n := 3) md_X4_putElement.1 (Nat.le_of_ble_eq_true rfl) ?_
  intro p e s m args below meth c ls A hC hr hlk hH hl
  have hl : lv_has ls 6 [(0, .ref h0), (1, .int p1), (2, .int p2), (3, .long p3)] := hl
  have hx := hC.1
  have hb := hC.2.1
  refine lv_aload_n hx hb dX4_putElement_0 rfl (lv_at hl 0 rfl) ?_
  refine lv_iload_n hx hb dX4_putElement_1 rfl (lv_at hl 1 rfl) ?_
  refine lv_iload_n hx hb dX4_putElement_2 rfl (lv_at hl 2 rfl) ?_
  obtain ⟨u1, hf1, hf⟩ := xb hf
  refine x_ran (x_runV (q0 := 0) (rest := []) (As := [.int p1, .int p2]) hC mw_116 md_X4_placeOf (c_X4_placeOf (X := X) hf1) hH [0, 3] rfl (by decide) rfl rfl rfl hl.1 rfl rfl (Nat.le_of_ble_eq_true rfl) dX4_putElement_3 ⟨Nat.le_of_ble_eq_true rfl, Nat.le_of_ble_eq_true rfl⟩ ⟨rfl, rfl⟩ ⟨Nat.le_refl _, Nat.le_refl _⟩) rfl (fun hz1 => ?_)
  refine lv_istore (lv' := [(5, .int u1), (0, .ref h0), (1, .int p1), (2, .int p2), (3, .long p3)]) hx hb dX4_putElement_6 hl (by decide) rfl (fun ls hl => ?_)
  refine lv_iload hx hb dX4_putElement_8 (lv_at hl 0 rfl) ?_
  refine lv_if_lt (tgt := 39) hx hb dX4_putElement_10 (by decide) (fun c2 => ?_) (fun c2 => ?_)
  · have hf := xt c2 hf
    exact x_retvw (φ := fun _ => True) (wf := fun u : (Nat → Int64) => [(h0, xO 4 [.ref h2, .ref h3, .ref h1]), (h1, xJ X 320 u), (h2, xI X 8 v_held), (h3, xI X 8 v_sizes)]) hC hr hlk trivial hf hH rfl dX4_putElement_39
  · have hf := xe c2 hf
    refine lv_iload hx hb dX4_putElement_13 (lv_at hl 0 rfl) ?_
    refine lv_aload_n hx hb dX4_putElement_15 rfl (lv_at hl 1 rfl) ?_
    refine x_get hC fd_RX4_18 hH.1 0 rfl rfl dX4_putElement_16 ?_
    refine x_alenL hC hH.1 1 rfl (v := (nI 320)) (by decide) dX4_putElement_19 ?_
    refine lv_icmp_ge (tgt := 39) hx hb dX4_putElement_20 (by decide) (fun c3 => ?_) (fun c3 => ?_)
    · have hf := xt c3 hf
      exact x_retvw (φ := fun _ => True) (wf := fun u : (Nat → Int64) => [(h0, xO 4 [.ref h2, .ref h3, .ref h1]), (h1, xJ X 320 u), (h2, xI X 8 v_held), (h3, xI X 8 v_sizes)]) hC hr hlk trivial hf hH rfl dX4_putElement_39
    · have hf := xe c3 hf
      refine lv_aload_n hx hb dX4_putElement_23 rfl (lv_at hl 1 rfl) ?_
      refine x_get hC fd_RX4_18 hH.1 0 rfl rfl dX4_putElement_24 ?_
      refine lv_iload hx hb dX4_putElement_27 (lv_at hl 0 rfl) ?_
      refine lv_aload_n hx hb dX4_putElement_29 rfl (lv_at hl 1 rfl) ?_
      refine lv_iload_n hx hb dX4_putElement_30 rfl (lv_at hl 2 rfl) ?_
      obtain ⟨u4, hf4, hf⟩ := xb hf
      refine x_ran (x_runV (q0 := 0) (rest := [.int u1, .ref h1]) (As := [.int p1]) hC mw_126 md_X4_heldOn (c_X4_heldOn (X := X) hf4) hH [0, 2] rfl (by decide) rfl rfl rfl hl.1 rfl rfl (Nat.le_of_ble_eq_true rfl) dX4_putElement_31 ⟨Nat.le_of_ble_eq_true rfl, Nat.le_of_ble_eq_true rfl⟩ ⟨rfl, rfl⟩ ⟨Nat.le_refl _, Nat.le_refl _⟩) rfl (fun hz4 => ?_)
      refine lv_lload_n hx hb dX4_putElement_34 rfl (lv_at hl 4 rfl) ?_
      obtain ⟨u5, hf5, hf⟩ := xb hf
      refine x_ran (x_runS (rest := [.int u1, .ref h1]) (As := [.int u4, .long p3]) hC mw_130 md_X4_lowestBits (c_X4_lowestBits (X := X) hf5) hH [] rfl (by decide) hl.1 rfl rfl (Nat.le_of_ble_eq_true rfl) dX4_putElement_35 ⟨Nat.le_of_ble_eq_true rfl, Nat.le_of_ble_eq_true rfl⟩ ⟨rfl, rfl⟩ ⟨Nat.le_refl _, Nat.le_refl _⟩) rfl (fun hz5 => ?_)
      obtain ⟨n6, hf⟩ := xok hf
      refine x_last (ws' := [(h0, xO 4 [.ref h2, .ref h3, .ref h1]), (h1, xJ X 320 (vp_updL v_elements (xat u1) u5)), (h2, xI X 8 v_held), (h3, xI X 8 v_sizes)]) hC hH 1 rfl n6 dX4_putElement_38 rfl (fun H locs hH => ?_)
      exact x_retvw (φ := fun _ => True) (wf := fun u : (Nat → Int64) => [(h0, xO 4 [.ref h2, .ref h3, .ref h1]), (h1, xJ X 320 u), (h2, xI X 8 v_held), (h3, xI X 8 v_sizes)]) hC hr hlk trivial hf hH rfl dX4_putElement_39
def f_X4_putRow_L10 (p1 : Int32) (p3 : Int32) (x10_v_held : (Nat → Int32)) (x10_v_sizes : (Nat → Int32)) (s10 : Int32 × (Nat → Int64)) : Option (((Nat → Int64) × (Nat → Int32) × (Nat → Int32)) ⊕ (Int32 × (Nat → Int64))) :=
  if p3 ≤ s10.1 then
    some (.inl (s10.2, x10_v_held, x10_v_sizes))
  else
  (f_X4_putElement s10.2 x10_v_held x10_v_sizes p1 s10.1 (lN 0)).bind fun u3 =>
  some (.inr (s10.1 + (nI 1), u3))
def f_X4_putRow (v_elements : (Nat → Int64)) (v_held : (Nat → Int32)) (v_sizes : (Nat → Int32)) (p1 : Int32) (p2 : Int32) (p3 : Int32) : Option ((Nat → Int64) × (Nat → Int32) × (Nat → Int32)) :=
  (f_X4_put v_held v_sizes p1 p2 p3).bind fun u1 =>
  xloop (f_X4_putRow_L10 p1 p3 u1.1 u1.2) xN ((nI 0), v_elements)
set_option maxHeartbeats 4000000 in
set_option maxRecDepth 100000 in
theorem c_X4_putRow {l : Launch} {X : xG} {h0 h1 h2 h3 : Nat} {v_elements : (Nat → Int64)} {v_held : (Nat → Int32)} {v_sizes : (Nat → Int32)} {p1 : Int32} {p2 : Int32} {p3 : Int32} {u : (Nat → Int64) × (Nat → Int32) × (Nat → Int32)} (hf : f_X4_putRow v_elements v_held v_sizes p1 p2 p3 = some u) : Met l yX4_putRow (xw yX4_putRow cX4_putRow 5 none) (xrm 4 90) (xPc [.ref h0, .int p1, .int p2, .int p3] X [(h0, xO 4 [.ref h2, .ref h3, .ref h1]), (h1, xJ X 320 v_elements), (h2, xI X 8 v_held), (h3, xI X 8 v_sizes)]) (xQw True (.returned none) X [(h0, xO 4 [.ref h2, .ref h3, .ref h1]), (h1, xJ X 320 u.1), (h2, xI X 8 u.2.1), (h3, xI X 8 u.2.2)] (xAs [(h0, xO 4 [.ref h2, .ref h3, .ref h1]), (h1, xJ X 320 v_elements), (h2, xI X 8 v_held), (h3, xI X 8 v_sizes)])) 0 0 (xAs [(h0, xO 4 [.ref h2, .ref h3, .ref h1]), (h1, xJ X 320 v_elements), (h2, xI X 8 v_held), (h3, xI X 8 v_sizes)]) := by
  refine xMetw (Qc := fun A => xQw True (.returned none) X [(h0, xO 4 [.ref h2, .ref h3, .ref h1]), (h1, xJ X 320 u.1), (h2, xI X 8 u.2.1), (h3, xI X 8 u.2.2)] A) (n := 3) md_X4_putRow.1 (Nat.le_of_ble_eq_true rfl) ?_
  intro p e s m args below meth c ls A hC hr hlk hH hl
  have hl : lv_has ls 5 [(0, .ref h0), (1, .int p1), (2, .int p2), (3, .int p3)] := hl
  have hx := hC.1
  have hb := hC.2.1
  have L10 : ∀ (x10_v_held : (Nat → Int32)) (x10_v_sizes : (Nat → Int32)) (n : Nat) (s10 : Int32 × (Nat → Int64)), xloop (f_X4_putRow_L10 p1 p3 x10_v_held x10_v_sizes) n s10 = some u → ∀ (H : Heap) (locs : List Loc), xH X A [(h0, xO 4 [.ref h2, .ref h3, .ref h1]), (h1, xJ X 320 s10.2), (h2, xI X 8 x10_v_held), (h3, xI X 8 x10_v_sizes)] s.heap H locs → ∀ (ls : Array Slot), lv_has ls 5 [(0, .ref h0), (1, .int p1), (3, .int p3), (4, .int s10.1)] → W p l e (xrm 4 90) s m args below meth c H locs 0 0 (MQ below (xQw True (.returned none) X [(h0, xO 4 [.ref h2, .ref h3, .ref h1]), (h1, xJ X 320 u.1), (h2, xI X 8 u.2.1), (h3, xI X 8 u.2.2)] A) args s 0 0 A) (F0 m 10 ls []) := by
    intro x10_v_held x10_v_sizes n
    induction n with
    | zero => intro s10 hf; exact xloop_0 hf
    | succ n ih10 =>
      intro s10 hf H locs hH ls hl
      obtain ⟨o10, hf, ho10⟩ := xloop_s hf
      refine lv_iload hx hb dX4_putRow_10 (lv_at hl 3 rfl) ?_
      refine lv_iload_n hx hb dX4_putRow_12 rfl (lv_at hl 2 rfl) ?_
      refine lv_icmp_ge (tgt := 30) hx hb dX4_putRow_13 (by decide) (fun c2 => ?_) (fun c2 => ?_)
      · have hf := xt c2 hf
        have hf := xo_ret hf ho10
        exact x_retvw (φ := fun _ => True) (wf := fun u : (Nat → Int64) × (Nat → Int32) × (Nat → Int32) => [(h0, xO 4 [.ref h2, .ref h3, .ref h1]), (h1, xJ X 320 u.1), (h2, xI X 8 u.2.1), (h3, xI X 8 u.2.2)]) hC hr hlk trivial hf hH rfl dX4_putRow_30
      · have hf := xe c2 hf
        refine lv_aload_n hx hb dX4_putRow_16 rfl (lv_at hl 0 rfl) ?_
        refine lv_iload_n hx hb dX4_putRow_17 rfl (lv_at hl 1 rfl) ?_
        refine lv_iload hx hb dX4_putRow_18 (lv_at hl 3 rfl) ?_
        refine lv_lconst (v := (lN 0)) hx hb dX4_putRow_20 (by decide) ?_
        obtain ⟨u3, hf3, hf⟩ := xb hf
        refine x_ranw (ws' := [(h0, xO 4 [.ref h2, .ref h3, .ref h1]), (h1, xJ X 320 u3), (h2, xI X 8 x10_v_held), (h3, xI X 8 x10_v_sizes)]) (x_runV (q0 := 0) (rest := []) (As := [.int p1, .int s10.1, .long (lN 0)]) hC mw_112 md_X4_putElement (c_X4_putElement (X := X) hf3) hH [0, 1, 2, 3] rfl (by decide) rfl rfl rfl hl.1 rfl rfl (Nat.le_of_ble_eq_true rfl) dX4_putRow_21 ⟨Nat.le_of_ble_eq_true rfl, Nat.le_of_ble_eq_true rfl⟩ ⟨rfl, rfl⟩ ⟨Nat.le_refl _, Nat.le_refl _⟩) hH [0, 1, 2, 3] rfl rfl rfl rfl rfl (fun hz3 H locs hH => ?_)
        refine lv_iinc (v := s10.1 + (nI 1)) (lv' := [(4, .int (s10.1 + (nI 1))), (0, .ref h0), (1, .int p1), (3, .int p3)]) hx hb dX4_putRow_24 hl (k := 3) rfl rfl (by decide) rfl (fun ls hl => ?_)
        refine lv_goto (tgt := 10) hx hb dX4_putRow_27 (by decide) ?_
        have hf := xo_go hf ho10
        exact ih10 (s10.1 + (nI 1), u3) hf _ _ hH ls (lv_sub hl [1, 2, 3, 0] rfl)
  refine lv_aload_n hx hb dX4_putRow_0 rfl (lv_at hl 0 rfl) ?_
  refine lv_iload_n hx hb dX4_putRow_1 rfl (lv_at hl 1 rfl) ?_
  refine lv_iload_n hx hb dX4_putRow_2 rfl (lv_at hl 2 rfl) ?_
  refine lv_iload_n hx hb dX4_putRow_3 rfl (lv_at hl 3 rfl) ?_
  obtain ⟨u1, hf1, hf⟩ := xb hf
  refine x_ranw (ws' := [(h0, xO 4 [.ref h2, .ref h3, .ref h1]), (h1, xJ X 320 v_elements), (h2, xI X 8 u1.1), (h3, xI X 8 u1.2)]) (x_runV (q0 := 0) (rest := []) (As := [.int p1, .int p2, .int p3]) hC mw_108 md_X4_put (c_X4_put (X := X) hf1) hH [0, 2, 3] rfl (by decide) rfl rfl rfl hl.1 rfl rfl (Nat.le_of_ble_eq_true rfl) dX4_putRow_4 ⟨Nat.le_of_ble_eq_true rfl, Nat.le_of_ble_eq_true rfl⟩ ⟨rfl, rfl⟩ ⟨Nat.le_refl _, Nat.le_refl _⟩) hH [0, 2, 3] rfl rfl rfl rfl rfl (fun hz1 H locs hH => ?_)
  refine lv_iconst (v := (nI 0)) hx hb dX4_putRow_7 (by decide) ?_
  refine lv_istore (lv' := [(4, .int (nI 0)), (0, .ref h0), (1, .int p1), (2, .int p2), (3, .int p3)]) hx hb dX4_putRow_8 hl (by decide) rfl (fun ls hl => ?_)
  exact L10 u1.1 u1.2 xN ((nI 0), v_elements) hf _ _ hH ls (lv_sub hl [1, 2, 4, 0] rfl)
def f_X4_elementAt (v_elements : (Nat → Int64)) (v_sizes : (Nat → Int32)) (p1 : Int32) (p2 : Int32) : Option (Int64) :=
  (f_X4_placeOf v_sizes p1 p2).bind fun u1 =>
  if u1 < (nI 0) then
    some (lN 0)
  else
  if (nI 320) ≤ u1 then
    some (lN 0)
  else
  if xout u1 320 then none else
  some (v_elements (xat u1))
set_option maxHeartbeats 4000000 in
set_option maxRecDepth 100000 in
theorem c_X4_elementAt {l : Launch} {X : xG} {h0 h1 h2 g0 : Nat} {v_elements : (Nat → Int64)} {v_sizes : (Nat → Int32)} {p1 : Int32} {p2 : Int32} {u : Int64} (hf : f_X4_elementAt v_elements v_sizes p1 p2 = some u) : Met l yX4_elementAt (xw yX4_elementAt cX4_elementAt 4 (some .long)) (xrm 3 65) (xPc [.ref h0, .int p1, .int p2] X [(h0, xO 4 [.ref g0, .ref h2, .ref h1]), (h1, xJ X 320 v_elements), (h2, xI X 8 v_sizes)]) (xQ True (.returned (some (.long u)))) 0 0 xNo := by
  refine xMet (n := 2) md_X4_elementAt.1 (Nat.le_of_ble_eq_true rfl) ?_
  intro p e s m args below meth c ls A hC hr hlk hH hl
  have hl : lv_has ls 4 [(0, .ref h0), (1, .int p1), (2, .int p2)] := hl
  have hx := hC.1
  have hb := hC.2.1
  refine lv_aload_n hx hb dX4_elementAt_0 rfl (lv_at hl 0 rfl) ?_
  refine lv_iload_n hx hb dX4_elementAt_1 rfl (lv_at hl 1 rfl) ?_
  refine lv_iload_n hx hb dX4_elementAt_2 rfl (lv_at hl 2 rfl) ?_
  obtain ⟨u1, hf1, hf⟩ := xb hf
  refine x_ran (x_runV (q0 := 0) (rest := []) (As := [.int p1, .int p2]) hC mw_116 md_X4_placeOf (c_X4_placeOf (X := X) hf1) hH [0, 2] rfl (by decide) rfl rfl rfl hl.1 rfl rfl (Nat.le_of_ble_eq_true rfl) dX4_elementAt_3 ⟨Nat.le_of_ble_eq_true rfl, Nat.le_of_ble_eq_true rfl⟩ ⟨rfl, rfl⟩ ⟨Nat.le_refl _, Nat.le_refl _⟩) rfl (fun hz1 => ?_)
  refine lv_istore_n (lv' := [(3, .int u1), (0, .ref h0), (1, .int p1), (2, .int p2)]) hx hb dX4_elementAt_6 rfl hl (by decide) rfl (fun ls hl => ?_)
  refine lv_iload_n hx hb dX4_elementAt_7 rfl (lv_at hl 0 rfl) ?_
  refine lv_if_lt (tgt := 29) hx hb dX4_elementAt_8 (by decide) (fun c2 => ?_) (fun c2 => ?_)
  · have hf := xt c2 hf
    refine lv_lconst (v := (lN 0)) hx hb dX4_elementAt_29 (by decide) ?_
    exact x_retl hC hr hlk trivial hf dX4_elementAt_30
  · have hf := xe c2 hf
    refine lv_iload_n hx hb dX4_elementAt_11 rfl (lv_at hl 0 rfl) ?_
    refine lv_aload_n hx hb dX4_elementAt_12 rfl (lv_at hl 1 rfl) ?_
    refine x_get hC fd_RX4_18 hH.1 0 rfl rfl dX4_elementAt_13 ?_
    refine x_alenL hC hH.1 1 rfl (v := (nI 320)) (by decide) dX4_elementAt_16 ?_
    refine lv_icmp_ge (tgt := 29) hx hb dX4_elementAt_17 (by decide) (fun c3 => ?_) (fun c3 => ?_)
    · have hf := xt c3 hf
      refine lv_lconst (v := (lN 0)) hx hb dX4_elementAt_29 (by decide) ?_
      exact x_retl hC hr hlk trivial hf dX4_elementAt_30
    · have hf := xe c3 hf
      refine lv_aload_n hx hb dX4_elementAt_20 rfl (lv_at hl 1 rfl) ?_
      refine x_get hC fd_RX4_18 hH.1 0 rfl rfl dX4_elementAt_21 ?_
      refine lv_iload_n hx hb dX4_elementAt_24 rfl (lv_at hl 0 rfl) ?_
      obtain ⟨n4, hf⟩ := xok hf
      refine x_lald hC hH.1 1 rfl n4 dX4_elementAt_25 ?_
      refine lv_goto (tgt := 30) hx hb dX4_elementAt_26 (by decide) ?_
      exact x_retl hC hr hlk trivial hf dX4_elementAt_30
def f_X4_hasElements (v_sizes : (Nat → Int32)) (p1 : Int32) (p2 : Int32) (p3 : Int32) : Option (Int32) :=
  (f_X4_sizeOf v_sizes p1).bind fun u1 =>
  (f_X6_isWithin p2 (nI 0) u1).bind fun u2 =>
  if u2 = (nI 0) then
    some (nI 0)
  else
  (f_X6_isWithin p3 (nI 0) (u1 - p2)).bind fun u4 =>
  if u4 = (nI 0) then
    some (nI 0)
  else
  some (nI 1)
set_option maxHeartbeats 4000000 in
set_option maxRecDepth 100000 in
theorem c_X4_hasElements {l : Launch} {X : xG} {h0 h1 g0 g1 : Nat} {v_sizes : (Nat → Int32)} {p1 : Int32} {p2 : Int32} {p3 : Int32} {u : Int32} (hf : f_X4_hasElements v_sizes p1 p2 p3 = some u) : Met l yX4_hasElements (xw yX4_hasElements cX4_hasElements 5 (some .boolean)) (xrm 2 43) (xPc [.ref h0, .int p1, .int p2, .int p3] X [(h0, xO 4 [.ref g0, .ref h1, .ref g1]), (h1, xI X 8 v_sizes)]) (xQ (u = 0 ∨ u = 1) (.returned (some (.int u)))) 0 0 xNo := by
  refine xMet (n := 3) md_X4_hasElements.1 (Nat.le_of_ble_eq_true rfl) ?_
  intro p e s m args below meth c ls A hC hr hlk hH hl
  have hl : lv_has ls 5 [(0, .ref h0), (1, .int p1), (2, .int p2), (3, .int p3)] := hl
  have hx := hC.1
  have hb := hC.2.1
  refine lv_aload_n hx hb dX4_hasElements_0 rfl (lv_at hl 0 rfl) ?_
  refine lv_iload_n hx hb dX4_hasElements_1 rfl (lv_at hl 1 rfl) ?_
  obtain ⟨u1, hf1, hf⟩ := xb hf
  refine x_ran (x_runV (q0 := 0) (rest := []) (As := [.int p1]) hC mw_120 md_X4_sizeOf (c_X4_sizeOf (X := X) hf1) hH [0, 1] rfl (by decide) rfl rfl rfl hl.1 rfl rfl (Nat.le_of_ble_eq_true rfl) dX4_hasElements_2 ⟨Nat.le_of_ble_eq_true rfl, Nat.le_of_ble_eq_true rfl⟩ ⟨rfl, rfl⟩ ⟨Nat.le_refl _, Nat.le_refl _⟩) rfl (fun hz1 => ?_)
  refine lv_istore (lv' := [(4, .int u1), (0, .ref h0), (1, .int p1), (2, .int p2), (3, .int p3)]) hx hb dX4_hasElements_5 hl (by decide) rfl (fun ls hl => ?_)
  refine lv_iload_n hx hb dX4_hasElements_7 rfl (lv_at hl 3 rfl) ?_
  refine lv_iconst (v := (nI 0)) hx hb dX4_hasElements_8 (by decide) ?_
  refine lv_iload hx hb dX4_hasElements_9 (lv_at hl 0 rfl) ?_
  obtain ⟨u2, hf2, hf⟩ := xb hf
  refine x_ran (x_runSN (rest := []) (As := [.int p2, .int (nI 0), .int u1]) hC mn_RX4_22 md_X6_isWithin (c_X6_isWithin (X := X) hf2) hH [] rfl (by decide) hl.1 rfl rfl (Nat.le_of_ble_eq_true rfl) dX4_hasElements_11 ⟨Nat.le_of_ble_eq_true rfl, Nat.le_of_ble_eq_true rfl⟩ ⟨rfl, rfl⟩ ⟨Nat.le_refl _, Nat.le_refl _⟩) rfl (fun hz2 => ?_)
  refine lv_if_eq (tgt := 33) hx hb dX4_hasElements_14 (by decide) (fun c3 => ?_) (fun c3 => ?_)
  · have hf := xt c3 hf
    refine lv_iconst (v := (nI 0)) hx hb dX4_hasElements_33 (by decide) ?_
    exact x_retz hC hr hlk (Or.inl rfl) hf dX4_hasElements_34
  · have hf := xe c3 hf
    refine lv_iload_n hx hb dX4_hasElements_17 rfl (lv_at hl 4 rfl) ?_
    refine lv_iconst (v := (nI 0)) hx hb dX4_hasElements_18 (by decide) ?_
    refine lv_iload hx hb dX4_hasElements_19 (lv_at hl 0 rfl) ?_
    refine lv_iload_n hx hb dX4_hasElements_21 rfl (lv_at hl 3 rfl) ?_
    refine lv_isub hx hb dX4_hasElements_22 ?_
    obtain ⟨u4, hf4, hf⟩ := xb hf
    refine x_ran (x_runSN (rest := []) (As := [.int p3, .int (nI 0), .int (u1 - p2)]) hC mn_RX4_22 md_X6_isWithin (c_X6_isWithin (X := X) hf4) hH [] rfl (by decide) hl.1 rfl rfl (Nat.le_of_ble_eq_true rfl) dX4_hasElements_23 ⟨Nat.le_of_ble_eq_true rfl, Nat.le_of_ble_eq_true rfl⟩ ⟨rfl, rfl⟩ ⟨Nat.le_refl _, Nat.le_refl _⟩) rfl (fun hz4 => ?_)
    refine lv_if_eq (tgt := 33) hx hb dX4_hasElements_26 (by decide) (fun c5 => ?_) (fun c5 => ?_)
    · have hf := xt c5 hf
      refine lv_iconst (v := (nI 0)) hx hb dX4_hasElements_33 (by decide) ?_
      exact x_retz hC hr hlk (Or.inl rfl) hf dX4_hasElements_34
    · have hf := xe c5 hf
      refine lv_iconst (v := (nI 1)) hx hb dX4_hasElements_29 (by decide) ?_
      refine lv_goto (tgt := 34) hx hb dX4_hasElements_30 (by decide) ?_
      exact x_retz hC hr hlk (Or.inr rfl) hf dX4_hasElements_34
def f_X4_copyElements_J40 (v_held : (Nat → Int32)) (v_sizes : (Nat → Int32)) (p1 : Int32) (p2 : Int32) (p3 : Int32) (p4 : Int32) (s16 : Int32 × (Nat → Int64)) (j40_s0 : Int32) : Option (((Nat → Int64)) ⊕ (Int32 × (Nat → Int64))) :=
  (f_X4_elementAt s16.2 v_sizes p1 (p3 + j40_s0)).bind fun u4 =>
  (f_X4_putElement s16.2 v_held v_sizes p2 (p4 + j40_s0) u4).bind fun u5 =>
  some (.inr (s16.1 + (nI 1), u5))
def f_X4_copyElements_L16 (v_held : (Nat → Int32)) (v_sizes : (Nat → Int32)) (p1 : Int32) (p2 : Int32) (p3 : Int32) (p4 : Int32) (p5 : Int32) (x16_6 : Int32) (s16 : Int32 × (Nat → Int64)) : Option (((Nat → Int64)) ⊕ (Int32 × (Nat → Int64))) :=
  if p5 ≤ s16.1 then
    some (.inl s16.2)
  else
  if x16_6 = (nI 0) then
    f_X4_copyElements_J40 v_held v_sizes p1 p2 p3 p4 s16 s16.1
  else
  f_X4_copyElements_J40 v_held v_sizes p1 p2 p3 p4 s16 ((p5 - (nI 1)) - s16.1)
def f_X4_copyElements (v_elements : (Nat → Int64)) (v_held : (Nat → Int32)) (v_sizes : (Nat → Int32)) (p1 : Int32) (p2 : Int32) (p3 : Int32) (p4 : Int32) (p5 : Int32) : Option ((Nat → Int64)) :=
  if p4 ≤ p3 then
    xloop (f_X4_copyElements_L16 v_held v_sizes p1 p2 p3 p4 p5 (nI 0)) xN ((nI 0), v_elements)
  else
  xloop (f_X4_copyElements_L16 v_held v_sizes p1 p2 p3 p4 p5 (nI 1)) xN ((nI 0), v_elements)
set_option maxHeartbeats 4000000 in
set_option maxRecDepth 100000 in
theorem c_X4_copyElements {l : Launch} {X : xG} {h0 h1 h2 h3 : Nat} {v_elements : (Nat → Int64)} {v_held : (Nat → Int32)} {v_sizes : (Nat → Int32)} {p1 : Int32} {p2 : Int32} {p3 : Int32} {p4 : Int32} {p5 : Int32} {u : (Nat → Int64)} (hf : f_X4_copyElements v_elements v_held v_sizes p1 p2 p3 p4 p5 = some u) : Met l yX4_copyElements (xw yX4_copyElements cX4_copyElements 9 none) (xrm 4 90) (xPc [.ref h0, .int p1, .int p2, .int p3, .int p4, .int p5] X [(h0, xO 4 [.ref h2, .ref h3, .ref h1]), (h1, xJ X 320 v_elements), (h2, xI X 8 v_held), (h3, xI X 8 v_sizes)]) (xQw True (.returned none) X [(h0, xO 4 [.ref h2, .ref h3, .ref h1]), (h1, xJ X 320 u), (h2, xI X 8 v_held), (h3, xI X 8 v_sizes)] (xAs [(h0, xO 4 [.ref h2, .ref h3, .ref h1]), (h1, xJ X 320 v_elements), (h2, xI X 8 v_held), (h3, xI X 8 v_sizes)])) 0 0 (xAs [(h0, xO 4 [.ref h2, .ref h3, .ref h1]), (h1, xJ X 320 v_elements), (h2, xI X 8 v_held), (h3, xI X 8 v_sizes)]) := by
  refine xMetw (Qc := fun A => xQw True (.returned none) X [(h0, xO 4 [.ref h2, .ref h3, .ref h1]), (h1, xJ X 320 u), (h2, xI X 8 v_held), (h3, xI X 8 v_sizes)] A) (n := 5) md_X4_copyElements.1 (Nat.le_of_ble_eq_true rfl) ?_
  intro p e s m args below meth c ls A hC hr hlk hH hl
  have hl : lv_has ls 9 [(0, .ref h0), (1, .int p1), (2, .int p2), (3, .int p3), (4, .int p4), (5, .int p5)] := hl
  have hx := hC.1
  have hb := hC.2.1
  have L16 : ∀ (x16_6 : Int32) (n : Nat) (s16 : Int32 × (Nat → Int64)), xloop (f_X4_copyElements_L16 v_held v_sizes p1 p2 p3 p4 p5 x16_6) n s16 = some u → ∀ (H : Heap) (locs : List Loc), xH X A [(h0, xO 4 [.ref h2, .ref h3, .ref h1]), (h1, xJ X 320 s16.2), (h2, xI X 8 v_held), (h3, xI X 8 v_sizes)] s.heap H locs → ∀ (ls : Array Slot), lv_has ls 9 [(0, .ref h0), (1, .int p1), (2, .int p2), (3, .int p3), (4, .int p4), (5, .int p5), (6, .int x16_6), (7, .int s16.1)] → W p l e (xrm 4 90) s m args below meth c H locs 0 0 (MQ below (xQw True (.returned none) X [(h0, xO 4 [.ref h2, .ref h3, .ref h1]), (h1, xJ X 320 u), (h2, xI X 8 v_held), (h3, xI X 8 v_sizes)] A) args s 0 0 A) (F0 m 16 ls []) := by
    intro x16_6 n
    induction n with
    | zero => intro s16 hf; exact xloop_0 hf
    | succ n ih16 =>
      intro s16 hf H locs hH ls hl
      obtain ⟨o16, hf, ho16⟩ := xloop_s hf
      have J40 : ∀ (j40_s0 : Int32), f_X4_copyElements_J40 v_held v_sizes p1 p2 p3 p4 s16 j40_s0 = some o16 → ∀ (H : Heap) (locs : List Loc), xH X A [(h0, xO 4 [.ref h2, .ref h3, .ref h1]), (h1, xJ X 320 s16.2), (h2, xI X 8 v_held), (h3, xI X 8 v_sizes)] s.heap H locs → ∀ (ls : Array Slot), lv_has ls 9 [(0, .ref h0), (1, .int p1), (2, .int p2), (3, .int p3), (4, .int p4), (5, .int p5), (6, .int x16_6), (7, .int s16.1)] → W p l e (xrm 4 90) s m args below meth c H locs 0 0 (MQ below (xQw True (.returned none) X [(h0, xO 4 [.ref h2, .ref h3, .ref h1]), (h1, xJ X 320 u), (h2, xI X 8 v_held), (h3, xI X 8 v_sizes)] A) args s 0 0 A) (F0 m 40 ls [.int j40_s0]) := by
        intro j40_s0 hf H locs hH ls hl
        refine lv_istore (lv' := [(8, .int j40_s0), (0, .ref h0), (1, .int p1), (2, .int p2), (3, .int p3), (4, .int p4), (5, .int p5), (6, .int x16_6), (7, .int s16.1)]) hx hb dX4_copyElements_40 hl (by decide) rfl (fun ls hl => ?_)
        refine lv_aload_n hx hb dX4_copyElements_42 rfl (lv_at hl 1 rfl) ?_
        refine lv_iload_n hx hb dX4_copyElements_43 rfl (lv_at hl 3 rfl) ?_
        refine lv_iload hx hb dX4_copyElements_44 (lv_at hl 5 rfl) ?_
        refine lv_iload hx hb dX4_copyElements_46 (lv_at hl 0 rfl) ?_
        refine lv_iadd hx hb dX4_copyElements_48 ?_
        refine lv_aload_n hx hb dX4_copyElements_49 rfl (lv_at hl 1 rfl) ?_
        refine lv_iload_n hx hb dX4_copyElements_50 rfl (lv_at hl 2 rfl) ?_
        refine lv_iload_n hx hb dX4_copyElements_51 rfl (lv_at hl 4 rfl) ?_
        refine lv_iload hx hb dX4_copyElements_52 (lv_at hl 0 rfl) ?_
        refine lv_iadd hx hb dX4_copyElements_54 ?_
        obtain ⟨u4, hf4, hf⟩ := xb hf
        refine x_ran (x_runV (q0 := 0) (rest := [.int (p4 + j40_s0), .int p2, .ref h0]) (As := [.int p1, .int (p3 + j40_s0)]) hC mw_197 md_X4_elementAt (c_X4_elementAt (X := X) hf4) hH [0, 1, 3] rfl (by decide) rfl rfl rfl hl.1 rfl rfl (Nat.le_of_ble_eq_true rfl) dX4_copyElements_55 ⟨Nat.le_of_ble_eq_true rfl, Nat.le_of_ble_eq_true rfl⟩ ⟨rfl, rfl⟩ ⟨Nat.le_refl _, Nat.le_refl _⟩) rfl (fun hz4 => ?_)
        obtain ⟨u5, hf5, hf⟩ := xb hf
        refine x_ranw (ws' := [(h0, xO 4 [.ref h2, .ref h3, .ref h1]), (h1, xJ X 320 u5), (h2, xI X 8 v_held), (h3, xI X 8 v_sizes)]) (x_runV (q0 := 0) (rest := []) (As := [.int p2, .int (p4 + j40_s0), .long u4]) hC mw_112 md_X4_putElement (c_X4_putElement (X := X) hf5) hH [0, 1, 2, 3] rfl (by decide) rfl rfl rfl hl.1 rfl rfl (Nat.le_of_ble_eq_true rfl) dX4_copyElements_58 ⟨Nat.le_of_ble_eq_true rfl, Nat.le_of_ble_eq_true rfl⟩ ⟨rfl, rfl⟩ ⟨Nat.le_refl _, Nat.le_refl _⟩) hH [0, 1, 2, 3] rfl rfl rfl rfl rfl (fun hz5 H locs hH => ?_)
        refine lv_iinc (v := s16.1 + (nI 1)) (lv' := [(7, .int (s16.1 + (nI 1))), (8, .int j40_s0), (0, .ref h0), (1, .int p1), (2, .int p2), (3, .int p3), (4, .int p4), (5, .int p5), (6, .int x16_6)]) hx hb dX4_copyElements_61 hl (k := 8) rfl rfl (by decide) rfl (fun ls hl => ?_)
        refine lv_goto (tgt := 16) hx hb dX4_copyElements_64 (by decide) ?_
        have hf := xo_go hf ho16
        exact ih16 (s16.1 + (nI 1), u5) hf _ _ hH ls (lv_sub hl [2, 3, 4, 5, 6, 7, 8, 0] rfl)
      refine lv_iload hx hb dX4_copyElements_16 (lv_at hl 7 rfl) ?_
      refine lv_iload hx hb dX4_copyElements_18 (lv_at hl 5 rfl) ?_
      refine lv_icmp_ge (tgt := 67) hx hb dX4_copyElements_20 (by decide) (fun c2 => ?_) (fun c2 => ?_)
      · have hf := xt c2 hf
        have hf := xo_ret hf ho16
        exact x_retvw (φ := fun _ => True) (wf := fun u : (Nat → Int64) => [(h0, xO 4 [.ref h2, .ref h3, .ref h1]), (h1, xJ X 320 u), (h2, xI X 8 v_held), (h3, xI X 8 v_sizes)]) hC hr hlk trivial hf hH rfl dX4_copyElements_67
      · have hf := xe c2 hf
        refine lv_iload hx hb dX4_copyElements_23 (lv_at hl 6 rfl) ?_
        refine lv_if_eq (tgt := 38) hx hb dX4_copyElements_25 (by decide) (fun c3 => ?_) (fun c3 => ?_)
        · have hf := xt c3 hf
          refine lv_iload hx hb dX4_copyElements_38 (lv_at hl 7 rfl) ?_
          exact J40 s16.1 hf _ _ hH ls (lv_sub hl [0, 1, 2, 3, 4, 5, 6, 7] rfl)
        · have hf := xe c3 hf
          refine lv_iload hx hb dX4_copyElements_28 (lv_at hl 5 rfl) ?_
          refine lv_iconst (v := (nI 1)) hx hb dX4_copyElements_30 (by decide) ?_
          refine lv_isub hx hb dX4_copyElements_31 ?_
          refine lv_iload hx hb dX4_copyElements_32 (lv_at hl 7 rfl) ?_
          refine lv_isub hx hb dX4_copyElements_34 ?_
          refine lv_goto (tgt := 40) hx hb dX4_copyElements_35 (by decide) ?_
          exact J40 ((p5 - (nI 1)) - s16.1) hf _ _ hH ls (lv_sub hl [0, 1, 2, 3, 4, 5, 6, 7] rfl)
  refine lv_iload hx hb dX4_copyElements_0 (lv_at hl 4 rfl) ?_
  refine lv_iload_n hx hb dX4_copyElements_2 rfl (lv_at hl 3 rfl) ?_
  refine lv_icmp_le (tgt := 10) hx hb dX4_copyElements_3 (by decide) (fun c1 => ?_) (fun c1 => ?_)
  · have hf := xt c1 hf
    refine lv_iconst (v := (nI 0)) hx hb dX4_copyElements_10 (by decide) ?_
    refine lv_istore (lv' := [(6, .int (nI 0)), (0, .ref h0), (1, .int p1), (2, .int p2), (3, .int p3), (4, .int p4), (5, .int p5)]) hx hb dX4_copyElements_11 hl (by decide) rfl (fun ls hl => ?_)
    refine lv_iconst (v := (nI 0)) hx hb dX4_copyElements_13 (by decide) ?_
    refine lv_istore (lv' := [(7, .int (nI 0)), (6, .int (nI 0)), (0, .ref h0), (1, .int p1), (2, .int p2), (3, .int p3), (4, .int p4), (5, .int p5)]) hx hb dX4_copyElements_14 hl (by decide) rfl (fun ls hl => ?_)
    exact L16 (nI 0) xN ((nI 0), v_elements) hf _ _ hH ls (lv_sub hl [2, 3, 4, 5, 6, 7, 1, 0] rfl)
  · have hf := xe c1 hf
    refine lv_iconst (v := (nI 1)) hx hb dX4_copyElements_6 (by decide) ?_
    refine lv_goto (tgt := 11) hx hb dX4_copyElements_7 (by decide) ?_
    refine lv_istore (lv' := [(6, .int (nI 1)), (0, .ref h0), (1, .int p1), (2, .int p2), (3, .int p3), (4, .int p4), (5, .int p5)]) hx hb dX4_copyElements_11 hl (by decide) rfl (fun ls hl => ?_)
    refine lv_iconst (v := (nI 0)) hx hb dX4_copyElements_13 (by decide) ?_
    refine lv_istore (lv' := [(7, .int (nI 0)), (6, .int (nI 1)), (0, .ref h0), (1, .int p1), (2, .int p2), (3, .int p3), (4, .int p4), (5, .int p5)]) hx hb dX4_copyElements_14 hl (by decide) rfl (fun ls hl => ?_)
    exact L16 (nI 1) xN ((nI 0), v_elements) hf _ _ hH ls (lv_sub hl [2, 3, 4, 5, 6, 7, 1, 0] rfl)
def f_X4_elementsAsBits_L5 (v_elements : (Nat → Int64)) (v_sizes : (Nat → Int32)) (p1 : Int32) (p2 : Int32) (s5 : Int64 × Int32) : Option ((Int64) ⊕ (Int64 × Int32)) :=
  if p2 ≤ s5.2 then
    some (.inl s5.1)
  else
  (f_X4_elementAt v_elements v_sizes p1 s5.2).bind fun u2 =>
  if (xcmp u2 (lN 0)) = (nI 0) then
    some (.inr (s5.1, s5.2 + (nI 1)))
  else
  some (.inr (s5.1 ||| (xlshl (lN 1) s5.2), s5.2 + (nI 1)))
def f_X4_elementsAsBits (v_elements : (Nat → Int64)) (v_sizes : (Nat → Int32)) (p1 : Int32) (p2 : Int32) : Option (Int64) :=
  xloop (f_X4_elementsAsBits_L5 v_elements v_sizes p1 p2) xN ((lN 0), (nI 0))
set_option maxHeartbeats 4000000 in
set_option maxRecDepth 100000 in
theorem c_X4_elementsAsBits {l : Launch} {X : xG} {h0 h1 h2 g0 : Nat} {v_elements : (Nat → Int64)} {v_sizes : (Nat → Int32)} {p1 : Int32} {p2 : Int32} {u : Int64} (hf : f_X4_elementsAsBits v_elements v_sizes p1 p2 = some u) : Met l yX4_elementsAsBits (xw yX4_elementsAsBits cX4_elementsAsBits 6 (some .long)) (xrm 4 88) (xPc [.ref h0, .int p1, .int p2] X [(h0, xO 4 [.ref g0, .ref h2, .ref h1]), (h1, xJ X 320 v_elements), (h2, xI X 8 v_sizes)]) (xQ True (.returned (some (.long u)))) 0 0 xNo := by
  refine xMet (n := 2) md_X4_elementsAsBits.1 (Nat.le_of_ble_eq_true rfl) ?_
  intro p e s m args below meth c ls A hC hr hlk hH hl
  have hl : lv_has ls 6 [(0, .ref h0), (1, .int p1), (2, .int p2)] := hl
  have hx := hC.1
  have hb := hC.2.1
  have L5 : ∀ (n : Nat) (s5 : Int64 × Int32), xloop (f_X4_elementsAsBits_L5 v_elements v_sizes p1 p2) n s5 = some u → ∀ (ls : Array Slot), lv_has ls 6 [(0, .ref h0), (1, .int p1), (2, .int p2), (3, .long s5.1), (5, .int s5.2)] → W p l e (xrm 4 88) s m args below meth c s.heap [] 0 0 (MQ below (xQ True (.returned (some (.long u)))) args s 0 0 xNo) (F0 m 5 ls []) := by
    intro  n
    induction n with
    | zero => intro s5 hf; exact xloop_0 hf
    | succ n ih5 =>
      intro s5 hf ls hl
      obtain ⟨o5, hf, ho5⟩ := xloop_s hf
      refine lv_iload hx hb dX4_elementsAsBits_5 (lv_at hl 4 rfl) ?_
      refine lv_iload_n hx hb dX4_elementsAsBits_7 rfl (lv_at hl 2 rfl) ?_
      refine lv_icmp_ge (tgt := 36) hx hb dX4_elementsAsBits_8 (by decide) (fun c1 => ?_) (fun c1 => ?_)
      · have hf := xt c1 hf
        refine lv_lload_n hx hb dX4_elementsAsBits_36 rfl (lv_at hl 3 rfl) ?_
        have hf := xo_ret hf ho5
        exact x_retl hC hr hlk trivial hf dX4_elementsAsBits_37
      · have hf := xe c1 hf
        refine lv_aload_n hx hb dX4_elementsAsBits_11 rfl (lv_at hl 0 rfl) ?_
        refine lv_iload_n hx hb dX4_elementsAsBits_12 rfl (lv_at hl 1 rfl) ?_
        refine lv_iload hx hb dX4_elementsAsBits_13 (lv_at hl 4 rfl) ?_
        obtain ⟨u2, hf2, hf⟩ := xb hf
        refine x_ran (x_runV (q0 := 0) (rest := []) (As := [.int p1, .int s5.2]) hC mw_197 md_X4_elementAt (c_X4_elementAt (X := X) hf2) hH [0, 1, 2] rfl (by decide) rfl rfl rfl hl.1 rfl rfl (Nat.le_of_ble_eq_true rfl) dX4_elementsAsBits_15 ⟨Nat.le_of_ble_eq_true rfl, Nat.le_of_ble_eq_true rfl⟩ ⟨rfl, rfl⟩ ⟨Nat.le_refl _, Nat.le_refl _⟩) rfl (fun hz2 => ?_)
        refine lv_lconst (v := (lN 0)) hx hb dX4_elementsAsBits_18 (by decide) ?_
        refine x_lcmp hx hb dX4_elementsAsBits_19 ?_
        refine lv_if_eq (tgt := 30) hx hb dX4_elementsAsBits_20 (by decide) (fun c3 => ?_) (fun c3 => ?_)
        · have hf := xt c3 hf
          refine lv_iinc (v := s5.2 + (nI 1)) (lv' := [(5, .int (s5.2 + (nI 1))), (0, .ref h0), (1, .int p1), (2, .int p2), (3, .long s5.1)]) hx hb dX4_elementsAsBits_30 hl (k := 4) rfl rfl (by decide) rfl (fun ls hl => ?_)
          refine lv_goto (tgt := 5) hx hb dX4_elementsAsBits_33 (by decide) ?_
          have hf := xo_go hf ho5
          exact ih5 (s5.1, s5.2 + (nI 1)) hf ls (lv_sub hl [1, 2, 3, 4, 0] rfl)
        · have hf := xe c3 hf
          refine lv_lload_n hx hb dX4_elementsAsBits_23 rfl (lv_at hl 3 rfl) ?_
          refine lv_lconst (v := (lN 1)) hx hb dX4_elementsAsBits_24 (by decide) ?_
          refine lv_iload hx hb dX4_elementsAsBits_25 (lv_at hl 4 rfl) ?_
          refine x_lshl hx hb dX4_elementsAsBits_27 ?_
          refine lv_lor hx hb dX4_elementsAsBits_28 ?_
          refine lv_lstore_n (lv' := [(3, .long (s5.1 ||| (xlshl (lN 1) s5.2))), (0, .ref h0), (1, .int p1), (2, .int p2), (5, .int s5.2)]) hx hb dX4_elementsAsBits_29 rfl hl (by decide) rfl (fun ls hl => ?_)
          refine lv_iinc (v := s5.2 + (nI 1)) (lv' := [(5, .int (s5.2 + (nI 1))), (3, .long (s5.1 ||| (xlshl (lN 1) s5.2))), (0, .ref h0), (1, .int p1), (2, .int p2)]) hx hb dX4_elementsAsBits_30 hl (k := 4) rfl rfl (by decide) rfl (fun ls hl => ?_)
          refine lv_goto (tgt := 5) hx hb dX4_elementsAsBits_33 (by decide) ?_
          have hf := xo_go hf ho5
          exact ih5 (s5.1 ||| (xlshl (lN 1) s5.2), s5.2 + (nI 1)) hf ls (lv_sub hl [2, 3, 4, 1, 0] rfl)
  refine lv_lconst (v := (lN 0)) hx hb dX4_elementsAsBits_0 (by decide) ?_
  refine lv_lstore_n (lv' := [(3, .long (lN 0)), (0, .ref h0), (1, .int p1), (2, .int p2)]) hx hb dX4_elementsAsBits_1 rfl hl (by decide) rfl (fun ls hl => ?_)
  refine lv_iconst (v := (nI 0)) hx hb dX4_elementsAsBits_2 (by decide) ?_
  refine lv_istore (lv' := [(5, .int (nI 0)), (3, .long (lN 0)), (0, .ref h0), (1, .int p1), (2, .int p2)]) hx hb dX4_elementsAsBits_3 hl (by decide) rfl (fun ls hl => ?_)
  exact L5 xN ((lN 0), (nI 0)) hf ls (lv_sub hl [2, 3, 4, 1, 0] rfl)
def f_X4_firstWrong_L2 (v_elements : (Nat → Int64)) (v_sizes : (Nat → Int32)) (p1 : Int32) (p2 : Int32) (s2 : Int32) : Option ((Int32) ⊕ (Int32)) :=
  if p2 ≤ s2 then
    some (.inl (-1 : Int32))
  else
  (f_X4_elementAt v_elements v_sizes p1 s2).bind fun u2 =>
  if (xcmp u2 (lN 0)) = (nI 0) then
    some (.inr (s2 + (nI 1)))
  else
  (f_X4_elementAt v_elements v_sizes p1 s2).bind fun u4 =>
  if (xcmp u4 (lN 1)) = (nI 0) then
    some (.inr (s2 + (nI 1)))
  else
  some (.inl s2)
def f_X4_firstWrong (v_elements : (Nat → Int64)) (v_sizes : (Nat → Int32)) (p1 : Int32) (p2 : Int32) : Option (Int32) :=
  xloop (f_X4_firstWrong_L2 v_elements v_sizes p1 p2) xN (nI 0)
set_option maxHeartbeats 4000000 in
set_option maxRecDepth 100000 in
theorem c_X4_firstWrong {l : Launch} {X : xG} {h0 h1 h2 g0 : Nat} {v_elements : (Nat → Int64)} {v_sizes : (Nat → Int32)} {p1 : Int32} {p2 : Int32} {u : Int32} (hf : f_X4_firstWrong v_elements v_sizes p1 p2 = some u) : Met l yX4_firstWrong (xw yX4_firstWrong cX4_firstWrong 4 (some .int)) (xrm 4 88) (xPc [.ref h0, .int p1, .int p2] X [(h0, xO 4 [.ref g0, .ref h2, .ref h1]), (h1, xJ X 320 v_elements), (h2, xI X 8 v_sizes)]) (xQ True (.returned (some (.int u)))) 0 0 xNo := by
  refine xMet (n := 2) md_X4_firstWrong.1 (Nat.le_of_ble_eq_true rfl) ?_
  intro p e s m args below meth c ls A hC hr hlk hH hl
  have hl : lv_has ls 4 [(0, .ref h0), (1, .int p1), (2, .int p2)] := hl
  have hx := hC.1
  have hb := hC.2.1
  have L2 : ∀ (n : Nat) (s2 : Int32), xloop (f_X4_firstWrong_L2 v_elements v_sizes p1 p2) n s2 = some u → ∀ (ls : Array Slot), lv_has ls 4 [(0, .ref h0), (1, .int p1), (2, .int p2), (3, .int s2)] → W p l e (xrm 4 88) s m args below meth c s.heap [] 0 0 (MQ below (xQ True (.returned (some (.int u)))) args s 0 0 xNo) (F0 m 2 ls []) := by
    intro  n
    induction n with
    | zero => intro s2 hf; exact xloop_0 hf
    | succ n ih2 =>
      intro s2 hf ls hl
      obtain ⟨o2, hf, ho2⟩ := xloop_s hf
      refine lv_iload_n hx hb dX4_firstWrong_2 rfl (lv_at hl 3 rfl) ?_
      refine lv_iload_n hx hb dX4_firstWrong_3 rfl (lv_at hl 2 rfl) ?_
      refine lv_icmp_ge (tgt := 37) hx hb dX4_firstWrong_4 (by decide) (fun c1 => ?_) (fun c1 => ?_)
      · have hf := xt c1 hf
        refine lv_iconst (v := (-1 : Int32)) hx hb dX4_firstWrong_37 (by decide) ?_
        have hf := xo_ret hf ho2
        exact x_reti hC hr hlk trivial hf dX4_firstWrong_38
      · have hf := xe c1 hf
        refine lv_aload_n hx hb dX4_firstWrong_7 rfl (lv_at hl 0 rfl) ?_
        refine lv_iload_n hx hb dX4_firstWrong_8 rfl (lv_at hl 1 rfl) ?_
        refine lv_iload_n hx hb dX4_firstWrong_9 rfl (lv_at hl 3 rfl) ?_
        obtain ⟨u2, hf2, hf⟩ := xb hf
        refine x_ran (x_runV (q0 := 0) (rest := []) (As := [.int p1, .int s2]) hC mw_197 md_X4_elementAt (c_X4_elementAt (X := X) hf2) hH [0, 1, 2] rfl (by decide) rfl rfl rfl hl.1 rfl rfl (Nat.le_of_ble_eq_true rfl) dX4_firstWrong_10 ⟨Nat.le_of_ble_eq_true rfl, Nat.le_of_ble_eq_true rfl⟩ ⟨rfl, rfl⟩ ⟨Nat.le_refl _, Nat.le_refl _⟩) rfl (fun hz2 => ?_)
        refine lv_lconst (v := (lN 0)) hx hb dX4_firstWrong_13 (by decide) ?_
        refine x_lcmp hx hb dX4_firstWrong_14 ?_
        refine lv_if_eq (tgt := 31) hx hb dX4_firstWrong_15 (by decide) (fun c3 => ?_) (fun c3 => ?_)
        · have hf := xt c3 hf
          refine lv_iinc (v := s2 + (nI 1)) (lv' := [(3, .int (s2 + (nI 1))), (0, .ref h0), (1, .int p1), (2, .int p2)]) hx hb dX4_firstWrong_31 hl (k := 3) rfl rfl (by decide) rfl (fun ls hl => ?_)
          refine lv_goto (tgt := 2) hx hb dX4_firstWrong_34 (by decide) ?_
          have hf := xo_go hf ho2
          exact ih2 (s2 + (nI 1)) hf ls (lv_sub hl [1, 2, 3, 0] rfl)
        · have hf := xe c3 hf
          refine lv_aload_n hx hb dX4_firstWrong_18 rfl (lv_at hl 0 rfl) ?_
          refine lv_iload_n hx hb dX4_firstWrong_19 rfl (lv_at hl 1 rfl) ?_
          refine lv_iload_n hx hb dX4_firstWrong_20 rfl (lv_at hl 3 rfl) ?_
          obtain ⟨u4, hf4, hf⟩ := xb hf
          refine x_ran (x_runV (q0 := 0) (rest := []) (As := [.int p1, .int s2]) hC mw_197 md_X4_elementAt (c_X4_elementAt (X := X) hf4) hH [0, 1, 2] rfl (by decide) rfl rfl rfl hl.1 rfl rfl (Nat.le_of_ble_eq_true rfl) dX4_firstWrong_21 ⟨Nat.le_of_ble_eq_true rfl, Nat.le_of_ble_eq_true rfl⟩ ⟨rfl, rfl⟩ ⟨Nat.le_refl _, Nat.le_refl _⟩) rfl (fun hz4 => ?_)
          refine lv_lconst (v := (lN 1)) hx hb dX4_firstWrong_24 (by decide) ?_
          refine x_lcmp hx hb dX4_firstWrong_25 ?_
          refine lv_if_eq (tgt := 31) hx hb dX4_firstWrong_26 (by decide) (fun c5 => ?_) (fun c5 => ?_)
          · have hf := xt c5 hf
            refine lv_iinc (v := s2 + (nI 1)) (lv' := [(3, .int (s2 + (nI 1))), (0, .ref h0), (1, .int p1), (2, .int p2)]) hx hb dX4_firstWrong_31 hl (k := 3) rfl rfl (by decide) rfl (fun ls hl => ?_)
            refine lv_goto (tgt := 2) hx hb dX4_firstWrong_34 (by decide) ?_
            have hf := xo_go hf ho2
            exact ih2 (s2 + (nI 1)) hf ls (lv_sub hl [1, 2, 3, 0] rfl)
          · have hf := xe c5 hf
            refine lv_iload_n hx hb dX4_firstWrong_29 rfl (lv_at hl 3 rfl) ?_
            have hf := xo_ret hf ho2
            exact x_reti hC hr hlk trivial hf dX4_firstWrong_30
  refine lv_iconst (v := (nI 0)) hx hb dX4_firstWrong_0 (by decide) ?_
  refine lv_istore_n (lv' := [(3, .int (nI 0)), (0, .ref h0), (1, .int p1), (2, .int p2)]) hx hb dX4_firstWrong_1 rfl hl (by decide) rfl (fun ls hl => ?_)
  exact L2 xN (nI 0) hf ls (lv_sub hl [1, 2, 3, 0] rfl)
def f_X4_clearLawsFrom_L2 (p1 : Int32) (s2 : Int32 × (Nat → Int32) × (Nat → Int32)) : Option (((Nat → Int32) × (Nat → Int32)) ⊕ (Int32 × (Nat → Int32) × (Nat → Int32))) :=
  if (nI 8) ≤ s2.1 then
    some (.inl (s2.2.1, s2.2.2))
  else
  (f_X4_lawOn s2.2.1 s2.1).bind fun u2 =>
  if u2 < p1 then
    some (.inr (s2.1 + (nI 1), s2.2.1, s2.2.2))
  else
  (f_X4_putNothing s2.2.1 s2.2.2 s2.1).bind fun u4 =>
  some (.inr (s2.1 + (nI 1), u4.1, u4.2))
def f_X4_clearLawsFrom (v_held : (Nat → Int32)) (v_sizes : (Nat → Int32)) (p1 : Int32) : Option ((Nat → Int32) × (Nat → Int32)) :=
  xloop (f_X4_clearLawsFrom_L2 p1) xN ((nI 0), v_held, v_sizes)
set_option maxHeartbeats 4000000 in
set_option maxRecDepth 100000 in
theorem c_X4_clearLawsFrom {l : Launch} {X : xG} {h0 h1 h2 g0 : Nat} {v_held : (Nat → Int32)} {v_sizes : (Nat → Int32)} {p1 : Int32} {u : (Nat → Int32) × (Nat → Int32)} (hf : f_X4_clearLawsFrom v_held v_sizes p1 = some u) : Met l yX4_clearLawsFrom (xw yX4_clearLawsFrom cX4_clearLawsFrom 3 none) (xrm 3 64) (xPc [.ref h0, .int p1] X [(h0, xO 4 [.ref h1, .ref h2, .ref g0]), (h1, xI X 8 v_held), (h2, xI X 8 v_sizes)]) (xQw True (.returned none) X [(h0, xO 4 [.ref h1, .ref h2, .ref g0]), (h1, xI X 8 u.1), (h2, xI X 8 u.2)] (xAs [(h0, xO 4 [.ref h1, .ref h2, .ref g0]), (h1, xI X 8 v_held), (h2, xI X 8 v_sizes)])) 0 0 (xAs [(h0, xO 4 [.ref h1, .ref h2, .ref g0]), (h1, xI X 8 v_held), (h2, xI X 8 v_sizes)]) := by
  refine xMetw (Qc := fun A => xQw True (.returned none) X [(h0, xO 4 [.ref h1, .ref h2, .ref g0]), (h1, xI X 8 u.1), (h2, xI X 8 u.2)] A) (n := 1) md_X4_clearLawsFrom.1 (Nat.le_of_ble_eq_true rfl) ?_
  intro p e s m args below meth c ls A hC hr hlk hH hl
  have hl : lv_has ls 3 [(0, .ref h0), (1, .int p1)] := hl
  have hx := hC.1
  have hb := hC.2.1
  have L2 : ∀ (n : Nat) (s2 : Int32 × (Nat → Int32) × (Nat → Int32)), xloop (f_X4_clearLawsFrom_L2 p1) n s2 = some u → ∀ (H : Heap) (locs : List Loc), xH X A [(h0, xO 4 [.ref h1, .ref h2, .ref g0]), (h1, xI X 8 s2.2.1), (h2, xI X 8 s2.2.2)] s.heap H locs → ∀ (ls : Array Slot), lv_has ls 3 [(0, .ref h0), (1, .int p1), (2, .int s2.1)] → W p l e (xrm 3 64) s m args below meth c H locs 0 0 (MQ below (xQw True (.returned none) X [(h0, xO 4 [.ref h1, .ref h2, .ref g0]), (h1, xI X 8 u.1), (h2, xI X 8 u.2)] A) args s 0 0 A) (F0 m 2 ls []) := by
    intro  n
    induction n with
    | zero => intro s2 hf; exact xloop_0 hf
    | succ n ih2 =>
      intro s2 hf H locs hH ls hl
      obtain ⟨o2, hf, ho2⟩ := xloop_s hf
      refine lv_iload_n hx hb dX4_clearLawsFrom_2 rfl (lv_at hl 2 rfl) ?_
      refine lv_bipush (v := (nI 8)) hx hb dX4_clearLawsFrom_3 (by decide) ?_
      refine lv_icmp_ge (tgt := 28) hx hb dX4_clearLawsFrom_5 (by decide) (fun c1 => ?_) (fun c1 => ?_)
      · have hf := xt c1 hf
        have hf := xo_ret hf ho2
        exact x_retvw (φ := fun _ => True) (wf := fun u : (Nat → Int32) × (Nat → Int32) => [(h0, xO 4 [.ref h1, .ref h2, .ref g0]), (h1, xI X 8 u.1), (h2, xI X 8 u.2)]) hC hr hlk trivial hf hH rfl dX4_clearLawsFrom_28
      · have hf := xe c1 hf
        refine lv_aload_n hx hb dX4_clearLawsFrom_8 rfl (lv_at hl 0 rfl) ?_
        refine lv_iload_n hx hb dX4_clearLawsFrom_9 rfl (lv_at hl 2 rfl) ?_
        obtain ⟨u2, hf2, hf⟩ := xb hf
        refine x_ran (x_runV (q0 := 0) (rest := []) (As := [.int s2.1]) hC mw_1381 md_X4_lawOn (c_X4_lawOn (X := X) hf2) hH [0, 1] rfl (by decide) rfl rfl rfl hl.1 rfl rfl (Nat.le_of_ble_eq_true rfl) dX4_clearLawsFrom_10 ⟨Nat.le_of_ble_eq_true rfl, Nat.le_of_ble_eq_true rfl⟩ ⟨rfl, rfl⟩ ⟨Nat.le_refl _, Nat.le_refl _⟩) rfl (fun hz2 => ?_)
        refine lv_iload_n hx hb dX4_clearLawsFrom_13 rfl (lv_at hl 1 rfl) ?_
        refine lv_icmp_lt (tgt := 22) hx hb dX4_clearLawsFrom_14 (by decide) (fun c3 => ?_) (fun c3 => ?_)
        · have hf := xt c3 hf
          refine lv_iinc (v := s2.1 + (nI 1)) (lv' := [(2, .int (s2.1 + (nI 1))), (0, .ref h0), (1, .int p1)]) hx hb dX4_clearLawsFrom_22 hl (k := 2) rfl rfl (by decide) rfl (fun ls hl => ?_)
          refine lv_goto (tgt := 2) hx hb dX4_clearLawsFrom_25 (by decide) ?_
          have hf := xo_go hf ho2
          exact ih2 (s2.1 + (nI 1), s2.2.1, s2.2.2) hf _ _ hH ls (lv_sub hl [1, 2, 0] rfl)
        · have hf := xe c3 hf
          refine lv_aload_n hx hb dX4_clearLawsFrom_17 rfl (lv_at hl 0 rfl) ?_
          refine lv_iload_n hx hb dX4_clearLawsFrom_18 rfl (lv_at hl 2 rfl) ?_
          obtain ⟨u4, hf4, hf⟩ := xb hf
          refine x_ranw (ws' := [(h0, xO 4 [.ref h1, .ref h2, .ref g0]), (h1, xI X 8 u4.1), (h2, xI X 8 u4.2)]) (x_runV (q0 := 0) (rest := []) (As := [.int s2.1]) hC mw_1382 md_X4_putNothing (c_X4_putNothing (X := X) hf4) hH [0, 1, 2] rfl (by decide) rfl rfl rfl hl.1 rfl rfl (Nat.le_of_ble_eq_true rfl) dX4_clearLawsFrom_19 ⟨Nat.le_of_ble_eq_true rfl, Nat.le_of_ble_eq_true rfl⟩ ⟨rfl, rfl⟩ ⟨Nat.le_refl _, Nat.le_refl _⟩) hH [0, 1, 2] rfl rfl rfl rfl rfl (fun hz4 H locs hH => ?_)
          refine lv_iinc (v := s2.1 + (nI 1)) (lv' := [(2, .int (s2.1 + (nI 1))), (0, .ref h0), (1, .int p1)]) hx hb dX4_clearLawsFrom_22 hl (k := 2) rfl rfl (by decide) rfl (fun ls hl => ?_)
          refine lv_goto (tgt := 2) hx hb dX4_clearLawsFrom_25 (by decide) ?_
          have hf := xo_go hf ho2
          exact ih2 (s2.1 + (nI 1), u4.1, u4.2) hf _ _ hH ls (lv_sub hl [1, 2, 0] rfl)
  refine lv_iconst (v := (nI 0)) hx hb dX4_clearLawsFrom_0 (by decide) ?_
  refine lv_istore_n (lv' := [(2, .int (nI 0)), (0, .ref h0), (1, .int p1)]) hx hb dX4_clearLawsFrom_1 rfl hl (by decide) rfl (fun ls hl => ?_)
  exact L2 xN ((nI 0), v_held, v_sizes) hf _ _ hH ls (lv_sub hl [1, 2, 0] rfl)
def f_X5_hasRoom (v_size : Int32) : Option (Int32) :=
  if (nI 250) ≤ v_size then
    some (nI 0)
  else
  some (nI 1)
set_option maxHeartbeats 4000000 in
set_option maxRecDepth 100000 in
theorem c_X5_hasRoom {l : Launch} {X : xG} {h0 g0 : Nat} {v_size : Int32} {v_token : Int32} {v_tokenStart : Int32} {v_tokenEnd : Int32} {u : Int32} (hf : f_X5_hasRoom v_size = some u) : Met l yX5_hasRoom (xw yX5_hasRoom cX5_hasRoom 1 (some .boolean)) (xrm 0 0) (xPc [.ref h0] X [(h0, xO 5 [.ref g0, .int v_size, .int v_token, .int v_tokenStart, .int v_tokenEnd])]) (xQ (u = 0 ∨ u = 1) (.returned (some (.int u)))) 0 0 xNo := by
  refine xMet (n := 0) md_X5_hasRoom.1 (Nat.le_of_ble_eq_true rfl) ?_
  intro p e s m args below meth c ls A hC hr hlk hH hl
  have hl : lv_has ls 1 [(0, .ref h0)] := hl
  have hx := hC.1
  have hb := hC.2.1
  refine lv_aload_n hx hb dX5_hasRoom_0 rfl (lv_at hl 0 rfl) ?_
  refine x_get hC fd_RX5_15 hH.1 0 rfl rfl dX5_hasRoom_1 ?_
  refine lv_sipush (v := (nI 250)) hx hb dX5_hasRoom_4 (by decide) ?_
  refine lv_icmp_ge (tgt := 14) hx hb dX5_hasRoom_7 (by decide) (fun c1 => ?_) (fun c1 => ?_)
  · have hf := xt c1 hf
    refine lv_iconst (v := (nI 0)) hx hb dX5_hasRoom_14 (by decide) ?_
    exact x_retz hC hr hlk (Or.inl rfl) hf dX5_hasRoom_15
  · have hf := xe c1 hf
    refine lv_iconst (v := (nI 1)) hx hb dX5_hasRoom_10 (by decide) ?_
    refine lv_goto (tgt := 15) hx hb dX5_hasRoom_11 (by decide) ?_
    exact x_retz hC hr hlk (Or.inr rfl) hf dX5_hasRoom_15
def f_X5_add (v_size : Int32) (v_bytes : (Nat → Int32)) (p1 : Int32) : Option (Int32 × Int32 × (Nat → Int32)) :=
  if v_size < (nI 0) then
    some (v_size, v_size, v_bytes)
  else
  if (nI 250) ≤ v_size then
    some (v_size, v_size, v_bytes)
  else
  if xout v_size 250 then none else
  some (v_size + (nI 1), v_size + (nI 1), upd v_bytes (xat v_size) p1)
set_option maxHeartbeats 4000000 in
set_option maxRecDepth 100000 in
theorem c_X5_add {l : Launch} {X : xG} {h0 h1 : Nat} {v_size : Int32} {v_token : Int32} {v_tokenStart : Int32} {v_tokenEnd : Int32} {v_bytes : (Nat → Int32)} {p1 : Int32} {u : Int32 × Int32 × (Nat → Int32)} (hf : f_X5_add v_size v_bytes p1 = some u) : Met l yX5_add (xw yX5_add cX5_add 2 (some .int)) (xrm 0 0) (xPc [.ref h0, .int p1] X [(h0, xO 5 [.ref h1, .int v_size, .int v_token, .int v_tokenStart, .int v_tokenEnd]), (h1, xI X 250 v_bytes)]) (xQw True (.returned (some (.int u.1))) X [(h0, xO 5 [.ref h1, .int u.2.1, .int v_token, .int v_tokenStart, .int v_tokenEnd]), (h1, xI X 250 u.2.2)] (xAs [(h0, xO 5 [.ref h1, .int v_size, .int v_token, .int v_tokenStart, .int v_tokenEnd]), (h1, xI X 250 v_bytes)])) 0 0 (xAs [(h0, xO 5 [.ref h1, .int v_size, .int v_token, .int v_tokenStart, .int v_tokenEnd]), (h1, xI X 250 v_bytes)]) := by
  refine xMetw (Qc := fun A => xQw True (.returned (some (.int u.1))) X [(h0, xO 5 [.ref h1, .int u.2.1, .int v_token, .int v_tokenStart, .int v_tokenEnd]), (h1, xI X 250 u.2.2)] A) (n := 1) md_X5_add.1 (Nat.le_of_ble_eq_true rfl) ?_
  intro p e s m args below meth c ls A hC hr hlk hH hl
  have hl : lv_has ls 2 [(0, .ref h0), (1, .int p1)] := hl
  have hx := hC.1
  have hb := hC.2.1
  refine lv_aload_n hx hb dX5_add_0 rfl (lv_at hl 0 rfl) ?_
  refine x_get hC fd_RX5_15 hH.1 0 rfl rfl dX5_add_1 ?_
  refine lv_if_lt (tgt := 39) hx hb dX5_add_4 (by decide) (fun c1 => ?_) (fun c1 => ?_)
  · have hf := xt c1 hf
    refine lv_aload_n hx hb dX5_add_39 rfl (lv_at hl 0 rfl) ?_
    refine x_get hC fd_RX5_15 hH.1 0 rfl rfl dX5_add_40 ?_
    exact x_retiw (φ := fun _ => True) (f := fun u : Int32 × Int32 × (Nat → Int32) => u.1) (wf := fun u : Int32 × Int32 × (Nat → Int32) => [(h0, xO 5 [.ref h1, .int u.2.1, .int v_token, .int v_tokenStart, .int v_tokenEnd]), (h1, xI X 250 u.2.2)]) hC hr hlk trivial hf hH rfl rfl dX5_add_43
  · have hf := xe c1 hf
    refine lv_aload_n hx hb dX5_add_7 rfl (lv_at hl 0 rfl) ?_
    refine x_get hC fd_RX5_15 hH.1 0 rfl rfl dX5_add_8 ?_
    refine lv_aload_n hx hb dX5_add_11 rfl (lv_at hl 0 rfl) ?_
    refine x_get hC fd_RX5_11 hH.1 0 rfl rfl dX5_add_12 ?_
    refine x_alen hC hH.1 1 rfl (v := (nI 250)) (by decide) dX5_add_15 ?_
    refine lv_icmp_ge (tgt := 39) hx hb dX5_add_16 (by decide) (fun c2 => ?_) (fun c2 => ?_)
    · have hf := xt c2 hf
      refine lv_aload_n hx hb dX5_add_39 rfl (lv_at hl 0 rfl) ?_
      refine x_get hC fd_RX5_15 hH.1 0 rfl rfl dX5_add_40 ?_
      exact x_retiw (φ := fun _ => True) (f := fun u : Int32 × Int32 × (Nat → Int32) => u.1) (wf := fun u : Int32 × Int32 × (Nat → Int32) => [(h0, xO 5 [.ref h1, .int u.2.1, .int v_token, .int v_tokenStart, .int v_tokenEnd]), (h1, xI X 250 u.2.2)]) hC hr hlk trivial hf hH rfl rfl dX5_add_43
    · have hf := xe c2 hf
      refine lv_aload_n hx hb dX5_add_19 rfl (lv_at hl 0 rfl) ?_
      refine x_get hC fd_RX5_11 hH.1 0 rfl rfl dX5_add_20 ?_
      refine lv_aload_n hx hb dX5_add_23 rfl (lv_at hl 0 rfl) ?_
      refine x_get hC fd_RX5_15 hH.1 0 rfl rfl dX5_add_24 ?_
      refine lv_iload_n hx hb dX5_add_27 rfl (lv_at hl 1 rfl) ?_
      obtain ⟨n3, hf⟩ := xok hf
      refine x_iast (ws' := [(h0, xO 5 [.ref h1, .int v_size, .int v_token, .int v_tokenStart, .int v_tokenEnd]), (h1, xI X 250 (upd v_bytes (xat v_size) p1))]) hC hH 1 rfl n3 dX5_add_28 rfl (fun H locs hH => ?_)
      refine lv_aload_n hx hb dX5_add_29 rfl (lv_at hl 0 rfl) ?_
      refine lv_dup hx hb dX5_add_30 rfl ?_
      refine x_get hC fd_RX5_15 hH.1 0 rfl rfl dX5_add_31 ?_
      refine lv_iconst (v := (nI 1)) hx hb dX5_add_34 (by decide) ?_
      refine lv_iadd hx hb dX5_add_35 ?_
      refine x_put (ws' := [(h0, xO 5 [.ref h1, .int (v_size + (nI 1)), .int v_token, .int v_tokenStart, .int v_tokenEnd]), (h1, xI X 250 (upd v_bytes (xat v_size) p1))]) hC fd_RX5_15 hH 0 rfl (Nat.le_of_ble_eq_true rfl) rfl rfl dX5_add_36 rfl (fun H locs hH => ?_)
      refine lv_aload_n hx hb dX5_add_39 rfl (lv_at hl 0 rfl) ?_
      refine x_get hC fd_RX5_15 hH.1 0 rfl rfl dX5_add_40 ?_
      exact x_retiw (φ := fun _ => True) (f := fun u : Int32 × Int32 × (Nat → Int32) => u.1) (wf := fun u : Int32 × Int32 × (Nat → Int32) => [(h0, xO 5 [.ref h1, .int u.2.1, .int v_token, .int v_tokenStart, .int v_tokenEnd]), (h1, xI X 250 u.2.2)]) hC hr hlk trivial hf hH rfl rfl dX5_add_43
def f_X6_refuse (v_refusals : (Nat → Int32)) (p1 : Int32) : Option (Int32 × (Nat → Int32)) :=
  if ((-2 : Int32) - p1) < (nI 0) then
    some (p1, v_refusals)
  else
  if (nI 5) ≤ ((-2 : Int32) - p1) then
    some (p1, v_refusals)
  else
  if xout ((-2 : Int32) - p1) 5 then none else
  if xout ((-2 : Int32) - p1) 5 then none else
  some (p1, upd v_refusals (xat ((-2 : Int32) - p1)) ((v_refusals (xat ((-2 : Int32) - p1))) + (nI 1)))
set_option maxHeartbeats 4000000 in
set_option maxRecDepth 100000 in
theorem c_X6_refuse {l : Launch} {X : xG} {h0 h1 g0 g1 g2 g3 : Nat} {v_isKept : Int32} {v_refusals : (Nat → Int32)} {p1 : Int32} {u : Int32 × (Nat → Int32)} (hf : f_X6_refuse v_refusals p1 = some u) : Met l yX6_refuse (xw yX6_refuse cX6_refuse 3 (some .int)) (xrm 0 0) (xPc [.ref h0, .int p1] X [(h0, xO 6 [.ref g0, .ref g1, .ref g2, .ref g3, .ref h1, .int v_isKept]), (h1, xI X 5 v_refusals)]) (xQw True (.returned (some (.int u.1))) X [(h0, xO 6 [.ref g0, .ref g1, .ref g2, .ref g3, .ref h1, .int v_isKept]), (h1, xI X 5 u.2)] (xAs [(h0, xO 6 [.ref g0, .ref g1, .ref g2, .ref g3, .ref h1, .int v_isKept]), (h1, xI X 5 v_refusals)])) 0 0 (xAs [(h0, xO 6 [.ref g0, .ref g1, .ref g2, .ref g3, .ref h1, .int v_isKept]), (h1, xI X 5 v_refusals)]) := by
  refine xMetw (Qc := fun A => xQw True (.returned (some (.int u.1))) X [(h0, xO 6 [.ref g0, .ref g1, .ref g2, .ref g3, .ref h1, .int v_isKept]), (h1, xI X 5 u.2)] A) (n := 1) md_X6_refuse.1 (Nat.le_of_ble_eq_true rfl) ?_
  intro p e s m args below meth c ls A hC hr hlk hH hl
  have hl : lv_has ls 3 [(0, .ref h0), (1, .int p1)] := hl
  have hx := hC.1
  have hb := hC.2.1
  refine lv_bipush (v := (-2 : Int32)) hx hb dX6_refuse_0 (by decide) ?_
  refine lv_iload_n hx hb dX6_refuse_2 rfl (lv_at hl 1 rfl) ?_
  refine lv_isub hx hb dX6_refuse_3 ?_
  refine lv_istore_n (lv' := [(2, .int ((-2 : Int32) - p1)), (0, .ref h0), (1, .int p1)]) hx hb dX6_refuse_4 rfl hl (by decide) rfl (fun ls hl => ?_)
  refine lv_iload_n hx hb dX6_refuse_5 rfl (lv_at hl 0 rfl) ?_
  refine lv_if_lt (tgt := 28) hx hb dX6_refuse_6 (by decide) (fun c1 => ?_) (fun c1 => ?_)
  · have hf := xt c1 hf
    refine lv_iload_n hx hb dX6_refuse_28 rfl (lv_at hl 2 rfl) ?_
    exact x_retiw (φ := fun _ => True) (f := fun u : Int32 × (Nat → Int32) => u.1) (wf := fun u : Int32 × (Nat → Int32) => [(h0, xO 6 [.ref g0, .ref g1, .ref g2, .ref g3, .ref h1, .int v_isKept]), (h1, xI X 5 u.2)]) hC hr hlk trivial hf hH rfl rfl dX6_refuse_29
  · have hf := xe c1 hf
    refine lv_iload_n hx hb dX6_refuse_9 rfl (lv_at hl 0 rfl) ?_
    refine lv_aload_n hx hb dX6_refuse_10 rfl (lv_at hl 1 rfl) ?_
    refine x_get hC fd_RX6_33 hH.1 0 rfl rfl dX6_refuse_11 ?_
    refine x_alen hC hH.1 1 rfl (v := (nI 5)) (by decide) dX6_refuse_14 ?_
    refine lv_icmp_ge (tgt := 28) hx hb dX6_refuse_15 (by decide) (fun c2 => ?_) (fun c2 => ?_)
    · have hf := xt c2 hf
      refine lv_iload_n hx hb dX6_refuse_28 rfl (lv_at hl 2 rfl) ?_
      exact x_retiw (φ := fun _ => True) (f := fun u : Int32 × (Nat → Int32) => u.1) (wf := fun u : Int32 × (Nat → Int32) => [(h0, xO 6 [.ref g0, .ref g1, .ref g2, .ref g3, .ref h1, .int v_isKept]), (h1, xI X 5 u.2)]) hC hr hlk trivial hf hH rfl rfl dX6_refuse_29
    · have hf := xe c2 hf
      refine lv_aload_n hx hb dX6_refuse_18 rfl (lv_at hl 1 rfl) ?_
      refine x_get hC fd_RX6_33 hH.1 0 rfl rfl dX6_refuse_19 ?_
      refine lv_iload_n hx hb dX6_refuse_22 rfl (lv_at hl 0 rfl) ?_
      refine lv_dup2_11 hx hb dX6_refuse_23 rfl rfl ?_
      obtain ⟨n3, hf⟩ := xok hf
      refine x_iald hC hH.1 1 rfl n3 dX6_refuse_24 ?_
      refine lv_iconst (v := (nI 1)) hx hb dX6_refuse_25 (by decide) ?_
      refine lv_iadd hx hb dX6_refuse_26 ?_
      obtain ⟨n4, hf⟩ := xok hf
      refine x_iast (ws' := [(h0, xO 6 [.ref g0, .ref g1, .ref g2, .ref g3, .ref h1, .int v_isKept]), (h1, xI X 5 (upd v_refusals (xat ((-2 : Int32) - p1)) ((v_refusals (xat ((-2 : Int32) - p1))) + (nI 1))))]) hC hH 1 rfl n4 dX6_refuse_27 rfl (fun H locs hH => ?_)
      refine lv_iload_n hx hb dX6_refuse_28 rfl (lv_at hl 2 rfl) ?_
      exact x_retiw (φ := fun _ => True) (f := fun u : Int32 × (Nat → Int32) => u.1) (wf := fun u : Int32 × (Nat → Int32) => [(h0, xO 6 [.ref g0, .ref g1, .ref g2, .ref g3, .ref h1, .int v_isKept]), (h1, xI X 5 u.2)]) hC hr hlk trivial hf hH rfl rfl dX6_refuse_29
def f_X6_row (v_refusals : (Nat → Int32)) (v_shelves_elements : (Nat → Int64)) (v_shelves_held : (Nat → Int32)) (v_shelves_sizes : (Nat → Int32)) (p1 : Int32) (p2 : Int32) (p3 : Int32) : Option (Int32 × (Nat → Int32) × (Nat → Int64) × (Nat → Int32) × (Nat → Int32)) :=
  (f_X4_isShelf p1).bind fun u1 =>
  if u1 = (nI 0) then
    (f_X6_refuse v_refusals (-2 : Int32)).bind fun u3 =>
    some (u3.1, u3.2, v_shelves_elements, v_shelves_held, v_shelves_sizes)
  else
  (f_X6_isWithin p2 (nI 0) (nI 4)).bind fun u4 =>
  if u4 = (nI 0) then
    (f_X6_refuse v_refusals (-2 : Int32)).bind fun u6 =>
    some (u6.1, u6.2, v_shelves_elements, v_shelves_held, v_shelves_sizes)
  else
  (f_X6_isWithin p3 (nI 0) (nI 40)).bind fun u7 =>
  if u7 = (nI 0) then
    (f_X6_refuse v_refusals (-2 : Int32)).bind fun u10 =>
    some (u10.1, u10.2, v_shelves_elements, v_shelves_held, v_shelves_sizes)
  else
  (f_X4_putRow v_shelves_elements v_shelves_held v_shelves_sizes p1 p2 p3).bind fun u9 =>
  some ((nI 1), v_refusals, u9.1, u9.2.1, u9.2.2)
set_option maxHeartbeats 4000000 in
set_option maxRecDepth 100000 in
theorem c_X6_row {l : Launch} {X : xG} {h0 h1 h2 h3 h4 h5 g0 g1 g2 : Nat} {v_isKept : Int32} {v_refusals : (Nat → Int32)} {v_shelves_elements : (Nat → Int64)} {v_shelves_held : (Nat → Int32)} {v_shelves_sizes : (Nat → Int32)} {p1 : Int32} {p2 : Int32} {p3 : Int32} {u : Int32 × (Nat → Int32) × (Nat → Int64) × (Nat → Int32) × (Nat → Int32)} (hf : f_X6_row v_refusals v_shelves_elements v_shelves_held v_shelves_sizes p1 p2 p3 = some u) : Met l yX6_row (xw yX6_row cX6_row 4 (some .int)) (xrm 5 114) (xPc [.ref h0, .int p1, .int p2, .int p3] X [(h0, xO 6 [.ref g0, .ref g1, .ref g2, .ref h2, .ref h1, .int v_isKept]), (h1, xI X 5 v_refusals), (h2, xO 4 [.ref h4, .ref h5, .ref h3]), (h3, xJ X 320 v_shelves_elements), (h4, xI X 8 v_shelves_held), (h5, xI X 8 v_shelves_sizes)]) (xQw True (.returned (some (.int u.1))) X [(h0, xO 6 [.ref g0, .ref g1, .ref g2, .ref h2, .ref h1, .int v_isKept]), (h1, xI X 5 u.2.1), (h2, xO 4 [.ref h4, .ref h5, .ref h3]), (h3, xJ X 320 u.2.2.1), (h4, xI X 8 u.2.2.2.1), (h5, xI X 8 u.2.2.2.2)] (xAs [(h0, xO 6 [.ref g0, .ref g1, .ref g2, .ref h2, .ref h1, .int v_isKept]), (h1, xI X 5 v_refusals), (h2, xO 4 [.ref h4, .ref h5, .ref h3]), (h3, xJ X 320 v_shelves_elements), (h4, xI X 8 v_shelves_held), (h5, xI X 8 v_shelves_sizes)])) 0 0 (xAs [(h0, xO 6 [.ref g0, .ref g1, .ref g2, .ref h2, .ref h1, .int v_isKept]), (h1, xI X 5 v_refusals), (h2, xO 4 [.ref h4, .ref h5, .ref h3]), (h3, xJ X 320 v_shelves_elements), (h4, xI X 8 v_shelves_held), (h5, xI X 8 v_shelves_sizes)]) := by
  refine xMetw (Qc := fun A => xQw True (.returned (some (.int u.1))) X [(h0, xO 6 [.ref g0, .ref g1, .ref g2, .ref h2, .ref h1, .int v_isKept]), (h1, xI X 5 u.2.1), (h2, xO 4 [.ref h4, .ref h5, .ref h3]), (h3, xJ X 320 u.2.2.1), (h4, xI X 8 u.2.2.2.1), (h5, xI X 8 u.2.2.2.2)] A) (n := 3) md_X6_row.1 (Nat.le_of_ble_eq_true rfl) ?_
  intro p e s m args below meth c ls A hC hr hlk hH hl
  have hl : lv_has ls 4 [(0, .ref h0), (1, .int p1), (2, .int p2), (3, .int p3)] := hl
  have hx := hC.1
  have hb := hC.2.1
  refine lv_iload_n hx hb dX6_row_0 rfl (lv_at hl 1 rfl) ?_
  obtain ⟨u1, hf1, hf⟩ := xb hf
  refine x_ran (x_runS (rest := []) (As := [.int p1]) hC mw_94 md_X4_isShelf (c_X4_isShelf (X := X) hf1) hH [] rfl (by decide) hl.1 rfl rfl (Nat.le_of_ble_eq_true rfl) dX6_row_1 ⟨Nat.le_of_ble_eq_true rfl, Nat.le_of_ble_eq_true rfl⟩ ⟨rfl, rfl⟩ ⟨Nat.le_refl _, Nat.le_refl _⟩) rfl (fun hz1 => ?_)
  refine lv_if_eq (tgt := 26) hx hb dX6_row_4 (by decide) (fun c2 => ?_) (fun c2 => ?_)
  · have hf := xt c2 hf
    refine lv_aload_n hx hb dX6_row_26 rfl (lv_at hl 0 rfl) ?_
    refine lv_bipush (v := (-2 : Int32)) hx hb dX6_row_27 (by decide) ?_
    obtain ⟨u3, hf3, hf⟩ := xb hf
    refine x_ranw (ws' := [(h0, xO 6 [.ref g0, .ref g1, .ref g2, .ref h2, .ref h1, .int v_isKept]), (h1, xI X 5 u3.2), (h2, xO 4 [.ref h4, .ref h5, .ref h3]), (h3, xJ X 320 v_shelves_elements), (h4, xI X 8 v_shelves_held), (h5, xI X 8 v_shelves_sizes)]) (x_runV (q0 := 0) (rest := []) (As := [.int (-2 : Int32)]) hC mw_100 md_X6_refuse (c_X6_refuse (X := X) hf3) hH [0, 1] rfl (by decide) rfl rfl rfl hl.1 rfl rfl (Nat.le_of_ble_eq_true rfl) dX6_row_29 ⟨Nat.le_of_ble_eq_true rfl, Nat.le_of_ble_eq_true rfl⟩ ⟨rfl, rfl⟩ ⟨Nat.le_refl _, Nat.le_refl _⟩) hH [0, 1] rfl rfl rfl rfl rfl (fun hz3 H locs hH => ?_)
    exact x_retiw (φ := fun _ => True) (f := fun u : Int32 × (Nat → Int32) × (Nat → Int64) × (Nat → Int32) × (Nat → Int32) => u.1) (wf := fun u : Int32 × (Nat → Int32) × (Nat → Int64) × (Nat → Int32) × (Nat → Int32) => [(h0, xO 6 [.ref g0, .ref g1, .ref g2, .ref h2, .ref h1, .int v_isKept]), (h1, xI X 5 u.2.1), (h2, xO 4 [.ref h4, .ref h5, .ref h3]), (h3, xJ X 320 u.2.2.1), (h4, xI X 8 u.2.2.2.1), (h5, xI X 8 u.2.2.2.2)]) hC hr hlk trivial hf hH rfl rfl dX6_row_32
  · have hf := xe c2 hf
    refine lv_iload_n hx hb dX6_row_7 rfl (lv_at hl 2 rfl) ?_
    refine lv_iconst (v := (nI 0)) hx hb dX6_row_8 (by decide) ?_
    refine lv_iconst (v := (nI 4)) hx hb dX6_row_9 (by decide) ?_
    obtain ⟨u4, hf4, hf⟩ := xb hf
    refine x_ran (x_runS (rest := []) (As := [.int p2, .int (nI 0), .int (nI 4)]) hC mw_99 md_X6_isWithin (c_X6_isWithin (X := X) hf4) hH [] rfl (by decide) hl.1 rfl rfl (Nat.le_of_ble_eq_true rfl) dX6_row_10 ⟨Nat.le_of_ble_eq_true rfl, Nat.le_of_ble_eq_true rfl⟩ ⟨rfl, rfl⟩ ⟨Nat.le_refl _, Nat.le_refl _⟩) rfl (fun hz4 => ?_)
    refine lv_if_eq (tgt := 26) hx hb dX6_row_13 (by decide) (fun c5 => ?_) (fun c5 => ?_)
    · have hf := xt c5 hf
      refine lv_aload_n hx hb dX6_row_26 rfl (lv_at hl 0 rfl) ?_
      refine lv_bipush (v := (-2 : Int32)) hx hb dX6_row_27 (by decide) ?_
      obtain ⟨u6, hf6, hf⟩ := xb hf
      refine x_ranw (ws' := [(h0, xO 6 [.ref g0, .ref g1, .ref g2, .ref h2, .ref h1, .int v_isKept]), (h1, xI X 5 u6.2), (h2, xO 4 [.ref h4, .ref h5, .ref h3]), (h3, xJ X 320 v_shelves_elements), (h4, xI X 8 v_shelves_held), (h5, xI X 8 v_shelves_sizes)]) (x_runV (q0 := 0) (rest := []) (As := [.int (-2 : Int32)]) hC mw_100 md_X6_refuse (c_X6_refuse (X := X) hf6) hH [0, 1] rfl (by decide) rfl rfl rfl hl.1 rfl rfl (Nat.le_of_ble_eq_true rfl) dX6_row_29 ⟨Nat.le_of_ble_eq_true rfl, Nat.le_of_ble_eq_true rfl⟩ ⟨rfl, rfl⟩ ⟨Nat.le_refl _, Nat.le_refl _⟩) hH [0, 1] rfl rfl rfl rfl rfl (fun hz6 H locs hH => ?_)
      exact x_retiw (φ := fun _ => True) (f := fun u : Int32 × (Nat → Int32) × (Nat → Int64) × (Nat → Int32) × (Nat → Int32) => u.1) (wf := fun u : Int32 × (Nat → Int32) × (Nat → Int64) × (Nat → Int32) × (Nat → Int32) => [(h0, xO 6 [.ref g0, .ref g1, .ref g2, .ref h2, .ref h1, .int v_isKept]), (h1, xI X 5 u.2.1), (h2, xO 4 [.ref h4, .ref h5, .ref h3]), (h3, xJ X 320 u.2.2.1), (h4, xI X 8 u.2.2.2.1), (h5, xI X 8 u.2.2.2.2)]) hC hr hlk trivial hf hH rfl rfl dX6_row_32
    · have hf := xe c5 hf
      refine lv_iload_n hx hb dX6_row_16 rfl (lv_at hl 3 rfl) ?_
      refine lv_iconst (v := (nI 0)) hx hb dX6_row_17 (by decide) ?_
      refine lv_bipush (v := (nI 40)) hx hb dX6_row_18 (by decide) ?_
      obtain ⟨u7, hf7, hf⟩ := xb hf
      refine x_ran (x_runS (rest := []) (As := [.int p3, .int (nI 0), .int (nI 40)]) hC mw_99 md_X6_isWithin (c_X6_isWithin (X := X) hf7) hH [] rfl (by decide) hl.1 rfl rfl (Nat.le_of_ble_eq_true rfl) dX6_row_20 ⟨Nat.le_of_ble_eq_true rfl, Nat.le_of_ble_eq_true rfl⟩ ⟨rfl, rfl⟩ ⟨Nat.le_refl _, Nat.le_refl _⟩) rfl (fun hz7 => ?_)
      refine lv_if_ne (tgt := 33) hx hb dX6_row_23 (by decide) (fun c8 => ?_) (fun c8 => ?_)
      · have hf := xe c8 hf
        refine lv_aload_n hx hb dX6_row_33 rfl (lv_at hl 0 rfl) ?_
        refine x_get hC fd_RX6_29 hH.1 0 rfl rfl dX6_row_34 ?_
        refine lv_iload_n hx hb dX6_row_37 rfl (lv_at hl 1 rfl) ?_
        refine lv_iload_n hx hb dX6_row_38 rfl (lv_at hl 2 rfl) ?_
        refine lv_iload_n hx hb dX6_row_39 rfl (lv_at hl 3 rfl) ?_
        obtain ⟨u9, hf9, hf⟩ := xb hf
        refine x_ranw (ws' := [(h0, xO 6 [.ref g0, .ref g1, .ref g2, .ref h2, .ref h1, .int v_isKept]), (h1, xI X 5 v_refusals), (h2, xO 4 [.ref h4, .ref h5, .ref h3]), (h3, xJ X 320 u9.1), (h4, xI X 8 u9.2.1), (h5, xI X 8 u9.2.2)]) (x_runV (q0 := 0) (rest := []) (As := [.int p1, .int p2, .int p3]) hC mw_104 md_X4_putRow (c_X4_putRow (X := X) hf9) hH [2, 3, 4, 5] rfl (by decide) rfl rfl rfl hl.1 rfl rfl (Nat.le_of_ble_eq_true rfl) dX6_row_40 ⟨Nat.le_of_ble_eq_true rfl, Nat.le_of_ble_eq_true rfl⟩ ⟨rfl, rfl⟩ ⟨Nat.le_refl _, Nat.le_refl _⟩) hH [2, 3, 4, 5] rfl rfl rfl rfl rfl (fun hz9 H locs hH => ?_)
        refine lv_iconst (v := (nI 1)) hx hb dX6_row_43 (by decide) ?_
        exact x_retiw (φ := fun _ => True) (f := fun u : Int32 × (Nat → Int32) × (Nat → Int64) × (Nat → Int32) × (Nat → Int32) => u.1) (wf := fun u : Int32 × (Nat → Int32) × (Nat → Int64) × (Nat → Int32) × (Nat → Int32) => [(h0, xO 6 [.ref g0, .ref g1, .ref g2, .ref h2, .ref h1, .int v_isKept]), (h1, xI X 5 u.2.1), (h2, xO 4 [.ref h4, .ref h5, .ref h3]), (h3, xJ X 320 u.2.2.1), (h4, xI X 8 u.2.2.2.1), (h5, xI X 8 u.2.2.2.2)]) hC hr hlk trivial hf hH rfl rfl dX6_row_44
      · have hf := xt c8 hf
        refine lv_aload_n hx hb dX6_row_26 rfl (lv_at hl 0 rfl) ?_
        refine lv_bipush (v := (-2 : Int32)) hx hb dX6_row_27 (by decide) ?_
        obtain ⟨u10, hf10, hf⟩ := xb hf
        refine x_ranw (ws' := [(h0, xO 6 [.ref g0, .ref g1, .ref g2, .ref h2, .ref h1, .int v_isKept]), (h1, xI X 5 u10.2), (h2, xO 4 [.ref h4, .ref h5, .ref h3]), (h3, xJ X 320 v_shelves_elements), (h4, xI X 8 v_shelves_held), (h5, xI X 8 v_shelves_sizes)]) (x_runV (q0 := 0) (rest := []) (As := [.int (-2 : Int32)]) hC mw_100 md_X6_refuse (c_X6_refuse (X := X) hf10) hH [0, 1] rfl (by decide) rfl rfl rfl hl.1 rfl rfl (Nat.le_of_ble_eq_true rfl) dX6_row_29 ⟨Nat.le_of_ble_eq_true rfl, Nat.le_of_ble_eq_true rfl⟩ ⟨rfl, rfl⟩ ⟨Nat.le_refl _, Nat.le_refl _⟩) hH [0, 1] rfl rfl rfl rfl rfl (fun hz10 H locs hH => ?_)
        exact x_retiw (φ := fun _ => True) (f := fun u : Int32 × (Nat → Int32) × (Nat → Int64) × (Nat → Int32) × (Nat → Int32) => u.1) (wf := fun u : Int32 × (Nat → Int32) × (Nat → Int64) × (Nat → Int32) × (Nat → Int32) => [(h0, xO 6 [.ref g0, .ref g1, .ref g2, .ref h2, .ref h1, .int v_isKept]), (h1, xI X 5 u.2.1), (h2, xO 4 [.ref h4, .ref h5, .ref h3]), (h3, xJ X 320 u.2.2.1), (h4, xI X 8 u.2.2.2.1), (h5, xI X 8 u.2.2.2.2)]) hC hr hlk trivial hf hH rfl rfl dX6_row_32
def f_X6_refusalOfRow (v_shelves_held : (Nat → Int32)) (p1 : Int32) : Option (Int32) :=
  (f_X4_isShelf p1).bind fun u1 =>
  if u1 = (nI 0) then
    some (-2 : Int32)
  else
  (f_X4_lawOn v_shelves_held p1).bind fun u3 =>
  if u3 = (-1 : Int32) then
    (f_X4_holdsRow v_shelves_held p1).bind fun u5 =>
    if u5 = (nI 0) then
      some (-4 : Int32)
    else
    some (nI 0)
  else
  some (-3 : Int32)
set_option maxHeartbeats 4000000 in
set_option maxRecDepth 100000 in
theorem c_X6_refusalOfRow {l : Launch} {X : xG} {h0 h1 h2 g0 g1 g2 g3 g4 g5 : Nat} {v_isKept : Int32} {v_shelves_held : (Nat → Int32)} {p1 : Int32} {u : Int32} (hf : f_X6_refusalOfRow v_shelves_held p1 = some u) : Met l yX6_refusalOfRow (xw yX6_refusalOfRow cX6_refusalOfRow 2 (some .int)) (xrm 3 64) (xPc [.ref h0, .int p1] X [(h0, xO 6 [.ref g0, .ref g1, .ref g2, .ref h1, .ref g3, .int v_isKept]), (h1, xO 4 [.ref h2, .ref g4, .ref g5]), (h2, xI X 8 v_shelves_held)]) (xQ True (.returned (some (.int u)))) 0 0 xNo := by
  refine xMet (n := 1) md_X6_refusalOfRow.1 (Nat.le_of_ble_eq_true rfl) ?_
  intro p e s m args below meth c ls A hC hr hlk hH hl
  have hl : lv_has ls 2 [(0, .ref h0), (1, .int p1)] := hl
  have hx := hC.1
  have hb := hC.2.1
  refine lv_iload_n hx hb dX6_refusalOfRow_0 rfl (lv_at hl 1 rfl) ?_
  obtain ⟨u1, hf1, hf⟩ := xb hf
  refine x_ran (x_runS (rest := []) (As := [.int p1]) hC mw_94 md_X4_isShelf (c_X4_isShelf (X := X) hf1) hH [] rfl (by decide) hl.1 rfl rfl (Nat.le_of_ble_eq_true rfl) dX6_refusalOfRow_1 ⟨Nat.le_of_ble_eq_true rfl, Nat.le_of_ble_eq_true rfl⟩ ⟨rfl, rfl⟩ ⟨Nat.le_refl _, Nat.le_refl _⟩) rfl (fun hz1 => ?_)
  refine lv_if_ne (tgt := 10) hx hb dX6_refusalOfRow_4 (by decide) (fun c2 => ?_) (fun c2 => ?_)
  · have hf := xe c2 hf
    refine lv_aload_n hx hb dX6_refusalOfRow_10 rfl (lv_at hl 0 rfl) ?_
    refine x_get hC fd_RX6_29 hH.1 0 rfl rfl dX6_refusalOfRow_11 ?_
    refine lv_iload_n hx hb dX6_refusalOfRow_14 rfl (lv_at hl 1 rfl) ?_
    obtain ⟨u3, hf3, hf⟩ := xb hf
    refine x_ran (x_runV (q0 := 0) (rest := []) (As := [.int p1]) hC mw_155 md_X4_lawOn (c_X4_lawOn (X := X) hf3) hH [1, 2] rfl (by decide) rfl rfl rfl hl.1 rfl rfl (Nat.le_of_ble_eq_true rfl) dX6_refusalOfRow_15 ⟨Nat.le_of_ble_eq_true rfl, Nat.le_of_ble_eq_true rfl⟩ ⟨rfl, rfl⟩ ⟨Nat.le_refl _, Nat.le_refl _⟩) rfl (fun hz3 => ?_)
    refine lv_iconst (v := (-1 : Int32)) hx hb dX6_refusalOfRow_18 (by decide) ?_
    refine lv_icmp_eq (tgt := 25) hx hb dX6_refusalOfRow_19 (by decide) (fun c4 => ?_) (fun c4 => ?_)
    · have hf := xt c4 hf
      refine lv_aload_n hx hb dX6_refusalOfRow_25 rfl (lv_at hl 0 rfl) ?_
      refine x_get hC fd_RX6_29 hH.1 0 rfl rfl dX6_refusalOfRow_26 ?_
      refine lv_iload_n hx hb dX6_refusalOfRow_29 rfl (lv_at hl 1 rfl) ?_
      obtain ⟨u5, hf5, hf⟩ := xb hf
      refine x_ran (x_runV (q0 := 0) (rest := []) (As := [.int p1]) hC mw_159 md_X4_holdsRow (c_X4_holdsRow (X := X) hf5) hH [1, 2] rfl (by decide) rfl rfl rfl hl.1 rfl rfl (Nat.le_of_ble_eq_true rfl) dX6_refusalOfRow_30 ⟨Nat.le_of_ble_eq_true rfl, Nat.le_of_ble_eq_true rfl⟩ ⟨rfl, rfl⟩ ⟨Nat.le_refl _, Nat.le_refl _⟩) rfl (fun hz5 => ?_)
      refine lv_if_eq (tgt := 40) hx hb dX6_refusalOfRow_33 (by decide) (fun c6 => ?_) (fun c6 => ?_)
      · have hf := xt c6 hf
        refine lv_bipush (v := (-4 : Int32)) hx hb dX6_refusalOfRow_40 (by decide) ?_
        exact x_reti hC hr hlk trivial hf dX6_refusalOfRow_42
      · have hf := xe c6 hf
        refine lv_iconst (v := (nI 0)) hx hb dX6_refusalOfRow_36 (by decide) ?_
        refine lv_goto (tgt := 42) hx hb dX6_refusalOfRow_37 (by decide) ?_
        exact x_reti hC hr hlk trivial hf dX6_refusalOfRow_42
    · have hf := xe c4 hf
      refine lv_bipush (v := (-3 : Int32)) hx hb dX6_refusalOfRow_22 (by decide) ?_
      exact x_reti hC hr hlk trivial hf dX6_refusalOfRow_24
  · have hf := xt c2 hf
    refine lv_bipush (v := (-2 : Int32)) hx hb dX6_refusalOfRow_7 (by decide) ?_
    exact x_reti hC hr hlk trivial hf dX6_refusalOfRow_9
def f_X6_set_J34 (v_refusals : (Nat → Int32)) (v_shelves_elements : (Nat → Int64)) (v_shelves_held : (Nat → Int32)) (v_shelves_sizes : (Nat → Int32)) (p1 : Int32) (p2 : Int32) (p3 : Int64) (j34_5 : Int32) : Option (Int32 × (Nat → Int32) × (Nat → Int64)) :=
  if j34_5 = (nI 0) then
    (f_X4_putElement v_shelves_elements v_shelves_held v_shelves_sizes p1 p2 p3).bind fun u4 =>
    some ((nI 1), v_refusals, u4)
  else
  (f_X6_refuse v_refusals j34_5).bind fun u5 =>
  some (u5.1, u5.2, v_shelves_elements)
def f_X6_set (v_refusals : (Nat → Int32)) (v_shelves_elements : (Nat → Int64)) (v_shelves_held : (Nat → Int32)) (v_shelves_sizes : (Nat → Int32)) (p1 : Int32) (p2 : Int32) (p3 : Int64) : Option (Int32 × (Nat → Int32) × (Nat → Int64)) :=
  (f_X6_refusalOfRow v_shelves_held p1).bind fun u1 =>
  if u1 = (nI 0) then
    (f_X4_sizeOf v_shelves_sizes p1).bind fun u6 =>
    (f_X6_isWithin p2 (nI 0) (u6 - (nI 1))).bind fun u7 =>
    if u7 = (nI 0) then
      f_X6_set_J34 v_refusals v_shelves_elements v_shelves_held v_shelves_sizes p1 p2 p3 (-2 : Int32)
    else
    f_X6_set_J34 v_refusals v_shelves_elements v_shelves_held v_shelves_sizes p1 p2 p3 u1
  else
  f_X6_set_J34 v_refusals v_shelves_elements v_shelves_held v_shelves_sizes p1 p2 p3 u1
set_option maxHeartbeats 4000000 in
set_option maxRecDepth 100000 in
theorem c_X6_set {l : Launch} {X : xG} {h0 h1 h2 h3 h4 h5 g0 g1 g2 : Nat} {v_isKept : Int32} {v_refusals : (Nat → Int32)} {v_shelves_elements : (Nat → Int64)} {v_shelves_held : (Nat → Int32)} {v_shelves_sizes : (Nat → Int32)} {p1 : Int32} {p2 : Int32} {p3 : Int64} {u : Int32 × (Nat → Int32) × (Nat → Int64)} (hf : f_X6_set v_refusals v_shelves_elements v_shelves_held v_shelves_sizes p1 p2 p3 = some u) : Met l yX6_set (xw yX6_set cX6_set 6 (some .int)) (xrm 4 90) (xPc [.ref h0, .int p1, .int p2, .long p3] X [(h0, xO 6 [.ref g0, .ref g1, .ref g2, .ref h2, .ref h1, .int v_isKept]), (h1, xI X 5 v_refusals), (h2, xO 4 [.ref h4, .ref h5, .ref h3]), (h3, xJ X 320 v_shelves_elements), (h4, xI X 8 v_shelves_held), (h5, xI X 8 v_shelves_sizes)]) (xQw True (.returned (some (.int u.1))) X [(h0, xO 6 [.ref g0, .ref g1, .ref g2, .ref h2, .ref h1, .int v_isKept]), (h1, xI X 5 u.2.1), (h2, xO 4 [.ref h4, .ref h5, .ref h3]), (h3, xJ X 320 u.2.2), (h4, xI X 8 v_shelves_held), (h5, xI X 8 v_shelves_sizes)] (xAs [(h0, xO 6 [.ref g0, .ref g1, .ref g2, .ref h2, .ref h1, .int v_isKept]), (h1, xI X 5 v_refusals), (h2, xO 4 [.ref h4, .ref h5, .ref h3]), (h3, xJ X 320 v_shelves_elements), (h4, xI X 8 v_shelves_held), (h5, xI X 8 v_shelves_sizes)])) 0 0 (xAs [(h0, xO 6 [.ref g0, .ref g1, .ref g2, .ref h2, .ref h1, .int v_isKept]), (h1, xI X 5 v_refusals), (h2, xO 4 [.ref h4, .ref h5, .ref h3]), (h3, xJ X 320 v_shelves_elements), (h4, xI X 8 v_shelves_held), (h5, xI X 8 v_shelves_sizes)]) := by
  refine xMetw (Qc := fun A => xQw True (.returned (some (.int u.1))) X [(h0, xO 6 [.ref g0, .ref g1, .ref g2, .ref h2, .ref h1, .int v_isKept]), (h1, xI X 5 u.2.1), (h2, xO 4 [.ref h4, .ref h5, .ref h3]), (h3, xJ X 320 u.2.2), (h4, xI X 8 v_shelves_held), (h5, xI X 8 v_shelves_sizes)] A) (n := 3) md_X6_set.1 (Nat.le_of_ble_eq_true rfl) ?_
  intro p e s m args below meth c ls A hC hr hlk hH hl
  have hl : lv_has ls 6 [(0, .ref h0), (1, .int p1), (2, .int p2), (3, .long p3)] := hl
  have hx := hC.1
  have hb := hC.2.1
  have J34 : ∀ (j34_5 : Int32), f_X6_set_J34 v_refusals v_shelves_elements v_shelves_held v_shelves_sizes p1 p2 p3 j34_5 = some u → ∀ (H : Heap) (locs : List Loc), xH X A [(h0, xO 6 [.ref g0, .ref g1, .ref g2, .ref h2, .ref h1, .int v_isKept]), (h1, xI X 5 v_refusals), (h2, xO 4 [.ref h4, .ref h5, .ref h3]), (h3, xJ X 320 v_shelves_elements), (h4, xI X 8 v_shelves_held), (h5, xI X 8 v_shelves_sizes)] s.heap H locs → ∀ (ls : Array Slot), lv_has ls 6 [(0, .ref h0), (1, .int p1), (2, .int p2), (3, .long p3), (5, .int j34_5)] → W p l e (xrm 4 90) s m args below meth c H locs 0 0 (MQ below (xQw True (.returned (some (.int u.1))) X [(h0, xO 6 [.ref g0, .ref g1, .ref g2, .ref h2, .ref h1, .int v_isKept]), (h1, xI X 5 u.2.1), (h2, xO 4 [.ref h4, .ref h5, .ref h3]), (h3, xJ X 320 u.2.2), (h4, xI X 8 v_shelves_held), (h5, xI X 8 v_shelves_sizes)] A) args s 0 0 A) (F0 m 34 ls []) := by
    intro j34_5 hf H locs hH ls hl
    refine lv_iload hx hb dX6_set_34 (lv_at hl 4 rfl) ?_
    refine lv_if_eq (tgt := 46) hx hb dX6_set_36 (by decide) (fun c3 => ?_) (fun c3 => ?_)
    · have hf := xt c3 hf
      refine lv_aload_n hx hb dX6_set_46 rfl (lv_at hl 0 rfl) ?_
      refine x_get hC fd_RX6_29 hH.1 0 rfl rfl dX6_set_47 ?_
      refine lv_iload_n hx hb dX6_set_50 rfl (lv_at hl 1 rfl) ?_
      refine lv_iload_n hx hb dX6_set_51 rfl (lv_at hl 2 rfl) ?_
      refine lv_lload_n hx hb dX6_set_52 rfl (lv_at hl 3 rfl) ?_
      obtain ⟨u4, hf4, hf⟩ := xb hf
      refine x_ranw (ws' := [(h0, xO 6 [.ref g0, .ref g1, .ref g2, .ref h2, .ref h1, .int v_isKept]), (h1, xI X 5 v_refusals), (h2, xO 4 [.ref h4, .ref h5, .ref h3]), (h3, xJ X 320 u4), (h4, xI X 8 v_shelves_held), (h5, xI X 8 v_shelves_sizes)]) (x_runV (q0 := 0) (rest := []) (As := [.int p1, .int p2, .long p3]) hC mw_164 md_X4_putElement (c_X4_putElement (X := X) hf4) hH [2, 3, 4, 5] rfl (by decide) rfl rfl rfl hl.1 rfl rfl (Nat.le_of_ble_eq_true rfl) dX6_set_53 ⟨Nat.le_of_ble_eq_true rfl, Nat.le_of_ble_eq_true rfl⟩ ⟨rfl, rfl⟩ ⟨Nat.le_refl _, Nat.le_refl _⟩) hH [2, 3, 4, 5] rfl rfl rfl rfl rfl (fun hz4 H locs hH => ?_)
      refine lv_iconst (v := (nI 1)) hx hb dX6_set_56 (by decide) ?_
      exact x_retiw (φ := fun _ => True) (f := fun u : Int32 × (Nat → Int32) × (Nat → Int64) => u.1) (wf := fun u : Int32 × (Nat → Int32) × (Nat → Int64) => [(h0, xO 6 [.ref g0, .ref g1, .ref g2, .ref h2, .ref h1, .int v_isKept]), (h1, xI X 5 u.2.1), (h2, xO 4 [.ref h4, .ref h5, .ref h3]), (h3, xJ X 320 u.2.2), (h4, xI X 8 v_shelves_held), (h5, xI X 8 v_shelves_sizes)]) hC hr hlk trivial hf hH rfl rfl dX6_set_57
    · have hf := xe c3 hf
      refine lv_aload_n hx hb dX6_set_39 rfl (lv_at hl 0 rfl) ?_
      refine lv_iload hx hb dX6_set_40 (lv_at hl 4 rfl) ?_
      obtain ⟨u5, hf5, hf⟩ := xb hf
      refine x_ranw (ws' := [(h0, xO 6 [.ref g0, .ref g1, .ref g2, .ref h2, .ref h1, .int v_isKept]), (h1, xI X 5 u5.2), (h2, xO 4 [.ref h4, .ref h5, .ref h3]), (h3, xJ X 320 v_shelves_elements), (h4, xI X 8 v_shelves_held), (h5, xI X 8 v_shelves_sizes)]) (x_runV (q0 := 0) (rest := []) (As := [.int j34_5]) hC mw_100 md_X6_refuse (c_X6_refuse (X := X) hf5) hH [0, 1] rfl (by decide) rfl rfl rfl hl.1 rfl rfl (Nat.le_of_ble_eq_true rfl) dX6_set_42 ⟨Nat.le_of_ble_eq_true rfl, Nat.le_of_ble_eq_true rfl⟩ ⟨rfl, rfl⟩ ⟨Nat.le_refl _, Nat.le_refl _⟩) hH [0, 1] rfl rfl rfl rfl rfl (fun hz5 H locs hH => ?_)
      exact x_retiw (φ := fun _ => True) (f := fun u : Int32 × (Nat → Int32) × (Nat → Int64) => u.1) (wf := fun u : Int32 × (Nat → Int32) × (Nat → Int64) => [(h0, xO 6 [.ref g0, .ref g1, .ref g2, .ref h2, .ref h1, .int v_isKept]), (h1, xI X 5 u.2.1), (h2, xO 4 [.ref h4, .ref h5, .ref h3]), (h3, xJ X 320 u.2.2), (h4, xI X 8 v_shelves_held), (h5, xI X 8 v_shelves_sizes)]) hC hr hlk trivial hf hH rfl rfl dX6_set_45
  refine lv_aload_n hx hb dX6_set_0 rfl (lv_at hl 0 rfl) ?_
  refine lv_iload_n hx hb dX6_set_1 rfl (lv_at hl 1 rfl) ?_
  obtain ⟨u1, hf1, hf⟩ := xb hf
  refine x_ran (x_runV (q0 := 0) (rest := []) (As := [.int p1]) hC mw_151 md_X6_refusalOfRow (c_X6_refusalOfRow (X := X) hf1) hH [0, 2, 4] rfl (by decide) rfl rfl rfl hl.1 rfl rfl (Nat.le_of_ble_eq_true rfl) dX6_set_2 ⟨Nat.le_of_ble_eq_true rfl, Nat.le_of_ble_eq_true rfl⟩ ⟨rfl, rfl⟩ ⟨Nat.le_refl _, Nat.le_refl _⟩) rfl (fun hz1 => ?_)
  refine lv_istore (lv' := [(5, .int u1), (0, .ref h0), (1, .int p1), (2, .int p2), (3, .long p3)]) hx hb dX6_set_5 hl (by decide) rfl (fun ls hl => ?_)
  refine lv_iload hx hb dX6_set_7 (lv_at hl 0 rfl) ?_
  refine lv_if_ne (tgt := 34) hx hb dX6_set_9 (by decide) (fun c2 => ?_) (fun c2 => ?_)
  · have hf := xe c2 hf
    exact J34 u1 hf _ _ hH ls (lv_sub hl [1, 2, 3, 4, 0] rfl)
  · have hf := xt c2 hf
    refine lv_iload_n hx hb dX6_set_12 rfl (lv_at hl 3 rfl) ?_
    refine lv_iconst (v := (nI 0)) hx hb dX6_set_13 (by decide) ?_
    refine lv_aload_n hx hb dX6_set_14 rfl (lv_at hl 1 rfl) ?_
    refine x_get hC fd_RX6_29 hH.1 0 rfl rfl dX6_set_15 ?_
    refine lv_iload_n hx hb dX6_set_18 rfl (lv_at hl 2 rfl) ?_
    obtain ⟨u6, hf6, hf⟩ := xb hf
    refine x_ran (x_runV (q0 := 0) (rest := [.int (nI 0), .int p2]) (As := [.int p1]) hC mw_163 md_X4_sizeOf (c_X4_sizeOf (X := X) hf6) hH [2, 5] rfl (by decide) rfl rfl rfl hl.1 rfl rfl (Nat.le_of_ble_eq_true rfl) dX6_set_19 ⟨Nat.le_of_ble_eq_true rfl, Nat.le_of_ble_eq_true rfl⟩ ⟨rfl, rfl⟩ ⟨Nat.le_refl _, Nat.le_refl _⟩) rfl (fun hz6 => ?_)
    refine lv_iconst (v := (nI 1)) hx hb dX6_set_22 (by decide) ?_
    refine lv_isub hx hb dX6_set_23 ?_
    obtain ⟨u7, hf7, hf⟩ := xb hf
    refine x_ran (x_runS (rest := []) (As := [.int p2, .int (nI 0), .int (u6 - (nI 1))]) hC mw_99 md_X6_isWithin (c_X6_isWithin (X := X) hf7) hH [] rfl (by decide) hl.1 rfl rfl (Nat.le_of_ble_eq_true rfl) dX6_set_24 ⟨Nat.le_of_ble_eq_true rfl, Nat.le_of_ble_eq_true rfl⟩ ⟨rfl, rfl⟩ ⟨Nat.le_refl _, Nat.le_refl _⟩) rfl (fun hz7 => ?_)
    refine lv_if_ne (tgt := 34) hx hb dX6_set_27 (by decide) (fun c8 => ?_) (fun c8 => ?_)
    · have hf := xe c8 hf
      exact J34 u1 hf _ _ hH ls (lv_sub hl [1, 2, 3, 4, 0] rfl)
    · have hf := xt c8 hf
      refine lv_bipush (v := (-2 : Int32)) hx hb dX6_set_30 (by decide) ?_
      refine lv_istore (lv' := [(5, .int (-2 : Int32)), (0, .ref h0), (1, .int p1), (2, .int p2), (3, .long p3)]) hx hb dX6_set_32 hl (by decide) rfl (fun ls hl => ?_)
      exact J34 (-2 : Int32) hf _ _ hH ls (lv_sub hl [1, 2, 3, 4, 0] rfl)
def f_X6_refusalOfTwoRows (v_shelves_held : (Nat → Int32)) (p1 : Int32) (p2 : Int32) : Option (Int32) :=
  (f_X6_refusalOfRow v_shelves_held p1).bind fun u1 =>
  (f_X6_refusalOfRow v_shelves_held p2).bind fun u2 =>
  if u1 = (-2 : Int32) then
    some (-2 : Int32)
  else
  if u2 = (-2 : Int32) then
    some (-2 : Int32)
  else
  if u1 = (-3 : Int32) then
    some (-3 : Int32)
  else
  if u2 = (-3 : Int32) then
    some (-3 : Int32)
  else
  if u1 = (-4 : Int32) then
    some (-4 : Int32)
  else
  if u2 = (-4 : Int32) then
    some (-4 : Int32)
  else
  (f_X4_heldOn v_shelves_held p1).bind fun u9 =>
  (f_X4_heldOn v_shelves_held p2).bind fun u10 =>
  if u9 = u10 then
    some (nI 0)
  else
  some (-3 : Int32)
set_option maxHeartbeats 4000000 in
set_option maxRecDepth 100000 in
theorem c_X6_refusalOfTwoRows {l : Launch} {X : xG} {h0 h1 h2 g0 g1 g2 g3 g4 g5 : Nat} {v_isKept : Int32} {v_shelves_held : (Nat → Int32)} {p1 : Int32} {p2 : Int32} {u : Int32} (hf : f_X6_refusalOfTwoRows v_shelves_held p1 p2 = some u) : Met l yX6_refusalOfTwoRows (xw yX6_refusalOfTwoRows cX6_refusalOfTwoRows 5 (some .int)) (xrm 4 85) (xPc [.ref h0, .int p1, .int p2] X [(h0, xO 6 [.ref g0, .ref g1, .ref g2, .ref h1, .ref g3, .int v_isKept]), (h1, xO 4 [.ref h2, .ref g4, .ref g5]), (h2, xI X 8 v_shelves_held)]) (xQ True (.returned (some (.int u)))) 0 0 xNo := by
  refine xMet (n := 2) md_X6_refusalOfTwoRows.1 (Nat.le_of_ble_eq_true rfl) ?_
  intro p e s m args below meth c ls A hC hr hlk hH hl
  have hl : lv_has ls 5 [(0, .ref h0), (1, .int p1), (2, .int p2)] := hl
  have hx := hC.1
  have hb := hC.2.1
  refine lv_aload_n hx hb dX6_refusalOfTwoRows_0 rfl (lv_at hl 0 rfl) ?_
  refine lv_iload_n hx hb dX6_refusalOfTwoRows_1 rfl (lv_at hl 1 rfl) ?_
  obtain ⟨u1, hf1, hf⟩ := xb hf
  refine x_ran (x_runV (q0 := 0) (rest := []) (As := [.int p1]) hC mw_151 md_X6_refusalOfRow (c_X6_refusalOfRow (X := X) hf1) hH [0, 1, 2] rfl (by decide) rfl rfl rfl hl.1 rfl rfl (Nat.le_of_ble_eq_true rfl) dX6_refusalOfTwoRows_2 ⟨Nat.le_of_ble_eq_true rfl, Nat.le_of_ble_eq_true rfl⟩ ⟨rfl, rfl⟩ ⟨Nat.le_refl _, Nat.le_refl _⟩) rfl (fun hz1 => ?_)
  refine lv_istore_n (lv' := [(3, .int u1), (0, .ref h0), (1, .int p1), (2, .int p2)]) hx hb dX6_refusalOfTwoRows_5 rfl hl (by decide) rfl (fun ls hl => ?_)
  refine lv_aload_n hx hb dX6_refusalOfTwoRows_6 rfl (lv_at hl 1 rfl) ?_
  refine lv_iload_n hx hb dX6_refusalOfTwoRows_7 rfl (lv_at hl 3 rfl) ?_
  obtain ⟨u2, hf2, hf⟩ := xb hf
  refine x_ran (x_runV (q0 := 0) (rest := []) (As := [.int p2]) hC mw_151 md_X6_refusalOfRow (c_X6_refusalOfRow (X := X) hf2) hH [0, 1, 2] rfl (by decide) rfl rfl rfl hl.1 rfl rfl (Nat.le_of_ble_eq_true rfl) dX6_refusalOfTwoRows_8 ⟨Nat.le_of_ble_eq_true rfl, Nat.le_of_ble_eq_true rfl⟩ ⟨rfl, rfl⟩ ⟨Nat.le_refl _, Nat.le_refl _⟩) rfl (fun hz2 => ?_)
  refine lv_istore (lv' := [(4, .int u2), (3, .int u1), (0, .ref h0), (1, .int p1), (2, .int p2)]) hx hb dX6_refusalOfTwoRows_11 hl (by decide) rfl (fun ls hl => ?_)
  refine lv_iload_n hx hb dX6_refusalOfTwoRows_13 rfl (lv_at hl 1 rfl) ?_
  refine lv_bipush (v := (-2 : Int32)) hx hb dX6_refusalOfTwoRows_14 (by decide) ?_
  refine lv_icmp_eq (tgt := 26) hx hb dX6_refusalOfTwoRows_16 (by decide) (fun c3 => ?_) (fun c3 => ?_)
  · have hf := xt c3 hf
    refine lv_bipush (v := (-2 : Int32)) hx hb dX6_refusalOfTwoRows_26 (by decide) ?_
    exact x_reti hC hr hlk trivial hf dX6_refusalOfTwoRows_28
  · have hf := xe c3 hf
    refine lv_iload hx hb dX6_refusalOfTwoRows_19 (lv_at hl 0 rfl) ?_
    refine lv_bipush (v := (-2 : Int32)) hx hb dX6_refusalOfTwoRows_21 (by decide) ?_
    refine lv_icmp_ne (tgt := 29) hx hb dX6_refusalOfTwoRows_23 (by decide) (fun c4 => ?_) (fun c4 => ?_)
    · have hf := xe c4 hf
      refine lv_iload_n hx hb dX6_refusalOfTwoRows_29 rfl (lv_at hl 1 rfl) ?_
      refine lv_bipush (v := (-3 : Int32)) hx hb dX6_refusalOfTwoRows_30 (by decide) ?_
      refine lv_icmp_eq (tgt := 42) hx hb dX6_refusalOfTwoRows_32 (by decide) (fun c5 => ?_) (fun c5 => ?_)
      · have hf := xt c5 hf
        refine lv_bipush (v := (-3 : Int32)) hx hb dX6_refusalOfTwoRows_42 (by decide) ?_
        exact x_reti hC hr hlk trivial hf dX6_refusalOfTwoRows_44
      · have hf := xe c5 hf
        refine lv_iload hx hb dX6_refusalOfTwoRows_35 (lv_at hl 0 rfl) ?_
        refine lv_bipush (v := (-3 : Int32)) hx hb dX6_refusalOfTwoRows_37 (by decide) ?_
        refine lv_icmp_ne (tgt := 45) hx hb dX6_refusalOfTwoRows_39 (by decide) (fun c6 => ?_) (fun c6 => ?_)
        · have hf := xe c6 hf
          refine lv_iload_n hx hb dX6_refusalOfTwoRows_45 rfl (lv_at hl 1 rfl) ?_
          refine lv_bipush (v := (-4 : Int32)) hx hb dX6_refusalOfTwoRows_46 (by decide) ?_
          refine lv_icmp_eq (tgt := 58) hx hb dX6_refusalOfTwoRows_48 (by decide) (fun c7 => ?_) (fun c7 => ?_)
          · have hf := xt c7 hf
            refine lv_bipush (v := (-4 : Int32)) hx hb dX6_refusalOfTwoRows_58 (by decide) ?_
            exact x_reti hC hr hlk trivial hf dX6_refusalOfTwoRows_60
          · have hf := xe c7 hf
            refine lv_iload hx hb dX6_refusalOfTwoRows_51 (lv_at hl 0 rfl) ?_
            refine lv_bipush (v := (-4 : Int32)) hx hb dX6_refusalOfTwoRows_53 (by decide) ?_
            refine lv_icmp_ne (tgt := 61) hx hb dX6_refusalOfTwoRows_55 (by decide) (fun c8 => ?_) (fun c8 => ?_)
            · have hf := xe c8 hf
              refine lv_aload_n hx hb dX6_refusalOfTwoRows_61 rfl (lv_at hl 2 rfl) ?_
              refine x_get hC fd_RX6_29 hH.1 0 rfl rfl dX6_refusalOfTwoRows_62 ?_
              refine lv_iload_n hx hb dX6_refusalOfTwoRows_65 rfl (lv_at hl 3 rfl) ?_
              obtain ⟨u9, hf9, hf⟩ := xb hf
              refine x_ran (x_runV (q0 := 0) (rest := []) (As := [.int p1]) hC mw_188 md_X4_heldOn (c_X4_heldOn (X := X) hf9) hH [1, 2] rfl (by decide) rfl rfl rfl hl.1 rfl rfl (Nat.le_of_ble_eq_true rfl) dX6_refusalOfTwoRows_66 ⟨Nat.le_of_ble_eq_true rfl, Nat.le_of_ble_eq_true rfl⟩ ⟨rfl, rfl⟩ ⟨Nat.le_refl _, Nat.le_refl _⟩) rfl (fun hz9 => ?_)
              refine lv_aload_n hx hb dX6_refusalOfTwoRows_69 rfl (lv_at hl 2 rfl) ?_
              refine x_get hC fd_RX6_29 hH.1 0 rfl rfl dX6_refusalOfTwoRows_70 ?_
              refine lv_iload_n hx hb dX6_refusalOfTwoRows_73 rfl (lv_at hl 4 rfl) ?_
              obtain ⟨u10, hf10, hf⟩ := xb hf
              refine x_ran (x_runV (q0 := 0) (rest := [.int u9]) (As := [.int p2]) hC mw_188 md_X4_heldOn (c_X4_heldOn (X := X) hf10) hH [1, 2] rfl (by decide) rfl rfl rfl hl.1 rfl rfl (Nat.le_of_ble_eq_true rfl) dX6_refusalOfTwoRows_74 ⟨Nat.le_of_ble_eq_true rfl, Nat.le_of_ble_eq_true rfl⟩ ⟨rfl, rfl⟩ ⟨Nat.le_refl _, Nat.le_refl _⟩) rfl (fun hz10 => ?_)
              refine lv_icmp_ne (tgt := 84) hx hb dX6_refusalOfTwoRows_77 (by decide) (fun c11 => ?_) (fun c11 => ?_)
              · have hf := xe c11 hf
                refine lv_bipush (v := (-3 : Int32)) hx hb dX6_refusalOfTwoRows_84 (by decide) ?_
                exact x_reti hC hr hlk trivial hf dX6_refusalOfTwoRows_86
              · have hf := xt c11 hf
                refine lv_iconst (v := (nI 0)) hx hb dX6_refusalOfTwoRows_80 (by decide) ?_
                refine lv_goto (tgt := 86) hx hb dX6_refusalOfTwoRows_81 (by decide) ?_
                exact x_reti hC hr hlk trivial hf dX6_refusalOfTwoRows_86
            · have hf := xt c8 hf
              refine lv_bipush (v := (-4 : Int32)) hx hb dX6_refusalOfTwoRows_58 (by decide) ?_
              exact x_reti hC hr hlk trivial hf dX6_refusalOfTwoRows_60
        · have hf := xt c6 hf
          refine lv_bipush (v := (-3 : Int32)) hx hb dX6_refusalOfTwoRows_42 (by decide) ?_
          exact x_reti hC hr hlk trivial hf dX6_refusalOfTwoRows_44
    · have hf := xt c4 hf
      refine lv_bipush (v := (-2 : Int32)) hx hb dX6_refusalOfTwoRows_26 (by decide) ?_
      exact x_reti hC hr hlk trivial hf dX6_refusalOfTwoRows_28
def f_X6_copy_J46 (v_refusals : (Nat → Int32)) (v_shelves_elements : (Nat → Int64)) (v_shelves_held : (Nat → Int32)) (v_shelves_sizes : (Nat → Int32)) (p1 : Int32) (p2 : Int32) (p3 : Int32) (p4 : Int32) (p5 : Int32) (j46_6 : Int32) : Option (Int32 × (Nat → Int32) × (Nat → Int64)) :=
  if j46_6 = (nI 0) then
    (f_X4_copyElements v_shelves_elements v_shelves_held v_shelves_sizes p1 p2 p3 p4 p5).bind fun u4 =>
    some (p5, v_refusals, u4)
  else
  (f_X6_refuse v_refusals j46_6).bind fun u5 =>
  some (u5.1, u5.2, v_shelves_elements)
def f_X6_copy_J42 (v_refusals : (Nat → Int32)) (v_shelves_elements : (Nat → Int64)) (v_shelves_held : (Nat → Int32)) (v_shelves_sizes : (Nat → Int32)) (p1 : Int32) (p2 : Int32) (p3 : Int32) (p4 : Int32) (p5 : Int32) : Option (Int32 × (Nat → Int32) × (Nat → Int64)) :=
  f_X6_copy_J46 v_refusals v_shelves_elements v_shelves_held v_shelves_sizes p1 p2 p3 p4 p5 (-2 : Int32)
def f_X6_copy (v_refusals : (Nat → Int32)) (v_shelves_elements : (Nat → Int64)) (v_shelves_held : (Nat → Int32)) (v_shelves_sizes : (Nat → Int32)) (p1 : Int32) (p2 : Int32) (p3 : Int32) (p4 : Int32) (p5 : Int32) : Option (Int32 × (Nat → Int32) × (Nat → Int64)) :=
  (f_X6_refusalOfTwoRows v_shelves_held p1 p2).bind fun u1 =>
  if u1 = (nI 0) then
    (f_X4_hasElements v_shelves_sizes p1 p3 p5).bind fun u6 =>
    if u6 = (nI 0) then
      f_X6_copy_J42 v_refusals v_shelves_elements v_shelves_held v_shelves_sizes p1 p2 p3 p4 p5
    else
    (f_X4_hasElements v_shelves_sizes p2 p4 p5).bind fun u8 =>
    if u8 = (nI 0) then
      f_X6_copy_J42 v_refusals v_shelves_elements v_shelves_held v_shelves_sizes p1 p2 p3 p4 p5
    else
    f_X6_copy_J46 v_refusals v_shelves_elements v_shelves_held v_shelves_sizes p1 p2 p3 p4 p5 u1
  else
  f_X6_copy_J46 v_refusals v_shelves_elements v_shelves_held v_shelves_sizes p1 p2 p3 p4 p5 u1
set_option maxHeartbeats 4000000 in
set_option maxRecDepth 100000 in
theorem c_X6_copy {l : Launch} {X : xG} {h0 h1 h2 h3 h4 h5 g0 g1 g2 : Nat} {v_isKept : Int32} {v_refusals : (Nat → Int32)} {v_shelves_elements : (Nat → Int64)} {v_shelves_held : (Nat → Int32)} {v_shelves_sizes : (Nat → Int32)} {p1 : Int32} {p2 : Int32} {p3 : Int32} {p4 : Int32} {p5 : Int32} {u : Int32 × (Nat → Int32) × (Nat → Int64)} (hf : f_X6_copy v_refusals v_shelves_elements v_shelves_held v_shelves_sizes p1 p2 p3 p4 p5 = some u) : Met l yX6_copy (xw yX6_copy cX6_copy 7 (some .int)) (xrm 5 118) (xPc [.ref h0, .int p1, .int p2, .int p3, .int p4, .int p5] X [(h0, xO 6 [.ref g0, .ref g1, .ref g2, .ref h2, .ref h1, .int v_isKept]), (h1, xI X 5 v_refusals), (h2, xO 4 [.ref h4, .ref h5, .ref h3]), (h3, xJ X 320 v_shelves_elements), (h4, xI X 8 v_shelves_held), (h5, xI X 8 v_shelves_sizes)]) (xQw True (.returned (some (.int u.1))) X [(h0, xO 6 [.ref g0, .ref g1, .ref g2, .ref h2, .ref h1, .int v_isKept]), (h1, xI X 5 u.2.1), (h2, xO 4 [.ref h4, .ref h5, .ref h3]), (h3, xJ X 320 u.2.2), (h4, xI X 8 v_shelves_held), (h5, xI X 8 v_shelves_sizes)] (xAs [(h0, xO 6 [.ref g0, .ref g1, .ref g2, .ref h2, .ref h1, .int v_isKept]), (h1, xI X 5 v_refusals), (h2, xO 4 [.ref h4, .ref h5, .ref h3]), (h3, xJ X 320 v_shelves_elements), (h4, xI X 8 v_shelves_held), (h5, xI X 8 v_shelves_sizes)])) 0 0 (xAs [(h0, xO 6 [.ref g0, .ref g1, .ref g2, .ref h2, .ref h1, .int v_isKept]), (h1, xI X 5 v_refusals), (h2, xO 4 [.ref h4, .ref h5, .ref h3]), (h3, xJ X 320 v_shelves_elements), (h4, xI X 8 v_shelves_held), (h5, xI X 8 v_shelves_sizes)]) := by
  refine xMetw (Qc := fun A => xQw True (.returned (some (.int u.1))) X [(h0, xO 6 [.ref g0, .ref g1, .ref g2, .ref h2, .ref h1, .int v_isKept]), (h1, xI X 5 u.2.1), (h2, xO 4 [.ref h4, .ref h5, .ref h3]), (h3, xJ X 320 u.2.2), (h4, xI X 8 v_shelves_held), (h5, xI X 8 v_shelves_sizes)] A) (n := 5) md_X6_copy.1 (Nat.le_of_ble_eq_true rfl) ?_
  intro p e s m args below meth c ls A hC hr hlk hH hl
  have hl : lv_has ls 7 [(0, .ref h0), (1, .int p1), (2, .int p2), (3, .int p3), (4, .int p4), (5, .int p5)] := hl
  have hx := hC.1
  have hb := hC.2.1
  have J46 : ∀ (j46_6 : Int32), f_X6_copy_J46 v_refusals v_shelves_elements v_shelves_held v_shelves_sizes p1 p2 p3 p4 p5 j46_6 = some u → ∀ (H : Heap) (locs : List Loc), xH X A [(h0, xO 6 [.ref g0, .ref g1, .ref g2, .ref h2, .ref h1, .int v_isKept]), (h1, xI X 5 v_refusals), (h2, xO 4 [.ref h4, .ref h5, .ref h3]), (h3, xJ X 320 v_shelves_elements), (h4, xI X 8 v_shelves_held), (h5, xI X 8 v_shelves_sizes)] s.heap H locs → ∀ (ls : Array Slot), lv_has ls 7 [(0, .ref h0), (1, .int p1), (2, .int p2), (3, .int p3), (4, .int p4), (5, .int p5), (6, .int j46_6)] → W p l e (xrm 5 118) s m args below meth c H locs 0 0 (MQ below (xQw True (.returned (some (.int u.1))) X [(h0, xO 6 [.ref g0, .ref g1, .ref g2, .ref h2, .ref h1, .int v_isKept]), (h1, xI X 5 u.2.1), (h2, xO 4 [.ref h4, .ref h5, .ref h3]), (h3, xJ X 320 u.2.2), (h4, xI X 8 v_shelves_held), (h5, xI X 8 v_shelves_sizes)] A) args s 0 0 A) (F0 m 46 ls []) := by
    intro j46_6 hf H locs hH ls hl
    refine lv_iload hx hb dX6_copy_46 (lv_at hl 6 rfl) ?_
    refine lv_if_eq (tgt := 58) hx hb dX6_copy_48 (by decide) (fun c3 => ?_) (fun c3 => ?_)
    · have hf := xt c3 hf
      refine lv_aload_n hx hb dX6_copy_58 rfl (lv_at hl 0 rfl) ?_
      refine x_get hC fd_RX6_29 hH.1 0 rfl rfl dX6_copy_59 ?_
      refine lv_iload_n hx hb dX6_copy_62 rfl (lv_at hl 1 rfl) ?_
      refine lv_iload_n hx hb dX6_copy_63 rfl (lv_at hl 2 rfl) ?_
      refine lv_iload_n hx hb dX6_copy_64 rfl (lv_at hl 3 rfl) ?_
      refine lv_iload hx hb dX6_copy_65 (lv_at hl 4 rfl) ?_
      refine lv_iload hx hb dX6_copy_67 (lv_at hl 5 rfl) ?_
      obtain ⟨u4, hf4, hf⟩ := xb hf
      refine x_ranw (ws' := [(h0, xO 6 [.ref g0, .ref g1, .ref g2, .ref h2, .ref h1, .int v_isKept]), (h1, xI X 5 v_refusals), (h2, xO 4 [.ref h4, .ref h5, .ref h3]), (h3, xJ X 320 u4), (h4, xI X 8 v_shelves_held), (h5, xI X 8 v_shelves_sizes)]) (x_runV (q0 := 0) (rest := []) (As := [.int p1, .int p2, .int p3, .int p4, .int p5]) hC mw_193 md_X4_copyElements (c_X4_copyElements (X := X) hf4) hH [2, 3, 4, 5] rfl (by decide) rfl rfl rfl hl.1 rfl rfl (Nat.le_of_ble_eq_true rfl) dX6_copy_69 ⟨Nat.le_of_ble_eq_true rfl, Nat.le_of_ble_eq_true rfl⟩ ⟨rfl, rfl⟩ ⟨Nat.le_refl _, Nat.le_refl _⟩) hH [2, 3, 4, 5] rfl rfl rfl rfl rfl (fun hz4 H locs hH => ?_)
      refine lv_iload hx hb dX6_copy_72 (lv_at hl 5 rfl) ?_
      exact x_retiw (φ := fun _ => True) (f := fun u : Int32 × (Nat → Int32) × (Nat → Int64) => u.1) (wf := fun u : Int32 × (Nat → Int32) × (Nat → Int64) => [(h0, xO 6 [.ref g0, .ref g1, .ref g2, .ref h2, .ref h1, .int v_isKept]), (h1, xI X 5 u.2.1), (h2, xO 4 [.ref h4, .ref h5, .ref h3]), (h3, xJ X 320 u.2.2), (h4, xI X 8 v_shelves_held), (h5, xI X 8 v_shelves_sizes)]) hC hr hlk trivial hf hH rfl rfl dX6_copy_74
    · have hf := xe c3 hf
      refine lv_aload_n hx hb dX6_copy_51 rfl (lv_at hl 0 rfl) ?_
      refine lv_iload hx hb dX6_copy_52 (lv_at hl 6 rfl) ?_
      obtain ⟨u5, hf5, hf⟩ := xb hf
      refine x_ranw (ws' := [(h0, xO 6 [.ref g0, .ref g1, .ref g2, .ref h2, .ref h1, .int v_isKept]), (h1, xI X 5 u5.2), (h2, xO 4 [.ref h4, .ref h5, .ref h3]), (h3, xJ X 320 v_shelves_elements), (h4, xI X 8 v_shelves_held), (h5, xI X 8 v_shelves_sizes)]) (x_runV (q0 := 0) (rest := []) (As := [.int j46_6]) hC mw_100 md_X6_refuse (c_X6_refuse (X := X) hf5) hH [0, 1] rfl (by decide) rfl rfl rfl hl.1 rfl rfl (Nat.le_of_ble_eq_true rfl) dX6_copy_54 ⟨Nat.le_of_ble_eq_true rfl, Nat.le_of_ble_eq_true rfl⟩ ⟨rfl, rfl⟩ ⟨Nat.le_refl _, Nat.le_refl _⟩) hH [0, 1] rfl rfl rfl rfl rfl (fun hz5 H locs hH => ?_)
      exact x_retiw (φ := fun _ => True) (f := fun u : Int32 × (Nat → Int32) × (Nat → Int64) => u.1) (wf := fun u : Int32 × (Nat → Int32) × (Nat → Int64) => [(h0, xO 6 [.ref g0, .ref g1, .ref g2, .ref h2, .ref h1, .int v_isKept]), (h1, xI X 5 u.2.1), (h2, xO 4 [.ref h4, .ref h5, .ref h3]), (h3, xJ X 320 u.2.2), (h4, xI X 8 v_shelves_held), (h5, xI X 8 v_shelves_sizes)]) hC hr hlk trivial hf hH rfl rfl dX6_copy_57
  have J42 : ∀ (_ : True), f_X6_copy_J42 v_refusals v_shelves_elements v_shelves_held v_shelves_sizes p1 p2 p3 p4 p5 = some u → ∀ (H : Heap) (locs : List Loc), xH X A [(h0, xO 6 [.ref g0, .ref g1, .ref g2, .ref h2, .ref h1, .int v_isKept]), (h1, xI X 5 v_refusals), (h2, xO 4 [.ref h4, .ref h5, .ref h3]), (h3, xJ X 320 v_shelves_elements), (h4, xI X 8 v_shelves_held), (h5, xI X 8 v_shelves_sizes)] s.heap H locs → ∀ (ls : Array Slot), lv_has ls 7 [(0, .ref h0), (1, .int p1), (2, .int p2), (3, .int p3), (4, .int p4), (5, .int p5)] → W p l e (xrm 5 118) s m args below meth c H locs 0 0 (MQ below (xQw True (.returned (some (.int u.1))) X [(h0, xO 6 [.ref g0, .ref g1, .ref g2, .ref h2, .ref h1, .int v_isKept]), (h1, xI X 5 u.2.1), (h2, xO 4 [.ref h4, .ref h5, .ref h3]), (h3, xJ X 320 u.2.2), (h4, xI X 8 v_shelves_held), (h5, xI X 8 v_shelves_sizes)] A) args s 0 0 A) (F0 m 42 ls []) := by
    intro _ hf H locs hH ls hl
    refine lv_bipush (v := (-2 : Int32)) hx hb dX6_copy_42 (by decide) ?_
    refine lv_istore (lv' := [(6, .int (-2 : Int32)), (0, .ref h0), (1, .int p1), (2, .int p2), (3, .int p3), (4, .int p4), (5, .int p5)]) hx hb dX6_copy_44 hl (by decide) rfl (fun ls hl => ?_)
    exact J46 (-2 : Int32) hf _ _ hH ls (lv_sub hl [1, 2, 3, 4, 5, 6, 0] rfl)
  refine lv_aload_n hx hb dX6_copy_0 rfl (lv_at hl 0 rfl) ?_
  refine lv_iload_n hx hb dX6_copy_1 rfl (lv_at hl 1 rfl) ?_
  refine lv_iload_n hx hb dX6_copy_2 rfl (lv_at hl 2 rfl) ?_
  obtain ⟨u1, hf1, hf⟩ := xb hf
  refine x_ran (x_runV (q0 := 0) (rest := []) (As := [.int p1, .int p2]) hC mw_184 md_X6_refusalOfTwoRows (c_X6_refusalOfTwoRows (X := X) hf1) hH [0, 2, 4] rfl (by decide) rfl rfl rfl hl.1 rfl rfl (Nat.le_of_ble_eq_true rfl) dX6_copy_3 ⟨Nat.le_of_ble_eq_true rfl, Nat.le_of_ble_eq_true rfl⟩ ⟨rfl, rfl⟩ ⟨Nat.le_refl _, Nat.le_refl _⟩) rfl (fun hz1 => ?_)
  refine lv_istore (lv' := [(6, .int u1), (0, .ref h0), (1, .int p1), (2, .int p2), (3, .int p3), (4, .int p4), (5, .int p5)]) hx hb dX6_copy_6 hl (by decide) rfl (fun ls hl => ?_)
  refine lv_iload hx hb dX6_copy_8 (lv_at hl 0 rfl) ?_
  refine lv_if_ne (tgt := 46) hx hb dX6_copy_10 (by decide) (fun c2 => ?_) (fun c2 => ?_)
  · have hf := xe c2 hf
    exact J46 u1 hf _ _ hH ls (lv_sub hl [1, 2, 3, 4, 5, 6, 0] rfl)
  · have hf := xt c2 hf
    refine lv_aload_n hx hb dX6_copy_13 rfl (lv_at hl 1 rfl) ?_
    refine x_get hC fd_RX6_29 hH.1 0 rfl rfl dX6_copy_14 ?_
    refine lv_iload_n hx hb dX6_copy_17 rfl (lv_at hl 2 rfl) ?_
    refine lv_iload_n hx hb dX6_copy_18 rfl (lv_at hl 4 rfl) ?_
    refine lv_iload hx hb dX6_copy_19 (lv_at hl 6 rfl) ?_
    obtain ⟨u6, hf6, hf⟩ := xb hf
    refine x_ran (x_runV (q0 := 0) (rest := []) (As := [.int p1, .int p3, .int p5]) hC mw_189 md_X4_hasElements (c_X4_hasElements (X := X) hf6) hH [2, 5] rfl (by decide) rfl rfl rfl hl.1 rfl rfl (Nat.le_of_ble_eq_true rfl) dX6_copy_21 ⟨Nat.le_of_ble_eq_true rfl, Nat.le_of_ble_eq_true rfl⟩ ⟨rfl, rfl⟩ ⟨Nat.le_refl _, Nat.le_refl _⟩) rfl (fun hz6 => ?_)
    refine lv_if_eq (tgt := 42) hx hb dX6_copy_24 (by decide) (fun c7 => ?_) (fun c7 => ?_)
    · have hf := xt c7 hf
      exact J42 trivial hf _ _ hH ls (lv_sub hl [1, 2, 3, 4, 5, 6] rfl)
    · have hf := xe c7 hf
      refine lv_aload_n hx hb dX6_copy_27 rfl (lv_at hl 1 rfl) ?_
      refine x_get hC fd_RX6_29 hH.1 0 rfl rfl dX6_copy_28 ?_
      refine lv_iload_n hx hb dX6_copy_31 rfl (lv_at hl 3 rfl) ?_
      refine lv_iload hx hb dX6_copy_32 (lv_at hl 5 rfl) ?_
      refine lv_iload hx hb dX6_copy_34 (lv_at hl 6 rfl) ?_
      obtain ⟨u8, hf8, hf⟩ := xb hf
      refine x_ran (x_runV (q0 := 0) (rest := []) (As := [.int p2, .int p4, .int p5]) hC mw_189 md_X4_hasElements (c_X4_hasElements (X := X) hf8) hH [2, 5] rfl (by decide) rfl rfl rfl hl.1 rfl rfl (Nat.le_of_ble_eq_true rfl) dX6_copy_36 ⟨Nat.le_of_ble_eq_true rfl, Nat.le_of_ble_eq_true rfl⟩ ⟨rfl, rfl⟩ ⟨Nat.le_refl _, Nat.le_refl _⟩) rfl (fun hz8 => ?_)
      refine lv_if_ne (tgt := 46) hx hb dX6_copy_39 (by decide) (fun c9 => ?_) (fun c9 => ?_)
      · have hf := xe c9 hf
        exact J46 u1 hf _ _ hH ls (lv_sub hl [1, 2, 3, 4, 5, 6, 0] rfl)
      · have hf := xt c9 hf
        exact J42 trivial hf _ _ hH ls (lv_sub hl [1, 2, 3, 4, 5, 6] rfl)
