def f_X6_elementOf (n_p0 : Nat) (v_ : (Nat → Int32)) (p1 : Int32) (p2 : Int32) : Option (Int32) :=
  if p1 < 0 then
    some p2
  else
  if (Int32.ofNat n_p0) ≤ p1 then
    some p2
  else
  if xout p1 n_p0 then none else
  some (v_ (xat p1))
set_option maxHeartbeats 4000000 in
set_option maxRecDepth 100000 in
theorem c_X6_elementOf {l : Launch} {X : xG} {h0 : Nat} {n_p0 : Nat} {v_ : (Nat → Int32)} {p1 : Int32} {p2 : Int32} {u : Int32} (hf : f_X6_elementOf n_p0 v_ p1 p2 = some u) : Met l yX6_elementOf (xw yX6_elementOf cX6_elementOf 3 (some .int)) (xrm 0 0) (xPc [.ref h0, .int p1, .int p2] X [(h0, xI X n_p0 v_)]) (xQ True (.returned (some (.int u)))) 0 0 xNo := by
  refine xMet (n := 3) md_X6_elementOf.1 (Nat.le_of_ble_eq_true rfl) ?_
  intro p e s m args below meth c ls A hC hr hlk hH hl
  have hl : lv_has ls 3 [(0, .ref h0), (1, .int p1), (2, .int p2)] := hl
  have hx := hC.1
  have hb := hC.2.1
  refine lv_aload_n hx hb dX6_elementOf_0 rfl (lv_at hl 0 rfl) ?_
  refine lv_ifnull hx hb dX6_elementOf_1 ?_
  refine lv_iload_n hx hb dX6_elementOf_4 rfl (lv_at hl 1 rfl) ?_
  refine lv_if_lt (tgt := 20) hx hb dX6_elementOf_5 (by decide) (fun c1 => ?_) (fun c1 => ?_)
  · have hf := xt c1 hf
    refine lv_iload_n hx hb dX6_elementOf_20 rfl (lv_at hl 2 rfl) ?_
    exact x_reti hC hr hlk trivial hf dX6_elementOf_21
  · have hf := xe c1 hf
    refine lv_iload_n hx hb dX6_elementOf_8 rfl (lv_at hl 1 rfl) ?_
    refine lv_aload_n hx hb dX6_elementOf_9 rfl (lv_at hl 0 rfl) ?_
    refine x_alen hC hH.1 0 rfl (v := Int32.ofNat n_p0) rfl dX6_elementOf_10 ?_
    refine lv_icmp_ge (tgt := 20) hx hb dX6_elementOf_11 (by decide) (fun c2 => ?_) (fun c2 => ?_)
    · have hf := xt c2 hf
      refine lv_iload_n hx hb dX6_elementOf_20 rfl (lv_at hl 2 rfl) ?_
      exact x_reti hC hr hlk trivial hf dX6_elementOf_21
    · have hf := xe c2 hf
      refine lv_aload_n hx hb dX6_elementOf_14 rfl (lv_at hl 0 rfl) ?_
      refine lv_iload_n hx hb dX6_elementOf_15 rfl (lv_at hl 1 rfl) ?_
      obtain ⟨n3, hf⟩ := xok hf
      refine x_iald hC hH.1 0 rfl n3 dX6_elementOf_16 ?_
      refine lv_goto (tgt := 21) hx hb dX6_elementOf_17 (by decide) ?_
      exact x_reti hC hr hlk trivial hf dX6_elementOf_21
def f_X2_kindOf (v_kinds : (Nat → Int32)) (p1 : Int32) : Option (Int32) :=
  (f_X6_elementOf 6 v_kinds p1 (0 : Int32)).bind fun u1 =>
  some u1
set_option maxHeartbeats 4000000 in
set_option maxRecDepth 100000 in
theorem c_X2_kindOf {l : Launch} {X : xG} {h0 h1 g0 : Nat} {v_count : Int32} {v_kinds : (Nat → Int32)} {p1 : Int32} {u : Int32} (hf : f_X2_kindOf v_kinds p1 = some u) : Met l yX2_kindOf (xw yX2_kindOf cX2_kindOf 2 (some .int)) (xrm 1 22) (xPc [.ref h0, .int p1] X [(h0, xO 2 [.ref h1, .ref g0, .int v_count]), (h1, xI X 6 v_kinds)]) (xQ True (.returned (some (.int u)))) 0 0 xNo := by
  refine xMet (n := 1) md_X2_kindOf.1 (Nat.le_of_ble_eq_true rfl) ?_
  intro p e s m args below meth c ls A hC hr hlk hH hl
  have hl : lv_has ls 2 [(0, .ref h0), (1, .int p1)] := hl
  have hx := hC.1
  have hb := hC.2.1
  refine lv_aload_n hx hb dX2_kindOf_0 rfl (lv_at hl 0 rfl) ?_
  refine x_get hC fd_RX2_11 hH.1 0 rfl rfl dX2_kindOf_1 ?_
  refine lv_iload_n hx hb dX2_kindOf_4 rfl (lv_at hl 1 rfl) ?_
  refine lv_iconst (v := (0 : Int32)) hx hb dX2_kindOf_5 (by decide) ?_
  obtain ⟨u1, hf1, hf⟩ := xb hf
  refine x_ran (x_runSN (rest := []) (As := [.ref h1, .int p1, .int (0 : Int32)]) hC mn_RX2_37 md_X6_elementOf (c_X6_elementOf (X := X) hf1) hH [1] rfl (by decide) hl.1 rfl rfl (Nat.le_of_ble_eq_true rfl) dX2_kindOf_6 ⟨Nat.le_of_ble_eq_true rfl, Nat.le_of_ble_eq_true rfl⟩ ⟨rfl, rfl⟩ ⟨Nat.le_refl _, Nat.le_refl _⟩) rfl (fun hz1 => ?_)
  exact x_reti hC hr hlk trivial hf dX2_kindOf_9
def f_X2_tuneOf (v_tunes : (Nat → Int32)) (p1 : Int32) : Option (Int32) :=
  (f_X6_elementOf 6 v_tunes p1 (0 : Int32)).bind fun u1 =>
  some u1
set_option maxHeartbeats 4000000 in
set_option maxRecDepth 100000 in
theorem c_X2_tuneOf {l : Launch} {X : xG} {h0 h1 g0 : Nat} {v_count : Int32} {v_tunes : (Nat → Int32)} {p1 : Int32} {u : Int32} (hf : f_X2_tuneOf v_tunes p1 = some u) : Met l yX2_tuneOf (xw yX2_tuneOf cX2_tuneOf 2 (some .int)) (xrm 1 22) (xPc [.ref h0, .int p1] X [(h0, xO 2 [.ref g0, .ref h1, .int v_count]), (h1, xI X 6 v_tunes)]) (xQ True (.returned (some (.int u)))) 0 0 xNo := by
  refine xMet (n := 1) md_X2_tuneOf.1 (Nat.le_of_ble_eq_true rfl) ?_
  intro p e s m args below meth c ls A hC hr hlk hH hl
  have hl : lv_has ls 2 [(0, .ref h0), (1, .int p1)] := hl
  have hx := hC.1
  have hb := hC.2.1
  refine lv_aload_n hx hb dX2_tuneOf_0 rfl (lv_at hl 0 rfl) ?_
  refine x_get hC fd_RX2_15 hH.1 0 rfl rfl dX2_tuneOf_1 ?_
  refine lv_iload_n hx hb dX2_tuneOf_4 rfl (lv_at hl 1 rfl) ?_
  refine lv_iconst (v := (0 : Int32)) hx hb dX2_tuneOf_5 (by decide) ?_
  obtain ⟨u1, hf1, hf⟩ := xb hf
  refine x_ran (x_runSN (rest := []) (As := [.ref h1, .int p1, .int (0 : Int32)]) hC mn_RX2_37 md_X6_elementOf (c_X6_elementOf (X := X) hf1) hH [1] rfl (by decide) hl.1 rfl rfl (Nat.le_of_ble_eq_true rfl) dX2_tuneOf_6 ⟨Nat.le_of_ble_eq_true rfl, Nat.le_of_ble_eq_true rfl⟩ ⟨rfl, rfl⟩ ⟨Nat.le_refl _, Nat.le_refl _⟩) rfl (fun hz1 => ?_)
  exact x_reti hC hr hlk trivial hf dX2_tuneOf_9
def f_X0_hasRoom (v_steps : Int32) : Option (Int32) :=
  if (40 : Int32) ≤ v_steps then
    some (0 : Int32)
  else
  some (1 : Int32)
set_option maxHeartbeats 4000000 in
set_option maxRecDepth 100000 in
theorem c_X0_hasRoom {l : Launch} {X : xG} {h0 g0 g1 : Nat} {v_inForce : Int32} {v_depth : Int32} {v_miss : Int32} {v_ring : Int64} {v_steps : Int32} {v_seed : Int32} {u : Int32} (hf : f_X0_hasRoom v_steps = some u) : Met l yX0_hasRoom (xw yX0_hasRoom cX0_hasRoom 1 (some .boolean)) (xrm 0 0) (xPc [.ref h0] X [(h0, xO 0 [.ref g0, .ref g1, .int v_inForce, .int v_depth, .int v_miss, .long v_ring, .int v_steps, .int v_seed])]) (xQ (u = 0 ∨ u = 1) (.returned (some (.int u)))) 0 0 xNo := by
  refine xMet (n := 0) md_X0_hasRoom.1 (Nat.le_of_ble_eq_true rfl) ?_
  intro p e s m args below meth c ls A hC hr hlk hH hl
  have hl : lv_has ls 1 [(0, .ref h0)] := hl
  have hx := hC.1
  have hb := hC.2.1
  refine lv_aload_n hx hb dX0_hasRoom_0 rfl (lv_at hl 0 rfl) ?_
  refine x_get hC fd_RX0_49 hH.1 0 rfl rfl dX0_hasRoom_1 ?_
  refine lv_bipush (v := (40 : Int32)) hx hb dX0_hasRoom_4 (by decide) ?_
  refine lv_icmp_ge (tgt := 13) hx hb dX0_hasRoom_6 (by decide) (fun c1 => ?_) (fun c1 => ?_)
  · have hf := xt c1 hf
    refine lv_iconst (v := (0 : Int32)) hx hb dX0_hasRoom_13 (by decide) ?_
    exact x_retz hC hr hlk (Or.inl rfl) hf dX0_hasRoom_14
  · have hf := xe c1 hf
    refine lv_iconst (v := (1 : Int32)) hx hb dX0_hasRoom_9 (by decide) ?_
    refine lv_goto (tgt := 14) hx hb dX0_hasRoom_10 (by decide) ?_
    exact x_retz hC hr hlk (Or.inr rfl) hf dX0_hasRoom_14
def f_X0_addStep (v_ring : Int64) (v_steps : Int32) (p1 : Int32) : Option (Int64 × Int32) :=
  (f_X0_hasRoom v_steps).bind fun u1 =>
  if u1 = 0 then
    some (v_ring, v_steps)
  else
  if p1 = 0 then
    some (v_ring ||| (0 : Int64), v_steps + (1 : Int32))
  else
  some (v_ring ||| (xlshl (1 : Int64) v_steps), v_steps + (1 : Int32))
set_option maxHeartbeats 4000000 in
set_option maxRecDepth 100000 in
theorem c_X0_addStep {l : Launch} {X : xG} {h0 g0 g1 : Nat} {v_inForce : Int32} {v_depth : Int32} {v_miss : Int32} {v_ring : Int64} {v_steps : Int32} {v_seed : Int32} {p1 : Int32} {u : Int64 × Int32} (hf : f_X0_addStep v_ring v_steps p1 = some u) : Met l yX0_addStep (xw yX0_addStep cX0_addStep 2 none) (xrm 1 20) (xPc [.ref h0, .int p1] X [(h0, xO 0 [.ref g0, .ref g1, .int v_inForce, .int v_depth, .int v_miss, .long v_ring, .int v_steps, .int v_seed])]) (xQw True (.returned none) X [(h0, xO 0 [.ref g0, .ref g1, .int v_inForce, .int v_depth, .int v_miss, .long u.1, .int u.2, .int v_seed])] (xAs [(h0, xO 0 [.ref g0, .ref g1, .int v_inForce, .int v_depth, .int v_miss, .long v_ring, .int v_steps, .int v_seed])])) 0 0 (xAs [(h0, xO 0 [.ref g0, .ref g1, .int v_inForce, .int v_depth, .int v_miss, .long v_ring, .int v_steps, .int v_seed])]) := by
  refine xMetw (Qc := fun A => xQw True (.returned none) X [(h0, xO 0 [.ref g0, .ref g1, .int v_inForce, .int v_depth, .int v_miss, .long u.1, .int u.2, .int v_seed])] A) (n := 1) md_X0_addStep.1 (Nat.le_of_ble_eq_true rfl) ?_
  intro p e s m args below meth c ls A hC hr hlk hH hl
  have hl : lv_has ls 2 [(0, .ref h0), (1, .int p1)] := hl
  have hx := hC.1
  have hb := hC.2.1
  refine lv_aload_n hx hb dX0_addStep_0 rfl (lv_at hl 0 rfl) ?_
  obtain ⟨u1, hf1, hf⟩ := xb hf
  refine x_ran (x_runV (q0 := 0) (rest := []) (As := []) hC mw_584 md_X0_hasRoom (c_X0_hasRoom (X := X) hf1) hH [0] rfl (by decide) rfl rfl rfl hl.1 rfl rfl (Nat.le_of_ble_eq_true rfl) dX0_addStep_1 ⟨Nat.le_of_ble_eq_true rfl, Nat.le_of_ble_eq_true rfl⟩ ⟨rfl, rfl⟩ ⟨Nat.le_refl _, Nat.le_refl _⟩) rfl (fun hz1 => ?_)
  refine lv_if_eq (tgt := 40) hx hb dX0_addStep_4 (by decide) (fun c2 => ?_) (fun c2 => ?_)
  · have hf := xt c2 hf
    exact x_retvw (φ := fun _ => True) (wf := fun u : Int64 × Int32 => [(h0, xO 0 [.ref g0, .ref g1, .int v_inForce, .int v_depth, .int v_miss, .long u.1, .int u.2, .int v_seed])]) hC hr hlk trivial hf hH rfl dX0_addStep_40
  · have hf := xe c2 hf
    refine lv_aload_n hx hb dX0_addStep_7 rfl (lv_at hl 0 rfl) ?_
    refine lv_dup hx hb dX0_addStep_8 rfl ?_
    refine x_get hC fd_RX0_45 hH.1 0 rfl rfl dX0_addStep_9 ?_
    refine lv_iload_n hx hb dX0_addStep_12 rfl (lv_at hl 1 rfl) ?_
    refine lv_if_eq (tgt := 25) hx hb dX0_addStep_13 (by decide) (fun c3 => ?_) (fun c3 => ?_)
    · have hf := xt c3 hf
      refine lv_lconst (v := (0 : Int64)) hx hb dX0_addStep_25 (by decide) ?_
      refine lv_lor hx hb dX0_addStep_26 ?_
      refine x_put (ws' := [(h0, xO 0 [.ref g0, .ref g1, .int v_inForce, .int v_depth, .int v_miss, .long (v_ring ||| (0 : Int64)), .int v_steps, .int v_seed])]) hC fd_RX0_45 hH 0 rfl (by decide) rfl rfl dX0_addStep_27 rfl (fun H locs hH => ?_)
      refine lv_aload_n hx hb dX0_addStep_30 rfl (lv_at hl 0 rfl) ?_
      refine lv_dup hx hb dX0_addStep_31 rfl ?_
      refine x_get hC fd_RX0_49 hH.1 0 rfl rfl dX0_addStep_32 ?_
      refine lv_iconst (v := (1 : Int32)) hx hb dX0_addStep_35 (by decide) ?_
      refine lv_iadd hx hb dX0_addStep_36 ?_
      refine x_put (ws' := [(h0, xO 0 [.ref g0, .ref g1, .int v_inForce, .int v_depth, .int v_miss, .long (v_ring ||| (0 : Int64)), .int (v_steps + (1 : Int32)), .int v_seed])]) hC fd_RX0_49 hH 0 rfl (by decide) rfl rfl dX0_addStep_37 rfl (fun H locs hH => ?_)
      exact x_retvw (φ := fun _ => True) (wf := fun u : Int64 × Int32 => [(h0, xO 0 [.ref g0, .ref g1, .int v_inForce, .int v_depth, .int v_miss, .long u.1, .int u.2, .int v_seed])]) hC hr hlk trivial hf hH rfl dX0_addStep_40
    · have hf := xe c3 hf
      refine lv_lconst (v := (1 : Int64)) hx hb dX0_addStep_16 (by decide) ?_
      refine lv_aload_n hx hb dX0_addStep_17 rfl (lv_at hl 0 rfl) ?_
      refine x_get hC fd_RX0_49 hH.1 0 rfl rfl dX0_addStep_18 ?_
      refine x_lshl hx hb dX0_addStep_21 ?_
      refine lv_goto (tgt := 26) hx hb dX0_addStep_22 (by decide) ?_
      refine lv_lor hx hb dX0_addStep_26 ?_
      refine x_put (ws' := [(h0, xO 0 [.ref g0, .ref g1, .int v_inForce, .int v_depth, .int v_miss, .long (v_ring ||| (xlshl (1 : Int64) v_steps)), .int v_steps, .int v_seed])]) hC fd_RX0_45 hH 0 rfl (by decide) rfl rfl dX0_addStep_27 rfl (fun H locs hH => ?_)
      refine lv_aload_n hx hb dX0_addStep_30 rfl (lv_at hl 0 rfl) ?_
      refine lv_dup hx hb dX0_addStep_31 rfl ?_
      refine x_get hC fd_RX0_49 hH.1 0 rfl rfl dX0_addStep_32 ?_
      refine lv_iconst (v := (1 : Int32)) hx hb dX0_addStep_35 (by decide) ?_
      refine lv_iadd hx hb dX0_addStep_36 ?_
      refine x_put (ws' := [(h0, xO 0 [.ref g0, .ref g1, .int v_inForce, .int v_depth, .int v_miss, .long (v_ring ||| (xlshl (1 : Int64) v_steps)), .int (v_steps + (1 : Int32)), .int v_seed])]) hC fd_RX0_49 hH 0 rfl (by decide) rfl rfl dX0_addStep_37 rfl (fun H locs hH => ?_)
      exact x_retvw (φ := fun _ => True) (wf := fun u : Int64 × Int32 => [(h0, xO 0 [.ref g0, .ref g1, .int v_inForce, .int v_depth, .int v_miss, .long u.1, .int u.2, .int v_seed])]) hC hr hlk trivial hf hH rfl dX0_addStep_40
def f_X6_isWithin (p0 : Int32) (p1 : Int32) (p2 : Int32) : Option (Int32) :=
  if p0 < p1 then
    some (0 : Int32)
  else
  if p2 < p0 then
    some (0 : Int32)
  else
  some (1 : Int32)
set_option maxHeartbeats 4000000 in
set_option maxRecDepth 100000 in
theorem c_X6_isWithin {l : Launch} {X : xG} {p0 : Int32} {p1 : Int32} {p2 : Int32} {u : Int32} (hf : f_X6_isWithin p0 p1 p2 = some u) : Met l yX6_isWithin (xw yX6_isWithin cX6_isWithin 3 (some .boolean)) (xrm 0 0) (xPc [.int p0, .int p1, .int p2] X []) (xQ (u = 0 ∨ u = 1) (.returned (some (.int u)))) 0 0 xNo := by
  refine xMet (n := 3) md_X6_isWithin.1 (Nat.le_of_ble_eq_true rfl) ?_
  intro p e s m args below meth c ls A hC hr hlk hH hl
  have hl : lv_has ls 3 [(0, .int p0), (1, .int p1), (2, .int p2)] := hl
  have hx := hC.1
  have hb := hC.2.1
  refine lv_iload_n hx hb dX6_isWithin_0 rfl (lv_at hl 0 rfl) ?_
  refine lv_iload_n hx hb dX6_isWithin_1 rfl (lv_at hl 1 rfl) ?_
  refine lv_icmp_lt (tgt := 14) hx hb dX6_isWithin_2 (by decide) (fun c1 => ?_) (fun c1 => ?_)
  · have hf := xt c1 hf
    refine lv_iconst (v := (0 : Int32)) hx hb dX6_isWithin_14 (by decide) ?_
    exact x_retz hC hr hlk (Or.inl rfl) hf dX6_isWithin_15
  · have hf := xe c1 hf
    refine lv_iload_n hx hb dX6_isWithin_5 rfl (lv_at hl 0 rfl) ?_
    refine lv_iload_n hx hb dX6_isWithin_6 rfl (lv_at hl 2 rfl) ?_
    refine lv_icmp_gt (tgt := 14) hx hb dX6_isWithin_7 (by decide) (fun c2 => ?_) (fun c2 => ?_)
    · have hf := xt c2 hf
      refine lv_iconst (v := (0 : Int32)) hx hb dX6_isWithin_14 (by decide) ?_
      exact x_retz hC hr hlk (Or.inl rfl) hf dX6_isWithin_15
    · have hf := xe c2 hf
      refine lv_iconst (v := (1 : Int32)) hx hb dX6_isWithin_10 (by decide) ?_
      refine lv_goto (tgt := 15) hx hb dX6_isWithin_11 (by decide) ?_
      exact x_retz hC hr hlk (Or.inr rfl) hf dX6_isWithin_15
def f_X2_isThere (v_count : Int32) (p1 : Int32) : Option (Int32) :=
  (f_X6_isWithin p1 (0 : Int32) (v_count - (1 : Int32))).bind fun u1 =>
  some u1
set_option maxHeartbeats 4000000 in
set_option maxRecDepth 100000 in
theorem c_X2_isThere {l : Launch} {X : xG} {h0 g0 g1 : Nat} {v_count : Int32} {p1 : Int32} {u : Int32} (hf : f_X2_isThere v_count p1 = some u) : Met l yX2_isThere (xw yX2_isThere cX2_isThere 2 (some .boolean)) (xrm 1 22) (xPc [.ref h0, .int p1] X [(h0, xO 2 [.ref g0, .ref g1, .int v_count])]) (xQ (u = 0 ∨ u = 1) (.returned (some (.int u)))) 0 0 xNo := by
  refine xMet (n := 1) md_X2_isThere.1 (Nat.le_of_ble_eq_true rfl) ?_
  intro p e s m args below meth c ls A hC hr hlk hH hl
  have hl : lv_has ls 2 [(0, .ref h0), (1, .int p1)] := hl
  have hx := hC.1
  have hb := hC.2.1
  refine lv_iload_n hx hb dX2_isThere_0 rfl (lv_at hl 1 rfl) ?_
  refine lv_iconst (v := (0 : Int32)) hx hb dX2_isThere_1 (by decide) ?_
  refine lv_aload_n hx hb dX2_isThere_2 rfl (lv_at hl 0 rfl) ?_
  refine x_get hC fd_RX2_22 hH.1 0 rfl rfl dX2_isThere_3 ?_
  refine lv_iconst (v := (1 : Int32)) hx hb dX2_isThere_6 (by decide) ?_
  refine lv_isub hx hb dX2_isThere_7 ?_
  obtain ⟨u1, hf1, hf⟩ := xb hf
  refine x_ran (x_runSN (rest := []) (As := [.int p1, .int (0 : Int32), .int (v_count - (1 : Int32))]) hC mn_RX2_18 md_X6_isWithin (c_X6_isWithin (X := X) hf1) hH [] rfl (by decide) hl.1 rfl rfl (Nat.le_of_ble_eq_true rfl) dX2_isThere_8 ⟨Nat.le_of_ble_eq_true rfl, Nat.le_of_ble_eq_true rfl⟩ ⟨rfl, rfl⟩ ⟨Nat.le_refl _, Nat.le_refl _⟩) rfl (fun hz1 => ?_)
  exact x_retz hC hr hlk hz1 hf dX2_isThere_11
def f_X2_stepsLookedAhead (p0 : Int32) (p1 : Int32) : Option (Int32) :=
  if p0 = (3 : Int32) then
    some (p1 + (2 : Int32))
  else
  some (p1 + (1 : Int32))
set_option maxHeartbeats 4000000 in
set_option maxRecDepth 100000 in
theorem c_X2_stepsLookedAhead {l : Launch} {X : xG} {p0 : Int32} {p1 : Int32} {u : Int32} (hf : f_X2_stepsLookedAhead p0 p1 = some u) : Met l yX2_stepsLookedAhead (xw yX2_stepsLookedAhead cX2_stepsLookedAhead 2 (some .int)) (xrm 0 0) (xPc [.int p0, .int p1] X []) (xQ True (.returned (some (.int u)))) 0 0 xNo := by
  refine xMet (n := 2) md_X2_stepsLookedAhead.1 (Nat.le_of_ble_eq_true rfl) ?_
  intro p e s m args below meth c ls A hC hr hlk hH hl
  have hl : lv_has ls 2 [(0, .int p0), (1, .int p1)] := hl
  have hx := hC.1
  have hb := hC.2.1
  refine lv_iload_n hx hb dX2_stepsLookedAhead_0 rfl (lv_at hl 0 rfl) ?_
  refine lv_iconst (v := (3 : Int32)) hx hb dX2_stepsLookedAhead_1 (by decide) ?_
  refine lv_icmp_ne (tgt := 11) hx hb dX2_stepsLookedAhead_2 (by decide) (fun c1 => ?_) (fun c1 => ?_)
  · have hf := xe c1 hf
    refine lv_iload_n hx hb dX2_stepsLookedAhead_11 rfl (lv_at hl 1 rfl) ?_
    refine lv_iconst (v := (1 : Int32)) hx hb dX2_stepsLookedAhead_12 (by decide) ?_
    refine lv_iadd hx hb dX2_stepsLookedAhead_13 ?_
    exact x_reti hC hr hlk trivial hf dX2_stepsLookedAhead_14
  · have hf := xt c1 hf
    refine lv_iload_n hx hb dX2_stepsLookedAhead_5 rfl (lv_at hl 1 rfl) ?_
    refine lv_iconst (v := (2 : Int32)) hx hb dX2_stepsLookedAhead_6 (by decide) ?_
    refine lv_iadd hx hb dX2_stepsLookedAhead_7 ?_
    refine lv_goto (tgt := 14) hx hb dX2_stepsLookedAhead_8 (by decide) ?_
    exact x_reti hC hr hlk trivial hf dX2_stepsLookedAhead_14
def f_X6_isIn (p0 : Int64) (p1 : Int32) : Option (Int32) :=
  if (xcmp ((xlushr p0 p1) &&& (1 : Int64)) (0 : Int64)) = 0 then
    some (0 : Int32)
  else
  some (1 : Int32)
set_option maxHeartbeats 4000000 in
set_option maxRecDepth 100000 in
theorem c_X6_isIn {l : Launch} {X : xG} {p0 : Int64} {p1 : Int32} {u : Int32} (hf : f_X6_isIn p0 p1 = some u) : Met l yX6_isIn (xw yX6_isIn cX6_isIn 3 (some .boolean)) (xrm 0 0) (xPc [.long p0, .int p1] X []) (xQ (u = 0 ∨ u = 1) (.returned (some (.int u)))) 0 0 xNo := by
  refine xMet (n := 2) md_X6_isIn.1 (Nat.le_of_ble_eq_true rfl) ?_
  intro p e s m args below meth c ls A hC hr hlk hH hl
  have hl : lv_has ls 3 [(0, .long p0), (2, .int p1)] := hl
  have hx := hC.1
  have hb := hC.2.1
  refine lv_lload_n hx hb dX6_isIn_0 rfl (lv_at hl 0 rfl) ?_
  refine lv_iload_n hx hb dX6_isIn_1 rfl (lv_at hl 1 rfl) ?_
  refine x_lushr hx hb dX6_isIn_2 ?_
  refine lv_lconst (v := (1 : Int64)) hx hb dX6_isIn_3 (by decide) ?_
  refine lv_land hx hb dX6_isIn_4 ?_
  refine lv_lconst (v := (0 : Int64)) hx hb dX6_isIn_5 (by decide) ?_
  refine x_lcmp hx hb dX6_isIn_6 ?_
  refine lv_if_eq (tgt := 14) hx hb dX6_isIn_7 (by decide) (fun c1 => ?_) (fun c1 => ?_)
  · have hf := xt c1 hf
    refine lv_iconst (v := (0 : Int32)) hx hb dX6_isIn_14 (by decide) ?_
    exact x_retz hC hr hlk (Or.inl rfl) hf dX6_isIn_15
  · have hf := xe c1 hf
    refine lv_iconst (v := (1 : Int32)) hx hb dX6_isIn_10 (by decide) ?_
    refine lv_goto (tgt := 15) hx hb dX6_isIn_11 (by decide) ?_
    exact x_retz hC hr hlk (Or.inr rfl) hf dX6_isIn_15
def f_X2_isStrokeAt (p0 : Int64) (p1 : Int32) (p2 : Int32) : Option (Int32) :=
  if p1 ≤ 0 then
    some (0 : Int32)
  else
  if p2 < 0 then
    some (0 : Int32)
  else
  if p1 = 0 then none else
  (f_X6_isIn p0 (xrem p2 p1)).bind fun u4 =>
  if u4 = 0 then
    some (0 : Int32)
  else
  some (1 : Int32)
set_option maxHeartbeats 4000000 in
set_option maxRecDepth 100000 in
theorem c_X2_isStrokeAt {l : Launch} {X : xG} {p0 : Int64} {p1 : Int32} {p2 : Int32} {u : Int32} (hf : f_X2_isStrokeAt p0 p1 p2 = some u) : Met l yX2_isStrokeAt (xw yX2_isStrokeAt cX2_isStrokeAt 4 (some .boolean)) (xrm 1 22) (xPc [.long p0, .int p1, .int p2] X []) (xQ (u = 0 ∨ u = 1) (.returned (some (.int u)))) 0 0 xNo := by
  refine xMet (n := 3) md_X2_isStrokeAt.1 (Nat.le_of_ble_eq_true rfl) ?_
  intro p e s m args below meth c ls A hC hr hlk hH hl
  have hl : lv_has ls 4 [(0, .long p0), (2, .int p1), (3, .int p2)] := hl
  have hx := hC.1
  have hb := hC.2.1
  refine lv_iload_n hx hb dX2_isStrokeAt_0 rfl (lv_at hl 1 rfl) ?_
  refine lv_if_le (tgt := 22) hx hb dX2_isStrokeAt_1 (by decide) (fun c1 => ?_) (fun c1 => ?_)
  · have hf := xt c1 hf
    refine lv_iconst (v := (0 : Int32)) hx hb dX2_isStrokeAt_22 (by decide) ?_
    exact x_retz hC hr hlk (Or.inl rfl) hf dX2_isStrokeAt_23
  · have hf := xe c1 hf
    refine lv_iload_n hx hb dX2_isStrokeAt_4 rfl (lv_at hl 2 rfl) ?_
    refine lv_if_lt (tgt := 22) hx hb dX2_isStrokeAt_5 (by decide) (fun c2 => ?_) (fun c2 => ?_)
    · have hf := xt c2 hf
      refine lv_iconst (v := (0 : Int32)) hx hb dX2_isStrokeAt_22 (by decide) ?_
      exact x_retz hC hr hlk (Or.inl rfl) hf dX2_isStrokeAt_23
    · have hf := xe c2 hf
      refine lv_lload_n hx hb dX2_isStrokeAt_8 rfl (lv_at hl 0 rfl) ?_
      refine lv_iload_n hx hb dX2_isStrokeAt_9 rfl (lv_at hl 2 rfl) ?_
      refine lv_iload_n hx hb dX2_isStrokeAt_10 rfl (lv_at hl 1 rfl) ?_
      obtain ⟨n3, hf⟩ := xok hf
      refine x_irem hx hb dX2_isStrokeAt_11 n3 ?_
      obtain ⟨u4, hf4, hf⟩ := xb hf
      refine x_ran (x_runSN (rest := []) (As := [.long p0, .int (xrem p2 p1)]) hC mn_RX2_68 md_X6_isIn (c_X6_isIn (X := X) hf4) hH [] rfl (by decide) hl.1 rfl rfl (Nat.le_of_ble_eq_true rfl) dX2_isStrokeAt_12 ⟨Nat.le_of_ble_eq_true rfl, Nat.le_of_ble_eq_true rfl⟩ ⟨rfl, rfl⟩ ⟨Nat.le_refl _, Nat.le_refl _⟩) rfl (fun hz4 => ?_)
      refine lv_if_eq (tgt := 22) hx hb dX2_isStrokeAt_15 (by decide) (fun c5 => ?_) (fun c5 => ?_)
      · have hf := xt c5 hf
        refine lv_iconst (v := (0 : Int32)) hx hb dX2_isStrokeAt_22 (by decide) ?_
        exact x_retz hC hr hlk (Or.inl rfl) hf dX2_isStrokeAt_23
      · have hf := xe c5 hf
        refine lv_iconst (v := (1 : Int32)) hx hb dX2_isStrokeAt_18 (by decide) ?_
        refine lv_goto (tgt := 23) hx hb dX2_isStrokeAt_19 (by decide) ?_
        exact x_retz hC hr hlk (Or.inr rfl) hf dX2_isStrokeAt_23
def f_X2_areGaps_L13 (p0 : Int64) (p1 : Int32) (p3 : Int32) (s13 : Int32) : Option ((Int32) ⊕ (Int32)) :=
  if p3 < s13 then
    some (.inl (1 : Int32))
  else
  if p1 = 0 then none else
  (f_X6_isIn p0 (xrem s13 p1)).bind fun u5 =>
  if u5 = 0 then
    some (.inr (s13 + (1 : Int32)))
  else
  some (.inl (0 : Int32))
def f_X2_areGaps (p0 : Int64) (p1 : Int32) (p2 : Int32) (p3 : Int32) : Option (Int32) :=
  if p1 ≤ 0 then
    some (0 : Int32)
  else
  if 0 ≤ p2 then
    xloop (f_X2_areGaps_L13 p0 p1 p3) xN p2
  else
  some (0 : Int32)
set_option maxHeartbeats 4000000 in
set_option maxRecDepth 100000 in
theorem c_X2_areGaps {l : Launch} {X : xG} {p0 : Int64} {p1 : Int32} {p2 : Int32} {p3 : Int32} {u : Int32} (hf : f_X2_areGaps p0 p1 p2 p3 = some u) : Met l yX2_areGaps (xw yX2_areGaps cX2_areGaps 6 (some .boolean)) (xrm 1 22) (xPc [.long p0, .int p1, .int p2, .int p3] X []) (xQ (u = 0 ∨ u = 1) (.returned (some (.int u)))) 0 0 xNo := by
  refine xMet (n := 4) md_X2_areGaps.1 (Nat.le_of_ble_eq_true rfl) ?_
  intro p e s m args below meth c ls A hC hr hlk hH hl
  have hl : lv_has ls 6 [(0, .long p0), (2, .int p1), (3, .int p2), (4, .int p3)] := hl
  have hx := hC.1
  have hb := hC.2.1
  have L13 : ∀ (n : Nat) (s13 : Int32), xloop (f_X2_areGaps_L13 p0 p1 p3) n s13 = some u → ∀ (ls : Array Slot), lv_has ls 6 [(0, .long p0), (2, .int p1), (4, .int p3), (5, .int s13)] → W p l e (xrm 1 22) s m args below meth c s.heap [] 0 0 (MQ below (xQ (u = 0 ∨ u = 1) (.returned (some (.int u)))) args s 0 0 xNo) (F0 m 13 ls []) := by
    intro  n
    induction n with
    | zero => intro s13 hf; exact xloop_0 hf
    | succ n ih13 =>
      intro s13 hf ls hl
      obtain ⟨o13, hf, ho13⟩ := xloop_s hf
      refine lv_iload hx hb dX2_areGaps_13 (lv_at hl 3 rfl) ?_
      refine lv_iload hx hb dX2_areGaps_15 (lv_at hl 2 rfl) ?_
      refine lv_icmp_gt (tgt := 39) hx hb dX2_areGaps_17 (by decide) (fun c3 => ?_) (fun c3 => ?_)
      · have hf := xt c3 hf
        refine lv_iconst (v := (1 : Int32)) hx hb dX2_areGaps_39 (by decide) ?_
        have hf := xo_ret hf ho13
        exact x_retz hC hr hlk (Or.inr rfl) hf dX2_areGaps_40
      · have hf := xe c3 hf
        refine lv_lload_n hx hb dX2_areGaps_20 rfl (lv_at hl 0 rfl) ?_
        refine lv_iload hx hb dX2_areGaps_21 (lv_at hl 3 rfl) ?_
        refine lv_iload_n hx hb dX2_areGaps_23 rfl (lv_at hl 1 rfl) ?_
        obtain ⟨n4, hf⟩ := xok hf
        refine x_irem hx hb dX2_areGaps_24 n4 ?_
        obtain ⟨u5, hf5, hf⟩ := xb hf
        refine x_ran (x_runSN (rest := []) (As := [.long p0, .int (xrem s13 p1)]) hC mn_RX2_68 md_X6_isIn (c_X6_isIn (X := X) hf5) hH [] rfl (by decide) hl.1 rfl rfl (Nat.le_of_ble_eq_true rfl) dX2_areGaps_25 ⟨Nat.le_of_ble_eq_true rfl, Nat.le_of_ble_eq_true rfl⟩ ⟨rfl, rfl⟩ ⟨Nat.le_refl _, Nat.le_refl _⟩) rfl (fun hz5 => ?_)
        refine lv_if_eq (tgt := 33) hx hb dX2_areGaps_28 (by decide) (fun c6 => ?_) (fun c6 => ?_)
        · have hf := xt c6 hf
          refine lv_iinc (v := s13 + (1 : Int32)) (lv' := [(5, .int (s13 + (1 : Int32))), (0, .long p0), (2, .int p1), (4, .int p3)]) hx hb dX2_areGaps_33 hl (k := 3) rfl rfl (by decide) rfl (fun ls hl => ?_)
          refine lv_goto (tgt := 13) hx hb dX2_areGaps_36 (by decide) ?_
          have hf := xo_go hf ho13
          exact ih13 (s13 + (1 : Int32)) hf ls (lv_sub hl [1, 2, 3, 0] rfl)
        · have hf := xe c6 hf
          refine lv_iconst (v := (0 : Int32)) hx hb dX2_areGaps_31 (by decide) ?_
          have hf := xo_ret hf ho13
          exact x_retz hC hr hlk (Or.inl rfl) hf dX2_areGaps_32
  refine lv_iload_n hx hb dX2_areGaps_0 rfl (lv_at hl 1 rfl) ?_
  refine lv_if_le (tgt := 8) hx hb dX2_areGaps_1 (by decide) (fun c1 => ?_) (fun c1 => ?_)
  · have hf := xt c1 hf
    refine lv_iconst (v := (0 : Int32)) hx hb dX2_areGaps_8 (by decide) ?_
    exact x_retz hC hr hlk (Or.inl rfl) hf dX2_areGaps_9
  · have hf := xe c1 hf
    refine lv_iload_n hx hb dX2_areGaps_4 rfl (lv_at hl 2 rfl) ?_
    refine lv_if_ge (tgt := 10) hx hb dX2_areGaps_5 (by decide) (fun c2 => ?_) (fun c2 => ?_)
    · have hf := xt c2 hf
      refine lv_iload_n hx hb dX2_areGaps_10 rfl (lv_at hl 2 rfl) ?_
      refine lv_istore (lv' := [(5, .int p2), (0, .long p0), (2, .int p1), (3, .int p2), (4, .int p3)]) hx hb dX2_areGaps_11 hl (by decide) rfl (fun ls hl => ?_)
      exact L13 xN p2 hf ls (lv_sub hl [1, 2, 4, 0] rfl)
    · have hf := xe c2 hf
      refine lv_iconst (v := (0 : Int32)) hx hb dX2_areGaps_8 (by decide) ?_
      exact x_retz hC hr hlk (Or.inl rfl) hf dX2_areGaps_9
def f_X2_isGapAt (p0 : Int64) (p1 : Int32) (p2 : Int32) : Option (Int32) :=
  if p1 ≤ 0 then
    some (0 : Int32)
  else
  if p2 < 0 then
    some (0 : Int32)
  else
  if p1 = 0 then none else
  (f_X6_isIn p0 (xrem p2 p1)).bind fun u4 =>
  if u4 = 0 then
    some (1 : Int32)
  else
  some (0 : Int32)
set_option maxHeartbeats 4000000 in
set_option maxRecDepth 100000 in
theorem c_X2_isGapAt {l : Launch} {X : xG} {p0 : Int64} {p1 : Int32} {p2 : Int32} {u : Int32} (hf : f_X2_isGapAt p0 p1 p2 = some u) : Met l yX2_isGapAt (xw yX2_isGapAt cX2_isGapAt 4 (some .boolean)) (xrm 1 22) (xPc [.long p0, .int p1, .int p2] X []) (xQ (u = 0 ∨ u = 1) (.returned (some (.int u)))) 0 0 xNo := by
  refine xMet (n := 3) md_X2_isGapAt.1 (Nat.le_of_ble_eq_true rfl) ?_
  intro p e s m args below meth c ls A hC hr hlk hH hl
  have hl : lv_has ls 4 [(0, .long p0), (2, .int p1), (3, .int p2)] := hl
  have hx := hC.1
  have hb := hC.2.1
  refine lv_iload_n hx hb dX2_isGapAt_0 rfl (lv_at hl 1 rfl) ?_
  refine lv_if_le (tgt := 22) hx hb dX2_isGapAt_1 (by decide) (fun c1 => ?_) (fun c1 => ?_)
  · have hf := xt c1 hf
    refine lv_iconst (v := (0 : Int32)) hx hb dX2_isGapAt_22 (by decide) ?_
    exact x_retz hC hr hlk (Or.inl rfl) hf dX2_isGapAt_23
  · have hf := xe c1 hf
    refine lv_iload_n hx hb dX2_isGapAt_4 rfl (lv_at hl 2 rfl) ?_
    refine lv_if_lt (tgt := 22) hx hb dX2_isGapAt_5 (by decide) (fun c2 => ?_) (fun c2 => ?_)
    · have hf := xt c2 hf
      refine lv_iconst (v := (0 : Int32)) hx hb dX2_isGapAt_22 (by decide) ?_
      exact x_retz hC hr hlk (Or.inl rfl) hf dX2_isGapAt_23
    · have hf := xe c2 hf
      refine lv_lload_n hx hb dX2_isGapAt_8 rfl (lv_at hl 0 rfl) ?_
      refine lv_iload_n hx hb dX2_isGapAt_9 rfl (lv_at hl 2 rfl) ?_
      refine lv_iload_n hx hb dX2_isGapAt_10 rfl (lv_at hl 1 rfl) ?_
      obtain ⟨n3, hf⟩ := xok hf
      refine x_irem hx hb dX2_isGapAt_11 n3 ?_
      obtain ⟨u4, hf4, hf⟩ := xb hf
      refine x_ran (x_runSN (rest := []) (As := [.long p0, .int (xrem p2 p1)]) hC mn_RX2_68 md_X6_isIn (c_X6_isIn (X := X) hf4) hH [] rfl (by decide) hl.1 rfl rfl (Nat.le_of_ble_eq_true rfl) dX2_isGapAt_12 ⟨Nat.le_of_ble_eq_true rfl, Nat.le_of_ble_eq_true rfl⟩ ⟨rfl, rfl⟩ ⟨Nat.le_refl _, Nat.le_refl _⟩) rfl (fun hz4 => ?_)
      refine lv_if_ne (tgt := 22) hx hb dX2_isGapAt_15 (by decide) (fun c5 => ?_) (fun c5 => ?_)
      · have hf := xe c5 hf
        refine lv_iconst (v := (0 : Int32)) hx hb dX2_isGapAt_22 (by decide) ?_
        exact x_retz hC hr hlk (Or.inl rfl) hf dX2_isGapAt_23
      · have hf := xt c5 hf
        refine lv_iconst (v := (1 : Int32)) hx hb dX2_isGapAt_18 (by decide) ?_
        refine lv_goto (tgt := 23) hx hb dX2_isGapAt_19 (by decide) ?_
        exact x_retz hC hr hlk (Or.inr rfl) hf dX2_isGapAt_23
def f_J13_bitCount_95d88 (p0 : Int64) : Option (Int32) :=
  some ((Int64.toInt32 ((((((((p0 - ((xlushr p0 (1 : Int32)) &&& (6148914691236517205 : Int64))) &&& (3689348814741910323 : Int64)) + ((xlushr (p0 - ((xlushr p0 (1 : Int32)) &&& (6148914691236517205 : Int64))) (2 : Int32)) &&& (3689348814741910323 : Int64))) + (xlushr (((p0 - ((xlushr p0 (1 : Int32)) &&& (6148914691236517205 : Int64))) &&& (3689348814741910323 : Int64)) + ((xlushr (p0 - ((xlushr p0 (1 : Int32)) &&& (6148914691236517205 : Int64))) (2 : Int32)) &&& (3689348814741910323 : Int64))) (4 : Int32))) &&& (1085102592571150095 : Int64)) + (xlushr (((((p0 - ((xlushr p0 (1 : Int32)) &&& (6148914691236517205 : Int64))) &&& (3689348814741910323 : Int64)) + ((xlushr (p0 - ((xlushr p0 (1 : Int32)) &&& (6148914691236517205 : Int64))) (2 : Int32)) &&& (3689348814741910323 : Int64))) + (xlushr (((p0 - ((xlushr p0 (1 : Int32)) &&& (6148914691236517205 : Int64))) &&& (3689348814741910323 : Int64)) + ((xlushr (p0 - ((xlushr p0 (1 : Int32)) &&& (6148914691236517205 : Int64))) (2 : Int32)) &&& (3689348814741910323 : Int64))) (4 : Int32))) &&& (1085102592571150095 : Int64)) (8 : Int32))) + (xlushr ((((((p0 - ((xlushr p0 (1 : Int32)) &&& (6148914691236517205 : Int64))) &&& (3689348814741910323 : Int64)) + ((xlushr (p0 - ((xlushr p0 (1 : Int32)) &&& (6148914691236517205 : Int64))) (2 : Int32)) &&& (3689348814741910323 : Int64))) + (xlushr (((p0 - ((xlushr p0 (1 : Int32)) &&& (6148914691236517205 : Int64))) &&& (3689348814741910323 : Int64)) + ((xlushr (p0 - ((xlushr p0 (1 : Int32)) &&& (6148914691236517205 : Int64))) (2 : Int32)) &&& (3689348814741910323 : Int64))) (4 : Int32))) &&& (1085102592571150095 : Int64)) + (xlushr (((((p0 - ((xlushr p0 (1 : Int32)) &&& (6148914691236517205 : Int64))) &&& (3689348814741910323 : Int64)) + ((xlushr (p0 - ((xlushr p0 (1 : Int32)) &&& (6148914691236517205 : Int64))) (2 : Int32)) &&& (3689348814741910323 : Int64))) + (xlushr (((p0 - ((xlushr p0 (1 : Int32)) &&& (6148914691236517205 : Int64))) &&& (3689348814741910323 : Int64)) + ((xlushr (p0 - ((xlushr p0 (1 : Int32)) &&& (6148914691236517205 : Int64))) (2 : Int32)) &&& (3689348814741910323 : Int64))) (4 : Int32))) &&& (1085102592571150095 : Int64)) (8 : Int32))) (16 : Int32))) + (xlushr (((((((p0 - ((xlushr p0 (1 : Int32)) &&& (6148914691236517205 : Int64))) &&& (3689348814741910323 : Int64)) + ((xlushr (p0 - ((xlushr p0 (1 : Int32)) &&& (6148914691236517205 : Int64))) (2 : Int32)) &&& (3689348814741910323 : Int64))) + (xlushr (((p0 - ((xlushr p0 (1 : Int32)) &&& (6148914691236517205 : Int64))) &&& (3689348814741910323 : Int64)) + ((xlushr (p0 - ((xlushr p0 (1 : Int32)) &&& (6148914691236517205 : Int64))) (2 : Int32)) &&& (3689348814741910323 : Int64))) (4 : Int32))) &&& (1085102592571150095 : Int64)) + (xlushr (((((p0 - ((xlushr p0 (1 : Int32)) &&& (6148914691236517205 : Int64))) &&& (3689348814741910323 : Int64)) + ((xlushr (p0 - ((xlushr p0 (1 : Int32)) &&& (6148914691236517205 : Int64))) (2 : Int32)) &&& (3689348814741910323 : Int64))) + (xlushr (((p0 - ((xlushr p0 (1 : Int32)) &&& (6148914691236517205 : Int64))) &&& (3689348814741910323 : Int64)) + ((xlushr (p0 - ((xlushr p0 (1 : Int32)) &&& (6148914691236517205 : Int64))) (2 : Int32)) &&& (3689348814741910323 : Int64))) (4 : Int32))) &&& (1085102592571150095 : Int64)) (8 : Int32))) + (xlushr ((((((p0 - ((xlushr p0 (1 : Int32)) &&& (6148914691236517205 : Int64))) &&& (3689348814741910323 : Int64)) + ((xlushr (p0 - ((xlushr p0 (1 : Int32)) &&& (6148914691236517205 : Int64))) (2 : Int32)) &&& (3689348814741910323 : Int64))) + (xlushr (((p0 - ((xlushr p0 (1 : Int32)) &&& (6148914691236517205 : Int64))) &&& (3689348814741910323 : Int64)) + ((xlushr (p0 - ((xlushr p0 (1 : Int32)) &&& (6148914691236517205 : Int64))) (2 : Int32)) &&& (3689348814741910323 : Int64))) (4 : Int32))) &&& (1085102592571150095 : Int64)) + (xlushr (((((p0 - ((xlushr p0 (1 : Int32)) &&& (6148914691236517205 : Int64))) &&& (3689348814741910323 : Int64)) + ((xlushr (p0 - ((xlushr p0 (1 : Int32)) &&& (6148914691236517205 : Int64))) (2 : Int32)) &&& (3689348814741910323 : Int64))) + (xlushr (((p0 - ((xlushr p0 (1 : Int32)) &&& (6148914691236517205 : Int64))) &&& (3689348814741910323 : Int64)) + ((xlushr (p0 - ((xlushr p0 (1 : Int32)) &&& (6148914691236517205 : Int64))) (2 : Int32)) &&& (3689348814741910323 : Int64))) (4 : Int32))) &&& (1085102592571150095 : Int64)) (8 : Int32))) (16 : Int32))) (32 : Int32)))) &&& (127 : Int32))
set_option maxHeartbeats 4000000 in
set_option maxRecDepth 100000 in
theorem c_J13_bitCount_95d88 {l : Launch} {X : xG} {p0 : Int64} {u : Int32} (hf : f_J13_bitCount_95d88 p0 = some u) : Met l yJ13_bitCount_95d88 (xw yJ13_bitCount_95d88 cJ13_bitCount_95d88 2 (some .int)) (xrm 0 0) (xPc [.long p0] X []) (xQ True (.returned (some (.int u)))) 0 0 xNo := by
  refine xMet (n := 1) md_J13_bitCount_95d88.1 (Nat.le_of_ble_eq_true rfl) ?_
  intro p e s m args below meth c ls A hC hr hlk hH hl
  have hl : lv_has ls 2 [(0, .long p0)] := hl
  have hx := hC.1
  have hb := hC.2.1
  refine lv_lload_n hx hb dJ13_bitCount_95d88_0 rfl (lv_at hl 0 rfl) ?_
  refine lv_lload_n hx hb dJ13_bitCount_95d88_1 rfl (lv_at hl 0 rfl) ?_
  refine lv_iconst (v := (1 : Int32)) hx hb dJ13_bitCount_95d88_2 (by decide) ?_
  refine x_lushr hx hb dJ13_bitCount_95d88_3 ?_
  refine lv_ldc2 (v := (6148914691236517205 : Int64)) hx hb hC.2.2.2.1 (hC.2.2.2.2.1 _ mw_308) dJ13_bitCount_95d88_4 ?_
  refine lv_land hx hb dJ13_bitCount_95d88_7 ?_
  refine lv_lsub hx hb dJ13_bitCount_95d88_8 ?_
  refine lv_lstore_n (lv' := [(0, .long (p0 - ((xlushr p0 (1 : Int32)) &&& (6148914691236517205 : Int64))))]) hx hb dJ13_bitCount_95d88_9 rfl hl (by decide) rfl (fun ls hl => ?_)
  refine lv_lload_n hx hb dJ13_bitCount_95d88_10 rfl (lv_at hl 0 rfl) ?_
  refine lv_ldc2 (v := (3689348814741910323 : Int64)) hx hb hC.2.2.2.1 (hC.2.2.2.2.1 _ mw_309) dJ13_bitCount_95d88_11 ?_
  refine lv_land hx hb dJ13_bitCount_95d88_14 ?_
  refine lv_lload_n hx hb dJ13_bitCount_95d88_15 rfl (lv_at hl 0 rfl) ?_
  refine lv_iconst (v := (2 : Int32)) hx hb dJ13_bitCount_95d88_16 (by decide) ?_
  refine x_lushr hx hb dJ13_bitCount_95d88_17 ?_
  refine lv_ldc2 (v := (3689348814741910323 : Int64)) hx hb hC.2.2.2.1 (hC.2.2.2.2.1 _ mw_309) dJ13_bitCount_95d88_18 ?_
  refine lv_land hx hb dJ13_bitCount_95d88_21 ?_
  refine lv_ladd hx hb dJ13_bitCount_95d88_22 ?_
  refine lv_lstore_n (lv' := [(0, .long (((p0 - ((xlushr p0 (1 : Int32)) &&& (6148914691236517205 : Int64))) &&& (3689348814741910323 : Int64)) + ((xlushr (p0 - ((xlushr p0 (1 : Int32)) &&& (6148914691236517205 : Int64))) (2 : Int32)) &&& (3689348814741910323 : Int64))))]) hx hb dJ13_bitCount_95d88_23 rfl hl (by decide) rfl (fun ls hl => ?_)
  refine lv_lload_n hx hb dJ13_bitCount_95d88_24 rfl (lv_at hl 0 rfl) ?_
  refine lv_lload_n hx hb dJ13_bitCount_95d88_25 rfl (lv_at hl 0 rfl) ?_
  refine lv_iconst (v := (4 : Int32)) hx hb dJ13_bitCount_95d88_26 (by decide) ?_
  refine x_lushr hx hb dJ13_bitCount_95d88_27 ?_
  refine lv_ladd hx hb dJ13_bitCount_95d88_28 ?_
  refine lv_ldc2 (v := (1085102592571150095 : Int64)) hx hb hC.2.2.2.1 (hC.2.2.2.2.1 _ mw_310) dJ13_bitCount_95d88_29 ?_
  refine lv_land hx hb dJ13_bitCount_95d88_32 ?_
  refine lv_lstore_n (lv' := [(0, .long (((((p0 - ((xlushr p0 (1 : Int32)) &&& (6148914691236517205 : Int64))) &&& (3689348814741910323 : Int64)) + ((xlushr (p0 - ((xlushr p0 (1 : Int32)) &&& (6148914691236517205 : Int64))) (2 : Int32)) &&& (3689348814741910323 : Int64))) + (xlushr (((p0 - ((xlushr p0 (1 : Int32)) &&& (6148914691236517205 : Int64))) &&& (3689348814741910323 : Int64)) + ((xlushr (p0 - ((xlushr p0 (1 : Int32)) &&& (6148914691236517205 : Int64))) (2 : Int32)) &&& (3689348814741910323 : Int64))) (4 : Int32))) &&& (1085102592571150095 : Int64)))]) hx hb dJ13_bitCount_95d88_33 rfl hl (by decide) rfl (fun ls hl => ?_)
  refine lv_lload_n hx hb dJ13_bitCount_95d88_34 rfl (lv_at hl 0 rfl) ?_
  refine lv_lload_n hx hb dJ13_bitCount_95d88_35 rfl (lv_at hl 0 rfl) ?_
  refine lv_bipush (v := (8 : Int32)) hx hb dJ13_bitCount_95d88_36 (by decide) ?_
  refine x_lushr hx hb dJ13_bitCount_95d88_38 ?_
  refine lv_ladd hx hb dJ13_bitCount_95d88_39 ?_
  refine lv_lstore_n (lv' := [(0, .long ((((((p0 - ((xlushr p0 (1 : Int32)) &&& (6148914691236517205 : Int64))) &&& (3689348814741910323 : Int64)) + ((xlushr (p0 - ((xlushr p0 (1 : Int32)) &&& (6148914691236517205 : Int64))) (2 : Int32)) &&& (3689348814741910323 : Int64))) + (xlushr (((p0 - ((xlushr p0 (1 : Int32)) &&& (6148914691236517205 : Int64))) &&& (3689348814741910323 : Int64)) + ((xlushr (p0 - ((xlushr p0 (1 : Int32)) &&& (6148914691236517205 : Int64))) (2 : Int32)) &&& (3689348814741910323 : Int64))) (4 : Int32))) &&& (1085102592571150095 : Int64)) + (xlushr (((((p0 - ((xlushr p0 (1 : Int32)) &&& (6148914691236517205 : Int64))) &&& (3689348814741910323 : Int64)) + ((xlushr (p0 - ((xlushr p0 (1 : Int32)) &&& (6148914691236517205 : Int64))) (2 : Int32)) &&& (3689348814741910323 : Int64))) + (xlushr (((p0 - ((xlushr p0 (1 : Int32)) &&& (6148914691236517205 : Int64))) &&& (3689348814741910323 : Int64)) + ((xlushr (p0 - ((xlushr p0 (1 : Int32)) &&& (6148914691236517205 : Int64))) (2 : Int32)) &&& (3689348814741910323 : Int64))) (4 : Int32))) &&& (1085102592571150095 : Int64)) (8 : Int32))))]) hx hb dJ13_bitCount_95d88_40 rfl hl (by decide) rfl (fun ls hl => ?_)
  refine lv_lload_n hx hb dJ13_bitCount_95d88_41 rfl (lv_at hl 0 rfl) ?_
  refine lv_lload_n hx hb dJ13_bitCount_95d88_42 rfl (lv_at hl 0 rfl) ?_
  refine lv_bipush (v := (16 : Int32)) hx hb dJ13_bitCount_95d88_43 (by decide) ?_
  refine x_lushr hx hb dJ13_bitCount_95d88_45 ?_
  refine lv_ladd hx hb dJ13_bitCount_95d88_46 ?_
  refine lv_lstore_n (lv' := [(0, .long (((((((p0 - ((xlushr p0 (1 : Int32)) &&& (6148914691236517205 : Int64))) &&& (3689348814741910323 : Int64)) + ((xlushr (p0 - ((xlushr p0 (1 : Int32)) &&& (6148914691236517205 : Int64))) (2 : Int32)) &&& (3689348814741910323 : Int64))) + (xlushr (((p0 - ((xlushr p0 (1 : Int32)) &&& (6148914691236517205 : Int64))) &&& (3689348814741910323 : Int64)) + ((xlushr (p0 - ((xlushr p0 (1 : Int32)) &&& (6148914691236517205 : Int64))) (2 : Int32)) &&& (3689348814741910323 : Int64))) (4 : Int32))) &&& (1085102592571150095 : Int64)) + (xlushr (((((p0 - ((xlushr p0 (1 : Int32)) &&& (6148914691236517205 : Int64))) &&& (3689348814741910323 : Int64)) + ((xlushr (p0 - ((xlushr p0 (1 : Int32)) &&& (6148914691236517205 : Int64))) (2 : Int32)) &&& (3689348814741910323 : Int64))) + (xlushr (((p0 - ((xlushr p0 (1 : Int32)) &&& (6148914691236517205 : Int64))) &&& (3689348814741910323 : Int64)) + ((xlushr (p0 - ((xlushr p0 (1 : Int32)) &&& (6148914691236517205 : Int64))) (2 : Int32)) &&& (3689348814741910323 : Int64))) (4 : Int32))) &&& (1085102592571150095 : Int64)) (8 : Int32))) + (xlushr ((((((p0 - ((xlushr p0 (1 : Int32)) &&& (6148914691236517205 : Int64))) &&& (3689348814741910323 : Int64)) + ((xlushr (p0 - ((xlushr p0 (1 : Int32)) &&& (6148914691236517205 : Int64))) (2 : Int32)) &&& (3689348814741910323 : Int64))) + (xlushr (((p0 - ((xlushr p0 (1 : Int32)) &&& (6148914691236517205 : Int64))) &&& (3689348814741910323 : Int64)) + ((xlushr (p0 - ((xlushr p0 (1 : Int32)) &&& (6148914691236517205 : Int64))) (2 : Int32)) &&& (3689348814741910323 : Int64))) (4 : Int32))) &&& (1085102592571150095 : Int64)) + (xlushr (((((p0 - ((xlushr p0 (1 : Int32)) &&& (6148914691236517205 : Int64))) &&& (3689348814741910323 : Int64)) + ((xlushr (p0 - ((xlushr p0 (1 : Int32)) &&& (6148914691236517205 : Int64))) (2 : Int32)) &&& (3689348814741910323 : Int64))) + (xlushr (((p0 - ((xlushr p0 (1 : Int32)) &&& (6148914691236517205 : Int64))) &&& (3689348814741910323 : Int64)) + ((xlushr (p0 - ((xlushr p0 (1 : Int32)) &&& (6148914691236517205 : Int64))) (2 : Int32)) &&& (3689348814741910323 : Int64))) (4 : Int32))) &&& (1085102592571150095 : Int64)) (8 : Int32))) (16 : Int32))))]) hx hb dJ13_bitCount_95d88_47 rfl hl (by decide) rfl (fun ls hl => ?_)
  refine lv_lload_n hx hb dJ13_bitCount_95d88_48 rfl (lv_at hl 0 rfl) ?_
  refine lv_lload_n hx hb dJ13_bitCount_95d88_49 rfl (lv_at hl 0 rfl) ?_
  refine lv_bipush (v := (32 : Int32)) hx hb dJ13_bitCount_95d88_50 (by decide) ?_
  refine x_lushr hx hb dJ13_bitCount_95d88_52 ?_
  refine lv_ladd hx hb dJ13_bitCount_95d88_53 ?_
  refine lv_lstore_n (lv' := [(0, .long ((((((((p0 - ((xlushr p0 (1 : Int32)) &&& (6148914691236517205 : Int64))) &&& (3689348814741910323 : Int64)) + ((xlushr (p0 - ((xlushr p0 (1 : Int32)) &&& (6148914691236517205 : Int64))) (2 : Int32)) &&& (3689348814741910323 : Int64))) + (xlushr (((p0 - ((xlushr p0 (1 : Int32)) &&& (6148914691236517205 : Int64))) &&& (3689348814741910323 : Int64)) + ((xlushr (p0 - ((xlushr p0 (1 : Int32)) &&& (6148914691236517205 : Int64))) (2 : Int32)) &&& (3689348814741910323 : Int64))) (4 : Int32))) &&& (1085102592571150095 : Int64)) + (xlushr (((((p0 - ((xlushr p0 (1 : Int32)) &&& (6148914691236517205 : Int64))) &&& (3689348814741910323 : Int64)) + ((xlushr (p0 - ((xlushr p0 (1 : Int32)) &&& (6148914691236517205 : Int64))) (2 : Int32)) &&& (3689348814741910323 : Int64))) + (xlushr (((p0 - ((xlushr p0 (1 : Int32)) &&& (6148914691236517205 : Int64))) &&& (3689348814741910323 : Int64)) + ((xlushr (p0 - ((xlushr p0 (1 : Int32)) &&& (6148914691236517205 : Int64))) (2 : Int32)) &&& (3689348814741910323 : Int64))) (4 : Int32))) &&& (1085102592571150095 : Int64)) (8 : Int32))) + (xlushr ((((((p0 - ((xlushr p0 (1 : Int32)) &&& (6148914691236517205 : Int64))) &&& (3689348814741910323 : Int64)) + ((xlushr (p0 - ((xlushr p0 (1 : Int32)) &&& (6148914691236517205 : Int64))) (2 : Int32)) &&& (3689348814741910323 : Int64))) + (xlushr (((p0 - ((xlushr p0 (1 : Int32)) &&& (6148914691236517205 : Int64))) &&& (3689348814741910323 : Int64)) + ((xlushr (p0 - ((xlushr p0 (1 : Int32)) &&& (6148914691236517205 : Int64))) (2 : Int32)) &&& (3689348814741910323 : Int64))) (4 : Int32))) &&& (1085102592571150095 : Int64)) + (xlushr (((((p0 - ((xlushr p0 (1 : Int32)) &&& (6148914691236517205 : Int64))) &&& (3689348814741910323 : Int64)) + ((xlushr (p0 - ((xlushr p0 (1 : Int32)) &&& (6148914691236517205 : Int64))) (2 : Int32)) &&& (3689348814741910323 : Int64))) + (xlushr (((p0 - ((xlushr p0 (1 : Int32)) &&& (6148914691236517205 : Int64))) &&& (3689348814741910323 : Int64)) + ((xlushr (p0 - ((xlushr p0 (1 : Int32)) &&& (6148914691236517205 : Int64))) (2 : Int32)) &&& (3689348814741910323 : Int64))) (4 : Int32))) &&& (1085102592571150095 : Int64)) (8 : Int32))) (16 : Int32))) + (xlushr (((((((p0 - ((xlushr p0 (1 : Int32)) &&& (6148914691236517205 : Int64))) &&& (3689348814741910323 : Int64)) + ((xlushr (p0 - ((xlushr p0 (1 : Int32)) &&& (6148914691236517205 : Int64))) (2 : Int32)) &&& (3689348814741910323 : Int64))) + (xlushr (((p0 - ((xlushr p0 (1 : Int32)) &&& (6148914691236517205 : Int64))) &&& (3689348814741910323 : Int64)) + ((xlushr (p0 - ((xlushr p0 (1 : Int32)) &&& (6148914691236517205 : Int64))) (2 : Int32)) &&& (3689348814741910323 : Int64))) (4 : Int32))) &&& (1085102592571150095 : Int64)) + (xlushr (((((p0 - ((xlushr p0 (1 : Int32)) &&& (6148914691236517205 : Int64))) &&& (3689348814741910323 : Int64)) + ((xlushr (p0 - ((xlushr p0 (1 : Int32)) &&& (6148914691236517205 : Int64))) (2 : Int32)) &&& (3689348814741910323 : Int64))) + (xlushr (((p0 - ((xlushr p0 (1 : Int32)) &&& (6148914691236517205 : Int64))) &&& (3689348814741910323 : Int64)) + ((xlushr (p0 - ((xlushr p0 (1 : Int32)) &&& (6148914691236517205 : Int64))) (2 : Int32)) &&& (3689348814741910323 : Int64))) (4 : Int32))) &&& (1085102592571150095 : Int64)) (8 : Int32))) + (xlushr ((((((p0 - ((xlushr p0 (1 : Int32)) &&& (6148914691236517205 : Int64))) &&& (3689348814741910323 : Int64)) + ((xlushr (p0 - ((xlushr p0 (1 : Int32)) &&& (6148914691236517205 : Int64))) (2 : Int32)) &&& (3689348814741910323 : Int64))) + (xlushr (((p0 - ((xlushr p0 (1 : Int32)) &&& (6148914691236517205 : Int64))) &&& (3689348814741910323 : Int64)) + ((xlushr (p0 - ((xlushr p0 (1 : Int32)) &&& (6148914691236517205 : Int64))) (2 : Int32)) &&& (3689348814741910323 : Int64))) (4 : Int32))) &&& (1085102592571150095 : Int64)) + (xlushr (((((p0 - ((xlushr p0 (1 : Int32)) &&& (6148914691236517205 : Int64))) &&& (3689348814741910323 : Int64)) + ((xlushr (p0 - ((xlushr p0 (1 : Int32)) &&& (6148914691236517205 : Int64))) (2 : Int32)) &&& (3689348814741910323 : Int64))) + (xlushr (((p0 - ((xlushr p0 (1 : Int32)) &&& (6148914691236517205 : Int64))) &&& (3689348814741910323 : Int64)) + ((xlushr (p0 - ((xlushr p0 (1 : Int32)) &&& (6148914691236517205 : Int64))) (2 : Int32)) &&& (3689348814741910323 : Int64))) (4 : Int32))) &&& (1085102592571150095 : Int64)) (8 : Int32))) (16 : Int32))) (32 : Int32))))]) hx hb dJ13_bitCount_95d88_54 rfl hl (by decide) rfl (fun ls hl => ?_)
  refine lv_lload_n hx hb dJ13_bitCount_95d88_55 rfl (lv_at hl 0 rfl) ?_
  refine lv_l2i hx hb dJ13_bitCount_95d88_56 rfl ?_
  refine lv_bipush (v := (127 : Int32)) hx hb dJ13_bitCount_95d88_57 (by decide) ?_
  refine lv_iand hx hb dJ13_bitCount_95d88_59 ?_
  exact x_reti hC hr hlk trivial hf dJ13_bitCount_95d88_60
def f_X6_firstBits (p0 : Int32) : Option (Int64) :=
  some ((xlshl (1 : Int64) p0) - (1 : Int64))
set_option maxHeartbeats 4000000 in
set_option maxRecDepth 100000 in
theorem c_X6_firstBits {l : Launch} {X : xG} {p0 : Int32} {u : Int64} (hf : f_X6_firstBits p0 = some u) : Met l yX6_firstBits (xw yX6_firstBits cX6_firstBits 1 (some .long)) (xrm 0 0) (xPc [.int p0] X []) (xQ True (.returned (some (.long u)))) 0 0 xNo := by
  refine xMet (n := 1) md_X6_firstBits.1 (Nat.le_of_ble_eq_true rfl) ?_
  intro p e s m args below meth c ls A hC hr hlk hH hl
  have hl : lv_has ls 1 [(0, .int p0)] := hl
  have hx := hC.1
  have hb := hC.2.1
  refine lv_lconst (v := (1 : Int64)) hx hb dX6_firstBits_0 (by decide) ?_
  refine lv_iload_n hx hb dX6_firstBits_1 rfl (lv_at hl 0 rfl) ?_
  refine x_lshl hx hb dX6_firstBits_2 ?_
  refine lv_lconst (v := (1 : Int64)) hx hb dX6_firstBits_3 (by decide) ?_
  refine lv_lsub hx hb dX6_firstBits_4 ?_
  exact x_retl hC hr hlk trivial hf dX6_firstBits_5
def f_X2_strokesAhead (p0 : Int64) (p1 : Int32) (p2 : Int32) : Option (Int32) :=
  if p1 ≤ 0 then
    some (0 : Int32)
  else
  if 0 ≤ p2 then
    if p1 = 0 then none else
    (f_J13_bitCount_95d88 p0).bind fun u4 =>
    if p1 = 0 then none else
    (f_X6_firstBits (xrem p2 p1)).bind fun u6 =>
    (f_J13_bitCount_95d88 (p0 &&& u6)).bind fun u7 =>
    some (((p2 / p1) * u4) + u7)
  else
  some (0 : Int32)
set_option maxHeartbeats 4000000 in
set_option maxRecDepth 100000 in
theorem c_X2_strokesAhead {l : Launch} {X : xG} {p0 : Int64} {p1 : Int32} {p2 : Int32} {u : Int32} (hf : f_X2_strokesAhead p0 p1 p2 = some u) : Met l yX2_strokesAhead (xw yX2_strokesAhead cX2_strokesAhead 4 (some .int)) (xrm 1 21) (xPc [.long p0, .int p1, .int p2] X []) (xQ True (.returned (some (.int u)))) 0 0 xNo := by
  refine xMet (n := 3) md_X2_strokesAhead.1 (Nat.le_of_ble_eq_true rfl) ?_
  intro p e s m args below meth c ls A hC hr hlk hH hl
  have hl : lv_has ls 4 [(0, .long p0), (2, .int p1), (3, .int p2)] := hl
  have hx := hC.1
  have hb := hC.2.1
  refine lv_iload_n hx hb dX2_strokesAhead_0 rfl (lv_at hl 1 rfl) ?_
  refine lv_if_le (tgt := 8) hx hb dX2_strokesAhead_1 (by decide) (fun c1 => ?_) (fun c1 => ?_)
  · have hf := xt c1 hf
    refine lv_iconst (v := (0 : Int32)) hx hb dX2_strokesAhead_8 (by decide) ?_
    exact x_reti hC hr hlk trivial hf dX2_strokesAhead_9
  · have hf := xe c1 hf
    refine lv_iload_n hx hb dX2_strokesAhead_4 rfl (lv_at hl 2 rfl) ?_
    refine lv_if_ge (tgt := 10) hx hb dX2_strokesAhead_5 (by decide) (fun c2 => ?_) (fun c2 => ?_)
    · have hf := xt c2 hf
      refine lv_iload_n hx hb dX2_strokesAhead_10 rfl (lv_at hl 2 rfl) ?_
      refine lv_iload_n hx hb dX2_strokesAhead_11 rfl (lv_at hl 1 rfl) ?_
      obtain ⟨n3, hf⟩ := xok hf
      refine lv_idiv hx hb dX2_strokesAhead_12 n3 ?_
      refine lv_lload_n hx hb dX2_strokesAhead_13 rfl (lv_at hl 0 rfl) ?_
      obtain ⟨u4, hf4, hf⟩ := xb hf
      refine x_ran (x_runS (rest := [.int (p2 / p1)]) (As := [.long p0]) hC mw_304 md_J13_bitCount_95d88 (c_J13_bitCount_95d88 (X := X) hf4) hH [] rfl (by decide) hl.1 rfl rfl (Nat.le_of_ble_eq_true rfl) dX2_strokesAhead_14 ⟨Nat.le_of_ble_eq_true rfl, Nat.le_of_ble_eq_true rfl⟩ ⟨rfl, rfl⟩ ⟨Nat.le_refl _, Nat.le_refl _⟩) rfl (fun hz4 => ?_)
      refine lv_imul hx hb dX2_strokesAhead_17 ?_
      refine lv_lload_n hx hb dX2_strokesAhead_18 rfl (lv_at hl 0 rfl) ?_
      refine lv_iload_n hx hb dX2_strokesAhead_19 rfl (lv_at hl 2 rfl) ?_
      refine lv_iload_n hx hb dX2_strokesAhead_20 rfl (lv_at hl 1 rfl) ?_
      obtain ⟨n5, hf⟩ := xok hf
      refine x_irem hx hb dX2_strokesAhead_21 n5 ?_
      obtain ⟨u6, hf6, hf⟩ := xb hf
      refine x_ran (x_runSN (rest := [.long p0, .int ((p2 / p1) * u4)]) (As := [.int (xrem p2 p1)]) hC mn_RX2_78 md_X6_firstBits (c_X6_firstBits (X := X) hf6) hH [] rfl (by decide) hl.1 rfl rfl (Nat.le_of_ble_eq_true rfl) dX2_strokesAhead_22 ⟨Nat.le_of_ble_eq_true rfl, Nat.le_of_ble_eq_true rfl⟩ ⟨rfl, rfl⟩ ⟨Nat.le_refl _, Nat.le_refl _⟩) rfl (fun hz6 => ?_)
      refine lv_land hx hb dX2_strokesAhead_25 ?_
      obtain ⟨u7, hf7, hf⟩ := xb hf
      refine x_ran (x_runS (rest := [.int ((p2 / p1) * u4)]) (As := [.long (p0 &&& u6)]) hC mw_304 md_J13_bitCount_95d88 (c_J13_bitCount_95d88 (X := X) hf7) hH [] rfl (by decide) hl.1 rfl rfl (Nat.le_of_ble_eq_true rfl) dX2_strokesAhead_26 ⟨Nat.le_of_ble_eq_true rfl, Nat.le_of_ble_eq_true rfl⟩ ⟨rfl, rfl⟩ ⟨Nat.le_refl _, Nat.le_refl _⟩) rfl (fun hz7 => ?_)
      refine lv_iadd hx hb dX2_strokesAhead_29 ?_
      exact x_reti hC hr hlk trivial hf dX2_strokesAhead_30
    · have hf := xe c2 hf
      refine lv_iconst (v := (0 : Int32)) hx hb dX2_strokesAhead_8 (by decide) ?_
      exact x_reti hC hr hlk trivial hf dX2_strokesAhead_9
def f_X6_isMultiple (p0 : Int32) (p1 : Int32) : Option (Int32) :=
  if p1 ≤ 0 then
    some (0 : Int32)
  else
  if p1 = 0 then none else
  if (xrem p0 p1) = 0 then
    some (1 : Int32)
  else
  some (0 : Int32)
set_option maxHeartbeats 4000000 in
set_option maxRecDepth 100000 in
theorem c_X6_isMultiple {l : Launch} {X : xG} {p0 : Int32} {p1 : Int32} {u : Int32} (hf : f_X6_isMultiple p0 p1 = some u) : Met l yX6_isMultiple (xw yX6_isMultiple cX6_isMultiple 2 (some .boolean)) (xrm 0 0) (xPc [.int p0, .int p1] X []) (xQ (u = 0 ∨ u = 1) (.returned (some (.int u)))) 0 0 xNo := by
  refine xMet (n := 2) md_X6_isMultiple.1 (Nat.le_of_ble_eq_true rfl) ?_
  intro p e s m args below meth c ls A hC hr hlk hH hl
  have hl : lv_has ls 2 [(0, .int p0), (1, .int p1)] := hl
  have hx := hC.1
  have hb := hC.2.1
  refine lv_iload_n hx hb dX6_isMultiple_0 rfl (lv_at hl 1 rfl) ?_
  refine lv_if_le (tgt := 14) hx hb dX6_isMultiple_1 (by decide) (fun c1 => ?_) (fun c1 => ?_)
  · have hf := xt c1 hf
    refine lv_iconst (v := (0 : Int32)) hx hb dX6_isMultiple_14 (by decide) ?_
    exact x_retz hC hr hlk (Or.inl rfl) hf dX6_isMultiple_15
  · have hf := xe c1 hf
    refine lv_iload_n hx hb dX6_isMultiple_4 rfl (lv_at hl 0 rfl) ?_
    refine lv_iload_n hx hb dX6_isMultiple_5 rfl (lv_at hl 1 rfl) ?_
    obtain ⟨n2, hf⟩ := xok hf
    refine x_irem hx hb dX6_isMultiple_6 n2 ?_
    refine lv_if_ne (tgt := 14) hx hb dX6_isMultiple_7 (by decide) (fun c3 => ?_) (fun c3 => ?_)
    · have hf := xe c3 hf
      refine lv_iconst (v := (0 : Int32)) hx hb dX6_isMultiple_14 (by decide) ?_
      exact x_retz hC hr hlk (Or.inl rfl) hf dX6_isMultiple_15
    · have hf := xt c3 hf
      refine lv_iconst (v := (1 : Int32)) hx hb dX6_isMultiple_10 (by decide) ?_
      refine lv_goto (tgt := 15) hx hb dX6_isMultiple_11 (by decide) ?_
      exact x_retz hC hr hlk (Or.inr rfl) hf dX6_isMultiple_15
def f_X2_strikesAt (v_count : Int32) (v_kinds : (Nat → Int32)) (v_tunes : (Nat → Int32)) (p1 : Int32) (p2 : Int64) (p3 : Int32) (p4 : Int32) : Option (Int32) :=
  (f_X2_isThere v_count p1).bind fun u1 =>
  if u1 = 0 then
    some (0 : Int32)
  else
  (f_X2_kindOf v_kinds p1).bind fun u3 =>
  (f_X2_tuneOf v_tunes p1).bind fun u4 =>
  if u3 = (1 : Int32) then
    (f_X2_stepsLookedAhead u3 u4).bind fun u6 =>
    (f_X2_isStrokeAt p2 p3 (p4 - u6)).bind fun u7 =>
    some u7
  else
  if u3 = (2 : Int32) then
    (f_X2_areGaps p2 p3 (p4 - u4) p4).bind fun u9 =>
    some u9
  else
  if u3 = (3 : Int32) then
    (f_X2_stepsLookedAhead u3 u4).bind fun u11 =>
    (f_X2_isStrokeAt p2 p3 (p4 - u11)).bind fun u12 =>
    some u12
  else
  if u3 = (4 : Int32) then
    (f_X2_isGapAt p2 p3 p4).bind fun u14 =>
    if u14 = 0 then
      some (0 : Int32)
    else
    (f_X2_strokesAhead p2 p3 p4).bind fun u16 =>
    (f_X6_isMultiple u16 (u4 + (1 : Int32))).bind fun u17 =>
    if u17 = 0 then
      some (0 : Int32)
    else
    some (1 : Int32)
  else
  if u3 = (5 : Int32) then
    (f_X6_isMultiple p4 (u4 + (2 : Int32))).bind fun u20 =>
    some u20
  else
  (f_X2_isGapAt p2 p3 p4).bind fun u21 =>
  some u21
set_option maxHeartbeats 4000000 in
set_option maxRecDepth 100000 in
theorem c_X2_strikesAt {l : Launch} {X : xG} {h0 h1 h2 : Nat} {v_count : Int32} {v_kinds : (Nat → Int32)} {v_tunes : (Nat → Int32)} {p1 : Int32} {p2 : Int64} {p3 : Int32} {p4 : Int32} {u : Int32} (hf : f_X2_strikesAt v_count v_kinds v_tunes p1 p2 p3 p4 = some u) : Met l yX2_strikesAt (xw yX2_strikesAt cX2_strikesAt 8 (some .boolean)) (xrm 2 47) (xPc [.ref h0, .int p1, .long p2, .int p3, .int p4] X [(h0, xO 2 [.ref h1, .ref h2, .int v_count]), (h1, xI X 6 v_kinds), (h2, xI X 6 v_tunes)]) (xQ (u = 0 ∨ u = 1) (.returned (some (.int u)))) 0 0 xNo := by
  refine xMet (n := 4) md_X2_strikesAt.1 (Nat.le_of_ble_eq_true rfl) ?_
  intro p e s m args below meth c ls A hC hr hlk hH hl
  have hl : lv_has ls 8 [(0, .ref h0), (1, .int p1), (2, .long p2), (4, .int p3), (5, .int p4)] := hl
  have hx := hC.1
  have hb := hC.2.1
  refine lv_aload_n hx hb dX2_strikesAt_0 rfl (lv_at hl 0 rfl) ?_
  refine lv_iload_n hx hb dX2_strikesAt_1 rfl (lv_at hl 1 rfl) ?_
  obtain ⟨u1, hf1, hf⟩ := xb hf
  refine x_ran (x_runV (q0 := 0) (rest := []) (As := [.int p1]) hC mw_286 md_X2_isThere (c_X2_isThere (X := X) hf1) hH [0] rfl (by decide) rfl rfl rfl hl.1 rfl rfl (Nat.le_of_ble_eq_true rfl) dX2_strikesAt_2 ⟨Nat.le_of_ble_eq_true rfl, Nat.le_of_ble_eq_true rfl⟩ ⟨rfl, rfl⟩ ⟨Nat.le_refl _, Nat.le_refl _⟩) rfl (fun hz1 => ?_)
  refine lv_if_ne (tgt := 10) hx hb dX2_strikesAt_5 (by decide) (fun c2 => ?_) (fun c2 => ?_)
  · have hf := xe c2 hf
    refine lv_aload_n hx hb dX2_strikesAt_10 rfl (lv_at hl 0 rfl) ?_
    refine lv_iload_n hx hb dX2_strikesAt_11 rfl (lv_at hl 1 rfl) ?_
    obtain ⟨u3, hf3, hf⟩ := xb hf
    refine x_ran (x_runV (q0 := 0) (rest := []) (As := [.int p1]) hC mw_287 md_X2_kindOf (c_X2_kindOf (X := X) hf3) hH [0, 1] rfl (by decide) rfl rfl rfl hl.1 rfl rfl (Nat.le_of_ble_eq_true rfl) dX2_strikesAt_12 ⟨Nat.le_of_ble_eq_true rfl, Nat.le_of_ble_eq_true rfl⟩ ⟨rfl, rfl⟩ ⟨Nat.le_refl _, Nat.le_refl _⟩) rfl (fun hz3 => ?_)
    refine lv_istore (lv' := [(6, .int u3), (0, .ref h0), (1, .int p1), (2, .long p2), (4, .int p3), (5, .int p4)]) hx hb dX2_strikesAt_15 hl (by decide) rfl (fun ls hl => ?_)
    refine lv_aload_n hx hb dX2_strikesAt_17 rfl (lv_at hl 1 rfl) ?_
    refine lv_iload_n hx hb dX2_strikesAt_18 rfl (lv_at hl 2 rfl) ?_
    obtain ⟨u4, hf4, hf⟩ := xb hf
    refine x_ran (x_runV (q0 := 0) (rest := []) (As := [.int p1]) hC mw_288 md_X2_tuneOf (c_X2_tuneOf (X := X) hf4) hH [0, 2] rfl (by decide) rfl rfl rfl hl.1 rfl rfl (Nat.le_of_ble_eq_true rfl) dX2_strikesAt_19 ⟨Nat.le_of_ble_eq_true rfl, Nat.le_of_ble_eq_true rfl⟩ ⟨rfl, rfl⟩ ⟨Nat.le_refl _, Nat.le_refl _⟩) rfl (fun hz4 => ?_)
    refine lv_istore (lv' := [(7, .int u4), (6, .int u3), (0, .ref h0), (1, .int p1), (2, .long p2), (4, .int p3), (5, .int p4)]) hx hb dX2_strikesAt_22 hl (by decide) rfl (fun ls hl => ?_)
    refine lv_iload hx hb dX2_strikesAt_24 (lv_at hl 1 rfl) ?_
    by_cases c5 : u3 = (1 : Int32)
    · have hf := xt c5 hf
      refine x_tin (k := (1 : Int32)) (tgt := 60) hx hb dX2_strikesAt_26 c5 (by decide) (by decide) ?_
      refine lv_lload_n hx hb dX2_strikesAt_60 rfl (lv_at hl 4 rfl) ?_
      refine lv_iload hx hb dX2_strikesAt_61 (lv_at hl 5 rfl) ?_
      refine lv_iload hx hb dX2_strikesAt_63 (lv_at hl 6 rfl) ?_
      refine lv_iload hx hb dX2_strikesAt_65 (lv_at hl 1 rfl) ?_
      refine lv_iload hx hb dX2_strikesAt_67 (lv_at hl 0 rfl) ?_
      obtain ⟨u6, hf6, hf⟩ := xb hf
      refine x_ran (x_runS (rest := [.int p4, .int p3, .long p2]) (As := [.int u3, .int u4]) hC mw_289 md_X2_stepsLookedAhead (c_X2_stepsLookedAhead (X := X) hf6) hH [] rfl (by decide) hl.1 rfl rfl (Nat.le_of_ble_eq_true rfl) dX2_strikesAt_69 ⟨Nat.le_of_ble_eq_true rfl, Nat.le_of_ble_eq_true rfl⟩ ⟨rfl, rfl⟩ ⟨Nat.le_refl _, Nat.le_refl _⟩) rfl (fun hz6 => ?_)
      refine lv_isub hx hb dX2_strikesAt_72 ?_
      obtain ⟨u7, hf7, hf⟩ := xb hf
      refine x_ran (x_runS (rest := []) (As := [.long p2, .int p3, .int (p4 - u6)]) hC mw_290 md_X2_isStrokeAt (c_X2_isStrokeAt (X := X) hf7) hH [] rfl (by decide) hl.1 rfl rfl (Nat.le_of_ble_eq_true rfl) dX2_strikesAt_73 ⟨Nat.le_of_ble_eq_true rfl, Nat.le_of_ble_eq_true rfl⟩ ⟨rfl, rfl⟩ ⟨Nat.le_refl _, Nat.le_refl _⟩) rfl (fun hz7 => ?_)
      exact x_retz hC hr hlk hz7 hf dX2_strikesAt_76
    · have hf := xe c5 hf
      by_cases c8 : u3 = (2 : Int32)
      · have hf := xt c8 hf
        refine x_tin (k := (2 : Int32)) (tgt := 77) hx hb dX2_strikesAt_26 c8 (by decide) (by decide) ?_
        refine lv_lload_n hx hb dX2_strikesAt_77 rfl (lv_at hl 4 rfl) ?_
        refine lv_iload hx hb dX2_strikesAt_78 (lv_at hl 5 rfl) ?_
        refine lv_iload hx hb dX2_strikesAt_80 (lv_at hl 6 rfl) ?_
        refine lv_iload hx hb dX2_strikesAt_82 (lv_at hl 0 rfl) ?_
        refine lv_isub hx hb dX2_strikesAt_84 ?_
        refine lv_iload hx hb dX2_strikesAt_85 (lv_at hl 6 rfl) ?_
        obtain ⟨u9, hf9, hf⟩ := xb hf
        refine x_ran (x_runS (rest := []) (As := [.long p2, .int p3, .int (p4 - u4), .int p4]) hC mw_295 md_X2_areGaps (c_X2_areGaps (X := X) hf9) hH [] rfl (by decide) hl.1 rfl rfl (Nat.le_of_ble_eq_true rfl) dX2_strikesAt_87 ⟨Nat.le_of_ble_eq_true rfl, Nat.le_of_ble_eq_true rfl⟩ ⟨rfl, rfl⟩ ⟨Nat.le_refl _, Nat.le_refl _⟩) rfl (fun hz9 => ?_)
        exact x_retz hC hr hlk hz9 hf dX2_strikesAt_90
      · have hf := xe c8 hf
        by_cases c10 : u3 = (3 : Int32)
        · have hf := xt c10 hf
          refine x_tin (k := (3 : Int32)) (tgt := 60) hx hb dX2_strikesAt_26 c10 (by decide) (by decide) ?_
          refine lv_lload_n hx hb dX2_strikesAt_60 rfl (lv_at hl 4 rfl) ?_
          refine lv_iload hx hb dX2_strikesAt_61 (lv_at hl 5 rfl) ?_
          refine lv_iload hx hb dX2_strikesAt_63 (lv_at hl 6 rfl) ?_
          refine lv_iload hx hb dX2_strikesAt_65 (lv_at hl 1 rfl) ?_
          refine lv_iload hx hb dX2_strikesAt_67 (lv_at hl 0 rfl) ?_
          obtain ⟨u11, hf11, hf⟩ := xb hf
          refine x_ran (x_runS (rest := [.int p4, .int p3, .long p2]) (As := [.int u3, .int u4]) hC mw_289 md_X2_stepsLookedAhead (c_X2_stepsLookedAhead (X := X) hf11) hH [] rfl (by decide) hl.1 rfl rfl (Nat.le_of_ble_eq_true rfl) dX2_strikesAt_69 ⟨Nat.le_of_ble_eq_true rfl, Nat.le_of_ble_eq_true rfl⟩ ⟨rfl, rfl⟩ ⟨Nat.le_refl _, Nat.le_refl _⟩) rfl (fun hz11 => ?_)
          refine lv_isub hx hb dX2_strikesAt_72 ?_
          obtain ⟨u12, hf12, hf⟩ := xb hf
          refine x_ran (x_runS (rest := []) (As := [.long p2, .int p3, .int (p4 - u11)]) hC mw_290 md_X2_isStrokeAt (c_X2_isStrokeAt (X := X) hf12) hH [] rfl (by decide) hl.1 rfl rfl (Nat.le_of_ble_eq_true rfl) dX2_strikesAt_73 ⟨Nat.le_of_ble_eq_true rfl, Nat.le_of_ble_eq_true rfl⟩ ⟨rfl, rfl⟩ ⟨Nat.le_refl _, Nat.le_refl _⟩) rfl (fun hz12 => ?_)
          exact x_retz hC hr hlk hz12 hf dX2_strikesAt_76
        · have hf := xe c10 hf
          by_cases c13 : u3 = (4 : Int32)
          · have hf := xt c13 hf
            refine x_tin (k := (4 : Int32)) (tgt := 91) hx hb dX2_strikesAt_26 c13 (by decide) (by decide) ?_
            refine lv_lload_n hx hb dX2_strikesAt_91 rfl (lv_at hl 4 rfl) ?_
            refine lv_iload hx hb dX2_strikesAt_92 (lv_at hl 5 rfl) ?_
            refine lv_iload hx hb dX2_strikesAt_94 (lv_at hl 6 rfl) ?_
            obtain ⟨u14, hf14, hf⟩ := xb hf
            refine x_ran (x_runS (rest := []) (As := [.long p2, .int p3, .int p4]) hC mw_298 md_X2_isGapAt (c_X2_isGapAt (X := X) hf14) hH [] rfl (by decide) hl.1 rfl rfl (Nat.le_of_ble_eq_true rfl) dX2_strikesAt_96 ⟨Nat.le_of_ble_eq_true rfl, Nat.le_of_ble_eq_true rfl⟩ ⟨rfl, rfl⟩ ⟨Nat.le_refl _, Nat.le_refl _⟩) rfl (fun hz14 => ?_)
            refine lv_if_eq (tgt := 124) hx hb dX2_strikesAt_99 (by decide) (fun c15 => ?_) (fun c15 => ?_)
            · have hf := xt c15 hf
              refine lv_iconst (v := (0 : Int32)) hx hb dX2_strikesAt_124 (by decide) ?_
              exact x_retz hC hr hlk (Or.inl rfl) hf dX2_strikesAt_125
            · have hf := xe c15 hf
              refine lv_lload_n hx hb dX2_strikesAt_102 rfl (lv_at hl 4 rfl) ?_
              refine lv_iload hx hb dX2_strikesAt_103 (lv_at hl 5 rfl) ?_
              refine lv_iload hx hb dX2_strikesAt_105 (lv_at hl 6 rfl) ?_
              obtain ⟨u16, hf16, hf⟩ := xb hf
              refine x_ran (x_runS (rest := []) (As := [.long p2, .int p3, .int p4]) hC mw_301 md_X2_strokesAhead (c_X2_strokesAhead (X := X) hf16) hH [] rfl (by decide) hl.1 rfl rfl (Nat.le_of_ble_eq_true rfl) dX2_strikesAt_107 ⟨Nat.le_of_ble_eq_true rfl, Nat.le_of_ble_eq_true rfl⟩ ⟨rfl, rfl⟩ ⟨Nat.le_refl _, Nat.le_refl _⟩) rfl (fun hz16 => ?_)
              refine lv_iload hx hb dX2_strikesAt_110 (lv_at hl 0 rfl) ?_
              refine lv_iconst (v := (1 : Int32)) hx hb dX2_strikesAt_112 (by decide) ?_
              refine lv_iadd hx hb dX2_strikesAt_113 ?_
              obtain ⟨u17, hf17, hf⟩ := xb hf
              refine x_ran (x_runSN (rest := []) (As := [.int u16, .int (u4 + (1 : Int32))]) hC mn_RX2_64 md_X6_isMultiple (c_X6_isMultiple (X := X) hf17) hH [] rfl (by decide) hl.1 rfl rfl (Nat.le_of_ble_eq_true rfl) dX2_strikesAt_114 ⟨Nat.le_of_ble_eq_true rfl, Nat.le_of_ble_eq_true rfl⟩ ⟨rfl, rfl⟩ ⟨Nat.le_refl _, Nat.le_refl _⟩) rfl (fun hz17 => ?_)
              refine lv_if_eq (tgt := 124) hx hb dX2_strikesAt_117 (by decide) (fun c18 => ?_) (fun c18 => ?_)
              · have hf := xt c18 hf
                refine lv_iconst (v := (0 : Int32)) hx hb dX2_strikesAt_124 (by decide) ?_
                exact x_retz hC hr hlk (Or.inl rfl) hf dX2_strikesAt_125
              · have hf := xe c18 hf
                refine lv_iconst (v := (1 : Int32)) hx hb dX2_strikesAt_120 (by decide) ?_
                refine lv_goto (tgt := 125) hx hb dX2_strikesAt_121 (by decide) ?_
                exact x_retz hC hr hlk (Or.inr rfl) hf dX2_strikesAt_125
          · have hf := xe c13 hf
            by_cases c19 : u3 = (5 : Int32)
            · have hf := xt c19 hf
              refine x_tin (k := (5 : Int32)) (tgt := 126) hx hb dX2_strikesAt_26 c19 (by decide) (by decide) ?_
              refine lv_iload hx hb dX2_strikesAt_126 (lv_at hl 6 rfl) ?_
              refine lv_iload hx hb dX2_strikesAt_128 (lv_at hl 0 rfl) ?_
              refine lv_iconst (v := (2 : Int32)) hx hb dX2_strikesAt_130 (by decide) ?_
              refine lv_iadd hx hb dX2_strikesAt_131 ?_
              obtain ⟨u20, hf20, hf⟩ := xb hf
              refine x_ran (x_runSN (rest := []) (As := [.int p4, .int (u4 + (2 : Int32))]) hC mn_RX2_64 md_X6_isMultiple (c_X6_isMultiple (X := X) hf20) hH [] rfl (by decide) hl.1 rfl rfl (Nat.le_of_ble_eq_true rfl) dX2_strikesAt_132 ⟨Nat.le_of_ble_eq_true rfl, Nat.le_of_ble_eq_true rfl⟩ ⟨rfl, rfl⟩ ⟨Nat.le_refl _, Nat.le_refl _⟩) rfl (fun hz20 => ?_)
              exact x_retz hC hr hlk hz20 hf dX2_strikesAt_135
            · have hf := xe c19 hf
              refine x_tout (tgt := 136) hx hb dX2_strikesAt_26 (fun j hj => match j, hj with | 0, _ => c5 | 1, _ => c8 | 2, _ => c10 | 3, _ => c13 | 4, _ => c19 | _ + 5, hj => absurd hj (by simp; omega)) (by decide) ?_
              refine lv_lload_n hx hb dX2_strikesAt_136 rfl (lv_at hl 4 rfl) ?_
              refine lv_iload hx hb dX2_strikesAt_137 (lv_at hl 5 rfl) ?_
              refine lv_iload hx hb dX2_strikesAt_139 (lv_at hl 6 rfl) ?_
              obtain ⟨u21, hf21, hf⟩ := xb hf
              refine x_ran (x_runS (rest := []) (As := [.long p2, .int p3, .int p4]) hC mw_298 md_X2_isGapAt (c_X2_isGapAt (X := X) hf21) hH [] rfl (by decide) hl.1 rfl rfl (Nat.le_of_ble_eq_true rfl) dX2_strikesAt_141 ⟨Nat.le_of_ble_eq_true rfl, Nat.le_of_ble_eq_true rfl⟩ ⟨rfl, rfl⟩ ⟨Nat.le_refl _, Nat.le_refl _⟩) rfl (fun hz21 => ?_)
              exact x_retz hC hr hlk hz21 hf dX2_strikesAt_144
  · have hf := xt c2 hf
    refine lv_iconst (v := (0 : Int32)) hx hb dX2_strikesAt_8 (by decide) ?_
    exact x_retz hC hr hlk (Or.inl rfl) hf dX2_strikesAt_9
def f_X2_struck_L6 (v_count : Int32) (v_kinds : (Nat → Int32)) (v_tunes : (Nat → Int32)) (p1 : Int32) (p2 : Int64) (p3 : Int32) (p4 : Int32) (s6 : Int64 × Int32) : Option ((Int64) ⊕ (Int64 × Int32)) :=
  if p3 ≤ s6.2 then
    some (.inl s6.1)
  else
  (f_X2_strikesAt v_count v_kinds v_tunes p1 p2 p3 (p4 + s6.2)).bind fun u2 =>
  if u2 = 0 then
    some (.inr (s6.1, s6.2 + (1 : Int32)))
  else
  some (.inr (s6.1 ||| (xlshl (1 : Int64) s6.2), s6.2 + (1 : Int32)))
def f_X2_struck (v_count : Int32) (v_kinds : (Nat → Int32)) (v_tunes : (Nat → Int32)) (p1 : Int32) (p2 : Int64) (p3 : Int32) (p4 : Int32) : Option (Int64) :=
  xloop (f_X2_struck_L6 v_count v_kinds v_tunes p1 p2 p3 p4) xN ((0 : Int64), (0 : Int32))
set_option maxHeartbeats 4000000 in
set_option maxRecDepth 100000 in
theorem c_X2_struck {l : Launch} {X : xG} {h0 h1 h2 : Nat} {v_count : Int32} {v_kinds : (Nat → Int32)} {v_tunes : (Nat → Int32)} {p1 : Int32} {p2 : Int64} {p3 : Int32} {p4 : Int32} {u : Int64} (hf : f_X2_struck v_count v_kinds v_tunes p1 p2 p3 p4 = some u) : Met l yX2_struck (xw yX2_struck cX2_struck 9 (some .long)) (xrm 3 74) (xPc [.ref h0, .int p1, .long p2, .int p3, .int p4] X [(h0, xO 2 [.ref h1, .ref h2, .int v_count]), (h1, xI X 6 v_kinds), (h2, xI X 6 v_tunes)]) (xQ True (.returned (some (.long u)))) 0 0 xNo := by
  refine xMet (n := 4) md_X2_struck.1 (Nat.le_of_ble_eq_true rfl) ?_
  intro p e s m args below meth c ls A hC hr hlk hH hl
  have hl : lv_has ls 9 [(0, .ref h0), (1, .int p1), (2, .long p2), (4, .int p3), (5, .int p4)] := hl
  have hx := hC.1
  have hb := hC.2.1
  have L6 : ∀ (n : Nat) (s6 : Int64 × Int32), xloop (f_X2_struck_L6 v_count v_kinds v_tunes p1 p2 p3 p4) n s6 = some u → ∀ (ls : Array Slot), lv_has ls 9 [(0, .ref h0), (1, .int p1), (2, .long p2), (4, .int p3), (5, .int p4), (6, .long s6.1), (8, .int s6.2)] → W p l e (xrm 3 74) s m args below meth c s.heap [] 0 0 (MQ below (xQ True (.returned (some (.long u)))) args s 0 0 xNo) (F0 m 6 ls []) := by
    intro  n
    induction n with
    | zero => intro s6 hf; exact xloop_0 hf
    | succ n ih6 =>
      intro s6 hf ls hl
      obtain ⟨o6, hf, ho6⟩ := xloop_s hf
      refine lv_iload hx hb dX2_struck_6 (lv_at hl 6 rfl) ?_
      refine lv_iload hx hb dX2_struck_8 (lv_at hl 3 rfl) ?_
      refine lv_icmp_ge (tgt := 44) hx hb dX2_struck_10 (by decide) (fun c1 => ?_) (fun c1 => ?_)
      · have hf := xt c1 hf
        refine lv_lload hx hb dX2_struck_44 (lv_at hl 5 rfl) ?_
        have hf := xo_ret hf ho6
        exact x_retl hC hr hlk trivial hf dX2_struck_46
      · have hf := xe c1 hf
        refine lv_aload_n hx hb dX2_struck_13 rfl (lv_at hl 0 rfl) ?_
        refine lv_iload_n hx hb dX2_struck_14 rfl (lv_at hl 1 rfl) ?_
        refine lv_lload_n hx hb dX2_struck_15 rfl (lv_at hl 2 rfl) ?_
        refine lv_iload hx hb dX2_struck_16 (lv_at hl 3 rfl) ?_
        refine lv_iload hx hb dX2_struck_18 (lv_at hl 4 rfl) ?_
        refine lv_iload hx hb dX2_struck_20 (lv_at hl 6 rfl) ?_
        refine lv_iadd hx hb dX2_struck_22 ?_
        obtain ⟨u2, hf2, hf⟩ := xb hf
        refine x_ran (x_runV (q0 := 0) (rest := []) (As := [.int p1, .long p2, .int p3, .int (p4 + s6.2)]) hC mw_282 md_X2_strikesAt (c_X2_strikesAt (X := X) hf2) hH [0, 1, 2] rfl (by decide) rfl rfl rfl hl.1 rfl rfl (Nat.le_of_ble_eq_true rfl) dX2_struck_23 ⟨Nat.le_of_ble_eq_true rfl, Nat.le_of_ble_eq_true rfl⟩ ⟨rfl, rfl⟩ ⟨Nat.le_refl _, Nat.le_refl _⟩) rfl (fun hz2 => ?_)
        refine lv_if_eq (tgt := 38) hx hb dX2_struck_26 (by decide) (fun c3 => ?_) (fun c3 => ?_)
        · have hf := xt c3 hf
          refine lv_iinc (v := s6.2 + (1 : Int32)) (lv' := [(8, .int (s6.2 + (1 : Int32))), (0, .ref h0), (1, .int p1), (2, .long p2), (4, .int p3), (5, .int p4), (6, .long s6.1)]) hx hb dX2_struck_38 hl (k := 6) rfl rfl (by decide) rfl (fun ls hl => ?_)
          refine lv_goto (tgt := 6) hx hb dX2_struck_41 (by decide) ?_
          have hf := xo_go hf ho6
          exact ih6 (s6.1, s6.2 + (1 : Int32)) hf ls (lv_sub hl [1, 2, 3, 4, 5, 6, 0] rfl)
        · have hf := xe c3 hf
          refine lv_lload hx hb dX2_struck_29 (lv_at hl 5 rfl) ?_
          refine lv_lconst (v := (1 : Int64)) hx hb dX2_struck_31 (by decide) ?_
          refine lv_iload hx hb dX2_struck_32 (lv_at hl 6 rfl) ?_
          refine x_lshl hx hb dX2_struck_34 ?_
          refine lv_lor hx hb dX2_struck_35 ?_
          refine lv_lstore (lv' := [(6, .long (s6.1 ||| (xlshl (1 : Int64) s6.2))), (0, .ref h0), (1, .int p1), (2, .long p2), (4, .int p3), (5, .int p4), (8, .int s6.2)]) hx hb dX2_struck_36 hl (by decide) rfl (fun ls hl => ?_)
          refine lv_iinc (v := s6.2 + (1 : Int32)) (lv' := [(8, .int (s6.2 + (1 : Int32))), (6, .long (s6.1 ||| (xlshl (1 : Int64) s6.2))), (0, .ref h0), (1, .int p1), (2, .long p2), (4, .int p3), (5, .int p4)]) hx hb dX2_struck_38 hl (k := 6) rfl rfl (by decide) rfl (fun ls hl => ?_)
          refine lv_goto (tgt := 6) hx hb dX2_struck_41 (by decide) ?_
          have hf := xo_go hf ho6
          exact ih6 (s6.1 ||| (xlshl (1 : Int64) s6.2), s6.2 + (1 : Int32)) hf ls (lv_sub hl [2, 3, 4, 5, 6, 1, 0] rfl)
  refine lv_lconst (v := (0 : Int64)) hx hb dX2_struck_0 (by decide) ?_
  refine lv_lstore (lv' := [(6, .long (0 : Int64)), (0, .ref h0), (1, .int p1), (2, .long p2), (4, .int p3), (5, .int p4)]) hx hb dX2_struck_1 hl (by decide) rfl (fun ls hl => ?_)
  refine lv_iconst (v := (0 : Int32)) hx hb dX2_struck_3 (by decide) ?_
  refine lv_istore (lv' := [(8, .int (0 : Int32)), (6, .long (0 : Int64)), (0, .ref h0), (1, .int p1), (2, .long p2), (4, .int p3), (5, .int p4)]) hx hb dX2_struck_4 hl (by decide) rfl (fun ls hl => ?_)
  exact L6 xN ((0 : Int64), (0 : Int32)) hf ls (lv_sub hl [2, 3, 4, 5, 6, 1, 0] rfl)
def f_X6_refuse (v_refusals : (Nat → Int32)) (p1 : Int32) : Option (Int32 × (Nat → Int32)) :=
  if ((-2 : Int32) - p1) < 0 then
    some (p1, v_refusals)
  else
  if (5 : Int32) ≤ ((-2 : Int32) - p1) then
    some (p1, v_refusals)
  else
  if xout ((-2 : Int32) - p1) 5 then none else
  if xout ((-2 : Int32) - p1) 5 then none else
  some (p1, upd v_refusals (xat ((-2 : Int32) - p1)) ((v_refusals (xat ((-2 : Int32) - p1))) + (1 : Int32)))
set_option maxHeartbeats 4000000 in
set_option maxRecDepth 100000 in
theorem c_X6_refuse {l : Launch} {X : xG} {h0 h1 g0 g1 g2 g3 : Nat} {v_isKept : Int32} {v_refusals : (Nat → Int32)} {p1 : Int32} {u : Int32 × (Nat → Int32)} (hf : f_X6_refuse v_refusals p1 = some u) : Met l yX6_refuse (xw yX6_refuse cX6_refuse 3 (some .int)) (xrm 0 0) (xPc [.ref h0, .int p1] X [(h0, xO 6 [.ref g0, .ref g1, .ref g2, .ref g3, .ref h1, .int v_isKept]), (h1, xI X 5 v_refusals)]) (xQw True (.returned (some (.int u.1))) X [(h0, xO 6 [.ref g0, .ref g1, .ref g2, .ref g3, .ref h1, .int v_isKept]), (h1, xI X 5 u.2)] (xAs [(h0, xO 6 [.ref g0, .ref g1, .ref g2, .ref g3, .ref h1, .int v_isKept]), (h1, xI X 5 v_refusals)])) 0 0 (xAs [(h0, xO 6 [.ref g0, .ref g1, .ref g2, .ref g3, .ref h1, .int v_isKept]), (h1, xI X 5 v_refusals)]) := by
  refine xMetw (Qc := fun A => xQw True (.returned (some (.int u.1))) X [(h0, xO 6 [.ref g0, .ref g1, .ref g2, .ref g3, .ref h1, .int v_isKept]), (h1, xI X 5 u.2)] A) (n := 1) md_X6_refuse.1 (Nat.le_of_ble_eq_true rfl) ?_
  intro p e s m args below meth c ls A hC hr hlk hH hl
  have hl : lv_has ls 3 [(0, .ref h0), (1, .int p1)] := hl
  have hx := hC.1
  have hb := hC.2.1
  refine lv_bipush (v := (-2 : Int32)) hx hb dX6_refuse_0 (by decide) ?_
  refine lv_iload_n hx hb dX6_refuse_2 rfl (lv_at hl 1 rfl) ?_
  refine lv_isub hx hb dX6_refuse_3 ?_
  refine lv_istore_n (lv' := [(2, .int ((-2 : Int32) - p1)), (0, .ref h0), (1, .int p1)]) hx hb dX6_refuse_4 rfl hl (by decide) rfl (fun ls hl => ?_)
  refine lv_iload_n hx hb dX6_refuse_5 rfl (lv_at hl 0 rfl) ?_
  refine lv_if_lt (tgt := 28) hx hb dX6_refuse_6 (by decide) (fun c1 => ?_) (fun c1 => ?_)
  · have hf := xt c1 hf
    refine lv_iload_n hx hb dX6_refuse_28 rfl (lv_at hl 2 rfl) ?_
    exact x_retiw (φ := fun _ => True) (f := fun u : Int32 × (Nat → Int32) => u.1) (wf := fun u : Int32 × (Nat → Int32) => [(h0, xO 6 [.ref g0, .ref g1, .ref g2, .ref g3, .ref h1, .int v_isKept]), (h1, xI X 5 u.2)]) hC hr hlk trivial hf hH rfl rfl dX6_refuse_29
  · have hf := xe c1 hf
    refine lv_iload_n hx hb dX6_refuse_9 rfl (lv_at hl 0 rfl) ?_
    refine lv_aload_n hx hb dX6_refuse_10 rfl (lv_at hl 1 rfl) ?_
    refine x_get hC fd_RX6_33 hH.1 0 rfl rfl dX6_refuse_11 ?_
    refine x_alen hC hH.1 1 rfl (v := (5 : Int32)) (by decide) dX6_refuse_14 ?_
    refine lv_icmp_ge (tgt := 28) hx hb dX6_refuse_15 (by decide) (fun c2 => ?_) (fun c2 => ?_)
    · have hf := xt c2 hf
      refine lv_iload_n hx hb dX6_refuse_28 rfl (lv_at hl 2 rfl) ?_
      exact x_retiw (φ := fun _ => True) (f := fun u : Int32 × (Nat → Int32) => u.1) (wf := fun u : Int32 × (Nat → Int32) => [(h0, xO 6 [.ref g0, .ref g1, .ref g2, .ref g3, .ref h1, .int v_isKept]), (h1, xI X 5 u.2)]) hC hr hlk trivial hf hH rfl rfl dX6_refuse_29
    · have hf := xe c2 hf
      refine lv_aload_n hx hb dX6_refuse_18 rfl (lv_at hl 1 rfl) ?_
      refine x_get hC fd_RX6_33 hH.1 0 rfl rfl dX6_refuse_19 ?_
      refine lv_iload_n hx hb dX6_refuse_22 rfl (lv_at hl 0 rfl) ?_
      refine lv_dup2_11 hx hb dX6_refuse_23 rfl rfl ?_
      obtain ⟨n3, hf⟩ := xok hf
      refine x_iald hC hH.1 1 rfl n3 dX6_refuse_24 ?_
      refine lv_iconst (v := (1 : Int32)) hx hb dX6_refuse_25 (by decide) ?_
      refine lv_iadd hx hb dX6_refuse_26 ?_
      obtain ⟨n4, hf⟩ := xok hf
      refine x_iast (ws' := [(h0, xO 6 [.ref g0, .ref g1, .ref g2, .ref g3, .ref h1, .int v_isKept]), (h1, xI X 5 (upd v_refusals (xat ((-2 : Int32) - p1)) ((v_refusals (xat ((-2 : Int32) - p1))) + (1 : Int32))))]) hC hH 1 rfl n4 dX6_refuse_27 rfl (fun H locs hH => ?_)
      refine lv_iload_n hx hb dX6_refuse_28 rfl (lv_at hl 2 rfl) ?_
      exact x_retiw (φ := fun _ => True) (f := fun u : Int32 × (Nat → Int32) => u.1) (wf := fun u : Int32 × (Nat → Int32) => [(h0, xO 6 [.ref g0, .ref g1, .ref g2, .ref g3, .ref h1, .int v_isKept]), (h1, xI X 5 u.2)]) hC hr hlk trivial hf hH rfl rfl dX6_refuse_29
def f_X6_use (v_now_inForce : Int32) (v_now_laws_count : Int32) (v_refusals : (Nat → Int32)) (p1 : Int32) : Option (Int32 × Int32 × (Nat → Int32)) :=
  (f_X2_isThere v_now_laws_count p1).bind fun u1 =>
  if u1 = 0 then
    (f_X6_refuse v_refusals (-2 : Int32)).bind fun u3 =>
    some (u3.1, v_now_inForce, u3.2)
  else
  some (v_now_inForce, p1, v_refusals)
set_option maxHeartbeats 4000000 in
set_option maxRecDepth 100000 in
theorem c_X6_use {l : Launch} {X : xG} {h0 h1 h2 h3 g0 g1 g2 g3 g4 g5 : Nat} {v_isKept : Int32} {v_now_inForce : Int32} {v_now_depth : Int32} {v_now_miss : Int32} {v_now_ring : Int64} {v_now_steps : Int32} {v_now_seed : Int32} {v_now_laws_count : Int32} {v_refusals : (Nat → Int32)} {p1 : Int32} {u : Int32 × Int32 × (Nat → Int32)} (hf : f_X6_use v_now_inForce v_now_laws_count v_refusals p1 = some u) : Met l yX6_use (xw yX6_use cX6_use 3 (some .int)) (xrm 2 43) (xPc [.ref h0, .int p1] X [(h0, xO 6 [.ref h1, .ref g0, .ref g1, .ref g2, .ref h3, .int v_isKept]), (h1, xO 0 [.ref h2, .ref g3, .int v_now_inForce, .int v_now_depth, .int v_now_miss, .long v_now_ring, .int v_now_steps, .int v_now_seed]), (h2, xO 2 [.ref g4, .ref g5, .int v_now_laws_count]), (h3, xI X 5 v_refusals)]) (xQw True (.returned (some (.int u.1))) X [(h0, xO 6 [.ref h1, .ref g0, .ref g1, .ref g2, .ref h3, .int v_isKept]), (h1, xO 0 [.ref h2, .ref g3, .int u.2.1, .int v_now_depth, .int v_now_miss, .long v_now_ring, .int v_now_steps, .int v_now_seed]), (h2, xO 2 [.ref g4, .ref g5, .int v_now_laws_count]), (h3, xI X 5 u.2.2)] (xAs [(h0, xO 6 [.ref h1, .ref g0, .ref g1, .ref g2, .ref h3, .int v_isKept]), (h1, xO 0 [.ref h2, .ref g3, .int v_now_inForce, .int v_now_depth, .int v_now_miss, .long v_now_ring, .int v_now_steps, .int v_now_seed]), (h2, xO 2 [.ref g4, .ref g5, .int v_now_laws_count]), (h3, xI X 5 v_refusals)])) 0 0 (xAs [(h0, xO 6 [.ref h1, .ref g0, .ref g1, .ref g2, .ref h3, .int v_isKept]), (h1, xO 0 [.ref h2, .ref g3, .int v_now_inForce, .int v_now_depth, .int v_now_miss, .long v_now_ring, .int v_now_steps, .int v_now_seed]), (h2, xO 2 [.ref g4, .ref g5, .int v_now_laws_count]), (h3, xI X 5 v_refusals)]) := by
  refine xMetw (Qc := fun A => xQw True (.returned (some (.int u.1))) X [(h0, xO 6 [.ref h1, .ref g0, .ref g1, .ref g2, .ref h3, .int v_isKept]), (h1, xO 0 [.ref h2, .ref g3, .int u.2.1, .int v_now_depth, .int v_now_miss, .long v_now_ring, .int v_now_steps, .int v_now_seed]), (h2, xO 2 [.ref g4, .ref g5, .int v_now_laws_count]), (h3, xI X 5 u.2.2)] A) (n := 1) md_X6_use.1 (Nat.le_of_ble_eq_true rfl) ?_
  intro p e s m args below meth c ls A hC hr hlk hH hl
  have hl : lv_has ls 3 [(0, .ref h0), (1, .int p1)] := hl
  have hx := hC.1
  have hb := hC.2.1
  refine lv_aload_n hx hb dX6_use_0 rfl (lv_at hl 0 rfl) ?_
  refine x_get hC fd_RX6_10 hH.1 0 rfl rfl dX6_use_1 ?_
  refine x_getN hC fd_RX6_81 hH.1 1 rfl rfl dX6_use_4 ?_
  refine lv_iload_n hx hb dX6_use_7 rfl (lv_at hl 1 rfl) ?_
  obtain ⟨u1, hf1, hf⟩ := xb hf
  refine x_ran (x_runV (q0 := 0) (rest := []) (As := [.int p1]) hC mw_226 md_X2_isThere (c_X2_isThere (X := X) hf1) hH [2] rfl (by decide) rfl rfl rfl hl.1 rfl rfl (Nat.le_of_ble_eq_true rfl) dX6_use_8 ⟨Nat.le_of_ble_eq_true rfl, Nat.le_of_ble_eq_true rfl⟩ ⟨rfl, rfl⟩ ⟨Nat.le_refl _, Nat.le_refl _⟩) rfl (fun hz1 => ?_)
  refine lv_if_ne (tgt := 21) hx hb dX6_use_11 (by decide) (fun c2 => ?_) (fun c2 => ?_)
  · have hf := xe c2 hf
    refine lv_aload_n hx hb dX6_use_21 rfl (lv_at hl 0 rfl) ?_
    refine x_get hC fd_RX6_10 hH.1 0 rfl rfl dX6_use_22 ?_
    refine x_getN hC fd_RX6_135 hH.1 1 rfl rfl dX6_use_25 ?_
    refine lv_istore_n (lv' := [(2, .int v_now_inForce), (0, .ref h0), (1, .int p1)]) hx hb dX6_use_28 rfl hl (by decide) rfl (fun ls hl => ?_)
    refine lv_aload_n hx hb dX6_use_29 rfl (lv_at hl 1 rfl) ?_
    refine x_get hC fd_RX6_10 hH.1 0 rfl rfl dX6_use_30 ?_
    refine lv_iload_n hx hb dX6_use_33 rfl (lv_at hl 2 rfl) ?_
    refine x_putN (ws' := [(h0, xO 6 [.ref h1, .ref g0, .ref g1, .ref g2, .ref h3, .int v_isKept]), (h1, xO 0 [.ref h2, .ref g3, .int p1, .int v_now_depth, .int v_now_miss, .long v_now_ring, .int v_now_steps, .int v_now_seed]), (h2, xO 2 [.ref g4, .ref g5, .int v_now_laws_count]), (h3, xI X 5 v_refusals)]) hC fd_RX6_135 hH 1 rfl (by decide) rfl rfl dX6_use_34 rfl (fun H locs hH => ?_)
    refine lv_iload_n hx hb dX6_use_37 rfl (lv_at hl 0 rfl) ?_
    exact x_retiw (φ := fun _ => True) (f := fun u : Int32 × Int32 × (Nat → Int32) => u.1) (wf := fun u : Int32 × Int32 × (Nat → Int32) => [(h0, xO 6 [.ref h1, .ref g0, .ref g1, .ref g2, .ref h3, .int v_isKept]), (h1, xO 0 [.ref h2, .ref g3, .int u.2.1, .int v_now_depth, .int v_now_miss, .long v_now_ring, .int v_now_steps, .int v_now_seed]), (h2, xO 2 [.ref g4, .ref g5, .int v_now_laws_count]), (h3, xI X 5 u.2.2)]) hC hr hlk trivial hf hH rfl rfl dX6_use_38
  · have hf := xt c2 hf
    refine lv_aload_n hx hb dX6_use_14 rfl (lv_at hl 0 rfl) ?_
    refine lv_bipush (v := (-2 : Int32)) hx hb dX6_use_15 (by decide) ?_
    obtain ⟨u3, hf3, hf⟩ := xb hf
    refine x_ranw (ws' := [(h0, xO 6 [.ref h1, .ref g0, .ref g1, .ref g2, .ref h3, .int v_isKept]), (h1, xO 0 [.ref h2, .ref g3, .int v_now_inForce, .int v_now_depth, .int v_now_miss, .long v_now_ring, .int v_now_steps, .int v_now_seed]), (h2, xO 2 [.ref g4, .ref g5, .int v_now_laws_count]), (h3, xI X 5 u3.2)]) (x_runV (q0 := 0) (rest := []) (As := [.int (-2 : Int32)]) hC mw_100 md_X6_refuse (c_X6_refuse (X := X) hf3) hH [0, 3] rfl (by decide) rfl rfl rfl hl.1 rfl rfl (Nat.le_of_ble_eq_true rfl) dX6_use_17 ⟨Nat.le_of_ble_eq_true rfl, Nat.le_of_ble_eq_true rfl⟩ ⟨rfl, rfl⟩ ⟨Nat.le_refl _, Nat.le_refl _⟩) hH [0, 3] rfl rfl rfl rfl rfl (fun hz3 H locs hH => ?_)
    exact x_retiw (φ := fun _ => True) (f := fun u : Int32 × Int32 × (Nat → Int32) => u.1) (wf := fun u : Int32 × Int32 × (Nat → Int32) => [(h0, xO 6 [.ref h1, .ref g0, .ref g1, .ref g2, .ref h3, .int v_isKept]), (h1, xO 0 [.ref h2, .ref g3, .int u.2.1, .int v_now_depth, .int v_now_miss, .long v_now_ring, .int v_now_steps, .int v_now_seed]), (h2, xO 2 [.ref g4, .ref g5, .int v_now_laws_count]), (h3, xI X 5 u.2.2)]) hC hr hlk trivial hf hH rfl rfl dX6_use_20
