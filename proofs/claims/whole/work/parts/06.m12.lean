def f_X7_plan (v_laws : Int32) (v_inForce : Int32) (v_kind : (Nat → Int32)) (v_own : (Nat → Int32)) (v_refusals : (Nat → Int32)) (p1 : Int32) (p2 : Int32) : Option (Int32 × (Nat → Int32)) :=
  (f_X7_isPlan p1 p2).bind fun u1 =>
  if u1 = 0 then
    (f_X7_no v_refusals (-2 : Int32)).bind fun u6 =>
    some (u6.1, u6.2)
  else
  if v_laws = 0 then
    (f_X7_no v_refusals (-5 : Int32)).bind fun u5 =>
    some (u5.1, u5.2)
  else
  (f_X7_planBy v_kind v_own v_inForce p1 p2).bind fun u4 =>
  some (u4, v_refusals)
set_option maxHeartbeats 4000000 in
set_option maxRecDepth 100000 in
theorem c_X7_plan {l : Launch} {X : xG} {h0 h1 h2 h3 g0 g1 g2 g3 g4 g5 g6 g7 : Nat} {v_laws : Int32} {v_inForce : Int32} {v_depth : Int32} {v_miss : Int32} {v_ring : Int64} {v_size : Int32} {v_people : Int32} {v_seed : Int32} {v_taped : Int32} {v_from : Int32} {v_to : Int32} {v_token : Int32} {v_value : Int32} {v_imaged : Int32} {v_oldRing : Int64} {v_aheadRing : Int64} {v_kind : (Nat → Int32)} {v_own : (Nat → Int32)} {v_refusals : (Nat → Int32)} {p1 : Int32} {p2 : Int32} {u : Int32 × (Nat → Int32)} (hf : f_X7_plan v_laws v_inForce v_kind v_own v_refusals p1 p2 = some u) : Met l yX7_plan (xw yX7_plan cX7_plan 3 (some .int)) (xrm 5 124) (xPc [.ref h0, .int p1, .int p2] X [(h0, xO 7 [.int v_laws, .ref h1, .ref h2, .int v_inForce, .int v_depth, .int v_miss, .long v_ring, .int v_size, .int v_people, .ref g0, .int v_seed, .int v_taped, .ref g1, .int v_from, .int v_to, .int v_token, .int v_value, .ref g2, .ref g3, .ref g4, .ref h3, .int v_imaged, .ref g5, .long v_oldRing, .ref g6, .long v_aheadRing, .ref g7]), (h1, xI X 6 v_kind), (h2, xI X 6 v_own), (h3, xI X 7 v_refusals)]) (xQw True (.returned (some (.int u.1))) X [(h0, xO 7 [.int v_laws, .ref h1, .ref h2, .int v_inForce, .int v_depth, .int v_miss, .long v_ring, .int v_size, .int v_people, .ref g0, .int v_seed, .int v_taped, .ref g1, .int v_from, .int v_to, .int v_token, .int v_value, .ref g2, .ref g3, .ref g4, .ref h3, .int v_imaged, .ref g5, .long v_oldRing, .ref g6, .long v_aheadRing, .ref g7]), (h1, xI X 6 v_kind), (h2, xI X 6 v_own), (h3, xI X 7 u.2)] (xAs [(h0, xO 7 [.int v_laws, .ref h1, .ref h2, .int v_inForce, .int v_depth, .int v_miss, .long v_ring, .int v_size, .int v_people, .ref g0, .int v_seed, .int v_taped, .ref g1, .int v_from, .int v_to, .int v_token, .int v_value, .ref g2, .ref g3, .ref g4, .ref h3, .int v_imaged, .ref g5, .long v_oldRing, .ref g6, .long v_aheadRing, .ref g7]), (h1, xI X 6 v_kind), (h2, xI X 6 v_own), (h3, xI X 7 v_refusals)])) 0 0 (xAs [(h0, xO 7 [.int v_laws, .ref h1, .ref h2, .int v_inForce, .int v_depth, .int v_miss, .long v_ring, .int v_size, .int v_people, .ref g0, .int v_seed, .int v_taped, .ref g1, .int v_from, .int v_to, .int v_token, .int v_value, .ref g2, .ref g3, .ref g4, .ref h3, .int v_imaged, .ref g5, .long v_oldRing, .ref g6, .long v_aheadRing, .ref g7]), (h1, xI X 6 v_kind), (h2, xI X 6 v_own), (h3, xI X 7 v_refusals)]) := by
  refine xMetw (Qc := fun A => xQw True (.returned (some (.int u.1))) X [(h0, xO 7 [.int v_laws, .ref h1, .ref h2, .int v_inForce, .int v_depth, .int v_miss, .long v_ring, .int v_size, .int v_people, .ref g0, .int v_seed, .int v_taped, .ref g1, .int v_from, .int v_to, .int v_token, .int v_value, .ref g2, .ref g3, .ref g4, .ref h3, .int v_imaged, .ref g5, .long v_oldRing, .ref g6, .long v_aheadRing, .ref g7]), (h1, xI X 6 v_kind), (h2, xI X 6 v_own), (h3, xI X 7 u.2)] A) (n := 2) md_X7_plan.1 (Nat.le_of_ble_eq_true rfl) ?_
  intro p e s m args below meth c ls A hC hr hlk hH hl
  have hl : lv_has ls 3 [(0, .ref h0), (1, .int p1), (2, .int p2)] := hl
  have hx := hC.1
  have hb := hC.2.1
  refine lv_iload_n hx hb dX7_plan_0 rfl (lv_at hl 1 rfl) ?_
  refine lv_iload_n hx hb dX7_plan_1 rfl (lv_at hl 2 rfl) ?_
  obtain ⟨u1, hf1, hf⟩ := xb hf
  refine x_ran (x_runS (rest := []) (As := [.int p1, .int p2]) hC mw_964 md_X7_isPlan (c_X7_isPlan (X := X) hf1) hH [] rfl (by decide) hl.1 rfl rfl (Nat.le_of_ble_eq_true rfl) dX7_plan_2 ⟨Nat.le_of_ble_eq_true rfl, Nat.le_of_ble_eq_true rfl⟩ ⟨rfl, rfl⟩ ⟨Nat.le_refl _, Nat.le_refl _⟩) rfl (fun hz1 => ?_)
  refine lv_if_ne (tgt := 15) hx hb dX7_plan_5 (by decide) (fun c2 => ?_) (fun c2 => ?_)
  · have hf := xe c2 hf
    refine lv_aload_n hx hb dX7_plan_15 rfl (lv_at hl 0 rfl) ?_
    refine x_get hC fd_RX7_52 hH.1 0 rfl rfl dX7_plan_16 ?_
    refine lv_if_ne (tgt := 31) hx hb dX7_plan_19 (by decide) (fun c3 => ?_) (fun c3 => ?_)
    · have hf := xe c3 hf
      refine lv_aload_n hx hb dX7_plan_31 rfl (lv_at hl 0 rfl) ?_
      refine lv_aload_n hx hb dX7_plan_32 rfl (lv_at hl 0 rfl) ?_
      refine x_get hC fd_RX7_102 hH.1 0 rfl rfl dX7_plan_33 ?_
      refine lv_iload_n hx hb dX7_plan_36 rfl (lv_at hl 1 rfl) ?_
      refine lv_iload_n hx hb dX7_plan_37 rfl (lv_at hl 2 rfl) ?_
      obtain ⟨u4, hf4, hf⟩ := xb hf
      refine x_ran (x_runV (q0 := 0) (rest := []) (As := [.int v_inForce, .int p1, .int p2]) hC mw_967 md_X7_planBy (c_X7_planBy (X := X) hf4) hH [0, 1, 2] rfl (by decide) rfl rfl rfl hl.1 rfl rfl (Nat.le_of_ble_eq_true rfl) dX7_plan_38 ⟨Nat.le_of_ble_eq_true rfl, Nat.le_of_ble_eq_true rfl⟩ ⟨rfl, rfl⟩ ⟨Nat.le_refl _, Nat.le_refl _⟩) rfl (fun hz4 => ?_)
      exact x_retiw (φ := fun _ => True) (f := fun u : Int32 × (Nat → Int32) => u.1) (wf := fun u : Int32 × (Nat → Int32) => [(h0, xO 7 [.int v_laws, .ref h1, .ref h2, .int v_inForce, .int v_depth, .int v_miss, .long v_ring, .int v_size, .int v_people, .ref g0, .int v_seed, .int v_taped, .ref g1, .int v_from, .int v_to, .int v_token, .int v_value, .ref g2, .ref g3, .ref g4, .ref h3, .int v_imaged, .ref g5, .long v_oldRing, .ref g6, .long v_aheadRing, .ref g7]), (h1, xI X 6 v_kind), (h2, xI X 6 v_own), (h3, xI X 7 u.2)]) hC hr hlk trivial hf hH rfl rfl dX7_plan_41
    · have hf := xt c3 hf
      refine lv_aload_n hx hb dX7_plan_22 rfl (lv_at hl 0 rfl) ?_
      refine lv_bipush (v := (-5 : Int32)) hx hb dX7_plan_23 (by decide) ?_
      obtain ⟨u5, hf5, hf⟩ := xb hf
      refine x_ranw (ws' := [(h0, xO 7 [.int v_laws, .ref h1, .ref h2, .int v_inForce, .int v_depth, .int v_miss, .long v_ring, .int v_size, .int v_people, .ref g0, .int v_seed, .int v_taped, .ref g1, .int v_from, .int v_to, .int v_token, .int v_value, .ref g2, .ref g3, .ref g4, .ref h3, .int v_imaged, .ref g5, .long v_oldRing, .ref g6, .long v_aheadRing, .ref g7]), (h1, xI X 6 v_kind), (h2, xI X 6 v_own), (h3, xI X 7 u5.2)]) (x_runV (q0 := 0) (rest := []) (As := [.int (-5 : Int32)]) hC mw_143 md_X7_no (c_X7_no (X := X) hf5) hH [0, 3] rfl (by decide) rfl rfl rfl hl.1 rfl rfl (Nat.le_of_ble_eq_true rfl) dX7_plan_25 ⟨Nat.le_of_ble_eq_true rfl, Nat.le_of_ble_eq_true rfl⟩ ⟨rfl, rfl⟩ ⟨Nat.le_refl _, Nat.le_refl _⟩) hH [0, 3] rfl rfl rfl rfl rfl (fun hz5 H locs hH => ?_)
      refine lv_goto (tgt := 41) hx hb dX7_plan_28 (by decide) ?_
      exact x_retiw (φ := fun _ => True) (f := fun u : Int32 × (Nat → Int32) => u.1) (wf := fun u : Int32 × (Nat → Int32) => [(h0, xO 7 [.int v_laws, .ref h1, .ref h2, .int v_inForce, .int v_depth, .int v_miss, .long v_ring, .int v_size, .int v_people, .ref g0, .int v_seed, .int v_taped, .ref g1, .int v_from, .int v_to, .int v_token, .int v_value, .ref g2, .ref g3, .ref g4, .ref h3, .int v_imaged, .ref g5, .long v_oldRing, .ref g6, .long v_aheadRing, .ref g7]), (h1, xI X 6 v_kind), (h2, xI X 6 v_own), (h3, xI X 7 u.2)]) hC hr hlk trivial hf hH rfl rfl dX7_plan_41
  · have hf := xt c2 hf
    refine lv_aload_n hx hb dX7_plan_8 rfl (lv_at hl 0 rfl) ?_
    refine lv_bipush (v := (-2 : Int32)) hx hb dX7_plan_9 (by decide) ?_
    obtain ⟨u6, hf6, hf⟩ := xb hf
    refine x_ranw (ws' := [(h0, xO 7 [.int v_laws, .ref h1, .ref h2, .int v_inForce, .int v_depth, .int v_miss, .long v_ring, .int v_size, .int v_people, .ref g0, .int v_seed, .int v_taped, .ref g1, .int v_from, .int v_to, .int v_token, .int v_value, .ref g2, .ref g3, .ref g4, .ref h3, .int v_imaged, .ref g5, .long v_oldRing, .ref g6, .long v_aheadRing, .ref g7]), (h1, xI X 6 v_kind), (h2, xI X 6 v_own), (h3, xI X 7 u6.2)]) (x_runV (q0 := 0) (rest := []) (As := [.int (-2 : Int32)]) hC mw_143 md_X7_no (c_X7_no (X := X) hf6) hH [0, 3] rfl (by decide) rfl rfl rfl hl.1 rfl rfl (Nat.le_of_ble_eq_true rfl) dX7_plan_11 ⟨Nat.le_of_ble_eq_true rfl, Nat.le_of_ble_eq_true rfl⟩ ⟨rfl, rfl⟩ ⟨Nat.le_refl _, Nat.le_refl _⟩) hH [0, 3] rfl rfl rfl rfl rfl (fun hz6 H locs hH => ?_)
    exact x_retiw (φ := fun _ => True) (f := fun u : Int32 × (Nat → Int32) => u.1) (wf := fun u : Int32 × (Nat → Int32) => [(h0, xO 7 [.int v_laws, .ref h1, .ref h2, .int v_inForce, .int v_depth, .int v_miss, .long v_ring, .int v_size, .int v_people, .ref g0, .int v_seed, .int v_taped, .ref g1, .int v_from, .int v_to, .int v_token, .int v_value, .ref g2, .ref g3, .ref g4, .ref h3, .int v_imaged, .ref g5, .long v_oldRing, .ref g6, .long v_aheadRing, .ref g7]), (h1, xI X 6 v_kind), (h2, xI X 6 v_own), (h3, xI X 7 u.2)]) hC hr hlk trivial hf hH rfl rfl dX7_plan_14
def f_X7_fill_J59 (v_laws : Int32) (v_inForce : Int32) (v_depth : Int32) (v_kind : (Nat → Int32)) (v_own : (Nat → Int32)) (p1 : Int32) (p2 : Int32) (s34 : Int32 × Int32) : Option ((Int32 × (Nat → Int32)) ⊕ (Int32 × Int32)) :=
  (f_X7_heardBits v_laws v_inForce v_depth v_kind v_own (Int32.toInt64 s34.2) p1).bind fun u6 =>
  if (xcmp u6 (Int32.toInt64 p2)) = 0 then
    some (.inr (s34.2, s34.2 + (1 : Int32)))
  else
  some (.inr (s34.1, s34.2 + (1 : Int32)))
def f_X7_fill_L34 (v_laws : Int32) (v_inForce : Int32) (v_depth : Int32) (v_kind : (Nat → Int32)) (v_own : (Nat → Int32)) (v_refusals : (Nat → Int32)) (p1 : Int32) (p2 : Int32) (s34 : Int32 × Int32) : Option ((Int32 × (Nat → Int32)) ⊕ (Int32 × Int32)) :=
  if (xshl (1 : Int32) p1) ≤ s34.2 then
    some (.inl (s34.1, v_refusals))
  else
  if s34.1 = (-1 : Int32) then
    f_X7_fill_J59 v_laws v_inForce v_depth v_kind v_own p1 p2 s34
  else
  (f_J6_bitCount_0f7a4 s34.2).bind fun u8 =>
  (f_J6_bitCount_0f7a4 s34.1).bind fun u9 =>
  if u9 ≤ u8 then
    some (.inr (s34.1, s34.2 + (1 : Int32)))
  else
  f_X7_fill_J59 v_laws v_inForce v_depth v_kind v_own p1 p2 s34
def f_X7_fill (v_laws : Int32) (v_inForce : Int32) (v_depth : Int32) (v_kind : (Nat → Int32)) (v_own : (Nat → Int32)) (v_refusals : (Nat → Int32)) (p1 : Int32) (p2 : Int32) : Option (Int32 × (Nat → Int32)) :=
  (f_X7_isPlan p1 p2).bind fun u1 =>
  if u1 = 0 then
    (f_X7_no v_refusals (-2 : Int32)).bind fun u12 =>
    some (u12.1, u12.2)
  else
  if v_laws = 0 then
    (f_X7_no v_refusals (-5 : Int32)).bind fun u11 =>
    some (u11.1, u11.2)
  else
  xloop (f_X7_fill_L34 v_laws v_inForce v_depth v_kind v_own v_refusals p1 p2) xN ((-1 : Int32), (0 : Int32))
set_option maxHeartbeats 4000000 in
set_option maxRecDepth 100000 in
theorem c_X7_fill {l : Launch} {X : xG} {h0 h1 h2 h3 g0 g1 g2 g3 g4 g5 g6 g7 : Nat} {v_laws : Int32} {v_inForce : Int32} {v_depth : Int32} {v_miss : Int32} {v_ring : Int64} {v_size : Int32} {v_people : Int32} {v_seed : Int32} {v_taped : Int32} {v_from : Int32} {v_to : Int32} {v_token : Int32} {v_value : Int32} {v_imaged : Int32} {v_oldRing : Int64} {v_aheadRing : Int64} {v_kind : (Nat → Int32)} {v_own : (Nat → Int32)} {v_refusals : (Nat → Int32)} {p1 : Int32} {p2 : Int32} {u : Int32 × (Nat → Int32)} (hf : f_X7_fill v_laws v_inForce v_depth v_kind v_own v_refusals p1 p2 = some u) : Met l yX7_fill (xw yX7_fill cX7_fill 5 (some .int)) (xrm 6 146) (xPc [.ref h0, .int p1, .int p2] X [(h0, xO 7 [.int v_laws, .ref h1, .ref h2, .int v_inForce, .int v_depth, .int v_miss, .long v_ring, .int v_size, .int v_people, .ref g0, .int v_seed, .int v_taped, .ref g1, .int v_from, .int v_to, .int v_token, .int v_value, .ref g2, .ref g3, .ref g4, .ref h3, .int v_imaged, .ref g5, .long v_oldRing, .ref g6, .long v_aheadRing, .ref g7]), (h1, xI X 6 v_kind), (h2, xI X 6 v_own), (h3, xI X 7 v_refusals)]) (xQw True (.returned (some (.int u.1))) X [(h0, xO 7 [.int v_laws, .ref h1, .ref h2, .int v_inForce, .int v_depth, .int v_miss, .long v_ring, .int v_size, .int v_people, .ref g0, .int v_seed, .int v_taped, .ref g1, .int v_from, .int v_to, .int v_token, .int v_value, .ref g2, .ref g3, .ref g4, .ref h3, .int v_imaged, .ref g5, .long v_oldRing, .ref g6, .long v_aheadRing, .ref g7]), (h1, xI X 6 v_kind), (h2, xI X 6 v_own), (h3, xI X 7 u.2)] (xAs [(h0, xO 7 [.int v_laws, .ref h1, .ref h2, .int v_inForce, .int v_depth, .int v_miss, .long v_ring, .int v_size, .int v_people, .ref g0, .int v_seed, .int v_taped, .ref g1, .int v_from, .int v_to, .int v_token, .int v_value, .ref g2, .ref g3, .ref g4, .ref h3, .int v_imaged, .ref g5, .long v_oldRing, .ref g6, .long v_aheadRing, .ref g7]), (h1, xI X 6 v_kind), (h2, xI X 6 v_own), (h3, xI X 7 v_refusals)])) 0 0 (xAs [(h0, xO 7 [.int v_laws, .ref h1, .ref h2, .int v_inForce, .int v_depth, .int v_miss, .long v_ring, .int v_size, .int v_people, .ref g0, .int v_seed, .int v_taped, .ref g1, .int v_from, .int v_to, .int v_token, .int v_value, .ref g2, .ref g3, .ref g4, .ref h3, .int v_imaged, .ref g5, .long v_oldRing, .ref g6, .long v_aheadRing, .ref g7]), (h1, xI X 6 v_kind), (h2, xI X 6 v_own), (h3, xI X 7 v_refusals)]) := by
  refine xMetw (Qc := fun A => xQw True (.returned (some (.int u.1))) X [(h0, xO 7 [.int v_laws, .ref h1, .ref h2, .int v_inForce, .int v_depth, .int v_miss, .long v_ring, .int v_size, .int v_people, .ref g0, .int v_seed, .int v_taped, .ref g1, .int v_from, .int v_to, .int v_token, .int v_value, .ref g2, .ref g3, .ref g4, .ref h3, .int v_imaged, .ref g5, .long v_oldRing, .ref g6, .long v_aheadRing, .ref g7]), (h1, xI X 6 v_kind), (h2, xI X 6 v_own), (h3, xI X 7 u.2)] A) (n := 2) md_X7_fill.1 (Nat.le_of_ble_eq_true rfl) ?_
  intro p e s m args below meth c ls A hC hr hlk hH hl
  have hl : lv_has ls 5 [(0, .ref h0), (1, .int p1), (2, .int p2)] := hl
  have hx := hC.1
  have hb := hC.2.1
  have L34 : ∀ (n : Nat) (s34 : Int32 × Int32), xloop (f_X7_fill_L34 v_laws v_inForce v_depth v_kind v_own v_refusals p1 p2) n s34 = some u → ∀ (H : Heap) (locs : List Loc), xH X A [(h0, xO 7 [.int v_laws, .ref h1, .ref h2, .int v_inForce, .int v_depth, .int v_miss, .long v_ring, .int v_size, .int v_people, .ref g0, .int v_seed, .int v_taped, .ref g1, .int v_from, .int v_to, .int v_token, .int v_value, .ref g2, .ref g3, .ref g4, .ref h3, .int v_imaged, .ref g5, .long v_oldRing, .ref g6, .long v_aheadRing, .ref g7]), (h1, xI X 6 v_kind), (h2, xI X 6 v_own), (h3, xI X 7 v_refusals)] s.heap H locs → ∀ (ls : Array Slot), lv_has ls 5 [(0, .ref h0), (1, .int p1), (2, .int p2), (3, .int s34.1), (4, .int s34.2)] → W p l e (xrm 6 146) s m args below meth c H locs 0 0 (MQ below (xQw True (.returned (some (.int u.1))) X [(h0, xO 7 [.int v_laws, .ref h1, .ref h2, .int v_inForce, .int v_depth, .int v_miss, .long v_ring, .int v_size, .int v_people, .ref g0, .int v_seed, .int v_taped, .ref g1, .int v_from, .int v_to, .int v_token, .int v_value, .ref g2, .ref g3, .ref g4, .ref h3, .int v_imaged, .ref g5, .long v_oldRing, .ref g6, .long v_aheadRing, .ref g7]), (h1, xI X 6 v_kind), (h2, xI X 6 v_own), (h3, xI X 7 u.2)] A) args s 0 0 A) (F0 m 34 ls []) := by
    intro  n
    induction n with
    | zero => intro s34 hf; exact xloop_0 hf
    | succ n ih34 =>
      intro s34 hf H locs hH ls hl
      obtain ⟨o34, hf, ho34⟩ := xloop_s hf
      have J59 : ∀ (_ : True), f_X7_fill_J59 v_laws v_inForce v_depth v_kind v_own p1 p2 s34 = some o34 → ∀ (H : Heap) (locs : List Loc), xH X A [(h0, xO 7 [.int v_laws, .ref h1, .ref h2, .int v_inForce, .int v_depth, .int v_miss, .long v_ring, .int v_size, .int v_people, .ref g0, .int v_seed, .int v_taped, .ref g1, .int v_from, .int v_to, .int v_token, .int v_value, .ref g2, .ref g3, .ref g4, .ref h3, .int v_imaged, .ref g5, .long v_oldRing, .ref g6, .long v_aheadRing, .ref g7]), (h1, xI X 6 v_kind), (h2, xI X 6 v_own), (h3, xI X 7 v_refusals)] s.heap H locs → ∀ (ls : Array Slot), lv_has ls 5 [(0, .ref h0), (1, .int p1), (2, .int p2), (3, .int s34.1), (4, .int s34.2)] → W p l e (xrm 6 146) s m args below meth c H locs 0 0 (MQ below (xQw True (.returned (some (.int u.1))) X [(h0, xO 7 [.int v_laws, .ref h1, .ref h2, .int v_inForce, .int v_depth, .int v_miss, .long v_ring, .int v_size, .int v_people, .ref g0, .int v_seed, .int v_taped, .ref g1, .int v_from, .int v_to, .int v_token, .int v_value, .ref g2, .ref g3, .ref g4, .ref h3, .int v_imaged, .ref g5, .long v_oldRing, .ref g6, .long v_aheadRing, .ref g7]), (h1, xI X 6 v_kind), (h2, xI X 6 v_own), (h3, xI X 7 u.2)] A) args s 0 0 A) (F0 m 59 ls []) := by
        intro _ hf H locs hH ls hl
        refine lv_aload_n hx hb dX7_fill_59 rfl (lv_at hl 0 rfl) ?_
        refine lv_iload hx hb dX7_fill_60 (lv_at hl 4 rfl) ?_
        refine lv_i2l hx hb dX7_fill_62 rfl ?_
        refine lv_iload_n hx hb dX7_fill_63 rfl (lv_at hl 1 rfl) ?_
        obtain ⟨u6, hf6, hf⟩ := xb hf
        refine x_ran (x_runV (q0 := 0) (rest := []) (As := [.long (Int32.toInt64 s34.2), .int p1]) hC mw_1095 md_X7_heardBits (c_X7_heardBits (X := X) hf6) hH [0, 1, 2] rfl (by decide) rfl rfl rfl hl.1 rfl rfl (Nat.le_of_ble_eq_true rfl) dX7_fill_64 ⟨Nat.le_of_ble_eq_true rfl, Nat.le_of_ble_eq_true rfl⟩ ⟨rfl, rfl⟩ ⟨Nat.le_refl _, Nat.le_refl _⟩) rfl (fun hz6 => ?_)
        refine lv_iload_n hx hb dX7_fill_67 rfl (lv_at hl 2 rfl) ?_
        refine lv_i2l hx hb dX7_fill_68 rfl ?_
        refine x_lcmp hx hb dX7_fill_69 ?_
        refine lv_if_ne (tgt := 76) hx hb dX7_fill_70 (by decide) (fun c7 => ?_) (fun c7 => ?_)
        · have hf := xe c7 hf
          refine lv_iinc (v := s34.2 + (1 : Int32)) (lv' := [(4, .int (s34.2 + (1 : Int32))), (0, .ref h0), (1, .int p1), (2, .int p2), (3, .int s34.1)]) hx hb dX7_fill_76 hl (k := 4) rfl rfl (by decide) rfl (fun ls hl => ?_)
          refine lv_goto (tgt := 34) hx hb dX7_fill_79 (by decide) ?_
          have hf := xo_go hf ho34
          exact ih34 (s34.1, s34.2 + (1 : Int32)) hf _ _ hH ls (lv_sub hl [1, 2, 3, 4, 0] rfl)
        · have hf := xt c7 hf
          refine lv_iload hx hb dX7_fill_73 (lv_at hl 4 rfl) ?_
          refine lv_istore_n (lv' := [(3, .int s34.2), (0, .ref h0), (1, .int p1), (2, .int p2), (4, .int s34.2)]) hx hb dX7_fill_75 rfl hl (by decide) rfl (fun ls hl => ?_)
          refine lv_iinc (v := s34.2 + (1 : Int32)) (lv' := [(4, .int (s34.2 + (1 : Int32))), (3, .int s34.2), (0, .ref h0), (1, .int p1), (2, .int p2)]) hx hb dX7_fill_76 hl (k := 4) rfl rfl (by decide) rfl (fun ls hl => ?_)
          refine lv_goto (tgt := 34) hx hb dX7_fill_79 (by decide) ?_
          have hf := xo_go hf ho34
          exact ih34 (s34.2, s34.2 + (1 : Int32)) hf _ _ hH ls (lv_sub hl [2, 3, 4, 1, 0] rfl)
      refine lv_iload hx hb dX7_fill_34 (lv_at hl 4 rfl) ?_
      refine lv_iconst (v := (1 : Int32)) hx hb dX7_fill_36 (by decide) ?_
      refine lv_iload_n hx hb dX7_fill_37 rfl (lv_at hl 1 rfl) ?_
      refine x_ishl hx hb dX7_fill_38 ?_
      refine lv_icmp_ge (tgt := 82) hx hb dX7_fill_39 (by decide) (fun c4 => ?_) (fun c4 => ?_)
      · have hf := xt c4 hf
        refine lv_iload_n hx hb dX7_fill_82 rfl (lv_at hl 3 rfl) ?_
        have hf := xo_ret hf ho34
        exact x_retiw (φ := fun _ => True) (f := fun u : Int32 × (Nat → Int32) => u.1) (wf := fun u : Int32 × (Nat → Int32) => [(h0, xO 7 [.int v_laws, .ref h1, .ref h2, .int v_inForce, .int v_depth, .int v_miss, .long v_ring, .int v_size, .int v_people, .ref g0, .int v_seed, .int v_taped, .ref g1, .int v_from, .int v_to, .int v_token, .int v_value, .ref g2, .ref g3, .ref g4, .ref h3, .int v_imaged, .ref g5, .long v_oldRing, .ref g6, .long v_aheadRing, .ref g7]), (h1, xI X 6 v_kind), (h2, xI X 6 v_own), (h3, xI X 7 u.2)]) hC hr hlk trivial hf hH rfl rfl dX7_fill_83
      · have hf := xe c4 hf
        refine lv_iload_n hx hb dX7_fill_42 rfl (lv_at hl 3 rfl) ?_
        refine lv_iconst (v := (-1 : Int32)) hx hb dX7_fill_43 (by decide) ?_
        refine lv_icmp_eq (tgt := 59) hx hb dX7_fill_44 (by decide) (fun c5 => ?_) (fun c5 => ?_)
        · have hf := xt c5 hf
          exact J59 trivial hf _ _ hH ls (lv_sub hl [0, 1, 2, 3, 4] rfl)
        · have hf := xe c5 hf
          refine lv_iload hx hb dX7_fill_47 (lv_at hl 4 rfl) ?_
          obtain ⟨u8, hf8, hf⟩ := xb hf
          refine x_ran (x_runS (rest := []) (As := [.int s34.2]) hC mw_971 md_J6_bitCount_0f7a4 (c_J6_bitCount_0f7a4 (X := X) hf8) hH [] rfl (by decide) hl.1 rfl rfl (Nat.le_of_ble_eq_true rfl) dX7_fill_49 ⟨Nat.le_of_ble_eq_true rfl, Nat.le_of_ble_eq_true rfl⟩ ⟨rfl, rfl⟩ ⟨Nat.le_refl _, Nat.le_refl _⟩) rfl (fun hz8 => ?_)
          refine lv_iload_n hx hb dX7_fill_52 rfl (lv_at hl 3 rfl) ?_
          obtain ⟨u9, hf9, hf⟩ := xb hf
          refine x_ran (x_runS (rest := [.int u8]) (As := [.int s34.1]) hC mw_971 md_J6_bitCount_0f7a4 (c_J6_bitCount_0f7a4 (X := X) hf9) hH [] rfl (by decide) hl.1 rfl rfl (Nat.le_of_ble_eq_true rfl) dX7_fill_53 ⟨Nat.le_of_ble_eq_true rfl, Nat.le_of_ble_eq_true rfl⟩ ⟨rfl, rfl⟩ ⟨Nat.le_refl _, Nat.le_refl _⟩) rfl (fun hz9 => ?_)
          refine lv_icmp_ge (tgt := 76) hx hb dX7_fill_56 (by decide) (fun c10 => ?_) (fun c10 => ?_)
          · have hf := xt c10 hf
            refine lv_iinc (v := s34.2 + (1 : Int32)) (lv' := [(4, .int (s34.2 + (1 : Int32))), (0, .ref h0), (1, .int p1), (2, .int p2), (3, .int s34.1)]) hx hb dX7_fill_76 hl (k := 4) rfl rfl (by decide) rfl (fun ls hl => ?_)
            refine lv_goto (tgt := 34) hx hb dX7_fill_79 (by decide) ?_
            have hf := xo_go hf ho34
            exact ih34 (s34.1, s34.2 + (1 : Int32)) hf _ _ hH ls (lv_sub hl [1, 2, 3, 4, 0] rfl)
          · have hf := xe c10 hf
            exact J59 trivial hf _ _ hH ls (lv_sub hl [0, 1, 2, 3, 4] rfl)
  refine lv_iload_n hx hb dX7_fill_0 rfl (lv_at hl 1 rfl) ?_
  refine lv_iload_n hx hb dX7_fill_1 rfl (lv_at hl 2 rfl) ?_
  obtain ⟨u1, hf1, hf⟩ := xb hf
  refine x_ran (x_runS (rest := []) (As := [.int p1, .int p2]) hC mw_964 md_X7_isPlan (c_X7_isPlan (X := X) hf1) hH [] rfl (by decide) hl.1 rfl rfl (Nat.le_of_ble_eq_true rfl) dX7_fill_2 ⟨Nat.le_of_ble_eq_true rfl, Nat.le_of_ble_eq_true rfl⟩ ⟨rfl, rfl⟩ ⟨Nat.le_refl _, Nat.le_refl _⟩) rfl (fun hz1 => ?_)
  refine lv_if_ne (tgt := 15) hx hb dX7_fill_5 (by decide) (fun c2 => ?_) (fun c2 => ?_)
  · have hf := xe c2 hf
    refine lv_aload_n hx hb dX7_fill_15 rfl (lv_at hl 0 rfl) ?_
    refine x_get hC fd_RX7_52 hH.1 0 rfl rfl dX7_fill_16 ?_
    refine lv_if_ne (tgt := 29) hx hb dX7_fill_19 (by decide) (fun c3 => ?_) (fun c3 => ?_)
    · have hf := xe c3 hf
      refine lv_iconst (v := (-1 : Int32)) hx hb dX7_fill_29 (by decide) ?_
      refine lv_istore_n (lv' := [(3, .int (-1 : Int32)), (0, .ref h0), (1, .int p1), (2, .int p2)]) hx hb dX7_fill_30 rfl hl (by decide) rfl (fun ls hl => ?_)
      refine lv_iconst (v := (0 : Int32)) hx hb dX7_fill_31 (by decide) ?_
      refine lv_istore (lv' := [(4, .int (0 : Int32)), (3, .int (-1 : Int32)), (0, .ref h0), (1, .int p1), (2, .int p2)]) hx hb dX7_fill_32 hl (by decide) rfl (fun ls hl => ?_)
      exact L34 xN ((-1 : Int32), (0 : Int32)) hf _ _ hH ls (lv_sub hl [2, 3, 4, 1, 0] rfl)
    · have hf := xt c3 hf
      refine lv_aload_n hx hb dX7_fill_22 rfl (lv_at hl 0 rfl) ?_
      refine lv_bipush (v := (-5 : Int32)) hx hb dX7_fill_23 (by decide) ?_
      obtain ⟨u11, hf11, hf⟩ := xb hf
      refine x_ranw (ws' := [(h0, xO 7 [.int v_laws, .ref h1, .ref h2, .int v_inForce, .int v_depth, .int v_miss, .long v_ring, .int v_size, .int v_people, .ref g0, .int v_seed, .int v_taped, .ref g1, .int v_from, .int v_to, .int v_token, .int v_value, .ref g2, .ref g3, .ref g4, .ref h3, .int v_imaged, .ref g5, .long v_oldRing, .ref g6, .long v_aheadRing, .ref g7]), (h1, xI X 6 v_kind), (h2, xI X 6 v_own), (h3, xI X 7 u11.2)]) (x_runV (q0 := 0) (rest := []) (As := [.int (-5 : Int32)]) hC mw_143 md_X7_no (c_X7_no (X := X) hf11) hH [0, 3] rfl (by decide) rfl rfl rfl hl.1 rfl rfl (Nat.le_of_ble_eq_true rfl) dX7_fill_25 ⟨Nat.le_of_ble_eq_true rfl, Nat.le_of_ble_eq_true rfl⟩ ⟨rfl, rfl⟩ ⟨Nat.le_refl _, Nat.le_refl _⟩) hH [0, 3] rfl rfl rfl rfl rfl (fun hz11 H locs hH => ?_)
      exact x_retiw (φ := fun _ => True) (f := fun u : Int32 × (Nat → Int32) => u.1) (wf := fun u : Int32 × (Nat → Int32) => [(h0, xO 7 [.int v_laws, .ref h1, .ref h2, .int v_inForce, .int v_depth, .int v_miss, .long v_ring, .int v_size, .int v_people, .ref g0, .int v_seed, .int v_taped, .ref g1, .int v_from, .int v_to, .int v_token, .int v_value, .ref g2, .ref g3, .ref g4, .ref h3, .int v_imaged, .ref g5, .long v_oldRing, .ref g6, .long v_aheadRing, .ref g7]), (h1, xI X 6 v_kind), (h2, xI X 6 v_own), (h3, xI X 7 u.2)]) hC hr hlk trivial hf hH rfl rfl dX7_fill_28
  · have hf := xt c2 hf
    refine lv_aload_n hx hb dX7_fill_8 rfl (lv_at hl 0 rfl) ?_
    refine lv_bipush (v := (-2 : Int32)) hx hb dX7_fill_9 (by decide) ?_
    obtain ⟨u12, hf12, hf⟩ := xb hf
    refine x_ranw (ws' := [(h0, xO 7 [.int v_laws, .ref h1, .ref h2, .int v_inForce, .int v_depth, .int v_miss, .long v_ring, .int v_size, .int v_people, .ref g0, .int v_seed, .int v_taped, .ref g1, .int v_from, .int v_to, .int v_token, .int v_value, .ref g2, .ref g3, .ref g4, .ref h3, .int v_imaged, .ref g5, .long v_oldRing, .ref g6, .long v_aheadRing, .ref g7]), (h1, xI X 6 v_kind), (h2, xI X 6 v_own), (h3, xI X 7 u12.2)]) (x_runV (q0 := 0) (rest := []) (As := [.int (-2 : Int32)]) hC mw_143 md_X7_no (c_X7_no (X := X) hf12) hH [0, 3] rfl (by decide) rfl rfl rfl hl.1 rfl rfl (Nat.le_of_ble_eq_true rfl) dX7_fill_11 ⟨Nat.le_of_ble_eq_true rfl, Nat.le_of_ble_eq_true rfl⟩ ⟨rfl, rfl⟩ ⟨Nat.le_refl _, Nat.le_refl _⟩) hH [0, 3] rfl rfl rfl rfl rfl (fun hz12 H locs hH => ?_)
    exact x_retiw (φ := fun _ => True) (f := fun u : Int32 × (Nat → Int32) => u.1) (wf := fun u : Int32 × (Nat → Int32) => [(h0, xO 7 [.int v_laws, .ref h1, .ref h2, .int v_inForce, .int v_depth, .int v_miss, .long v_ring, .int v_size, .int v_people, .ref g0, .int v_seed, .int v_taped, .ref g1, .int v_from, .int v_to, .int v_token, .int v_value, .ref g2, .ref g3, .ref g4, .ref h3, .int v_imaged, .ref g5, .long v_oldRing, .ref g6, .long v_aheadRing, .ref g7]), (h1, xI X 6 v_kind), (h2, xI X 6 v_own), (h3, xI X 7 u.2)]) hC hr hlk trivial hf hH rfl rfl dX7_fill_14
def f_X7_loudest_L48 (v_laws : Int32) (v_inForce : Int32) (v_depth : Int32) (v_kind : (Nat → Int32)) (v_own : (Nat → Int32)) (v_refusals : (Nat → Int32)) (p1 : Int32) (p2 : Int32) (s48 : Int32 × Int32 × Int32) : Option ((Int32 × (Nat → Int32)) ⊕ (Int32 × Int32 × Int32)) :=
  if (xshl (1 : Int32) p1) ≤ s48.2.2 then
    some (.inl (s48.1, v_refusals))
  else
  (f_J6_bitCount_0f7a4 s48.2.2).bind fun u8 =>
  if u8 = p2 then
    (f_X7_many v_laws v_inForce v_depth v_kind v_own (Int32.toInt64 s48.2.2) p1 (0 : Int32)).bind fun u10 =>
    if s48.2.1 < u10 then
      some (.inr (s48.2.2, u10, s48.2.2 + (1 : Int32)))
    else
    some (.inr (s48.1, s48.2.1, s48.2.2 + (1 : Int32)))
  else
  some (.inr (s48.1, s48.2.1, s48.2.2 + (1 : Int32)))
def f_X7_loudest (v_laws : Int32) (v_inForce : Int32) (v_depth : Int32) (v_kind : (Nat → Int32)) (v_own : (Nat → Int32)) (v_refusals : (Nat → Int32)) (p1 : Int32) (p2 : Int32) : Option (Int32 × (Nat → Int32)) :=
  (f_X7_within p1 (1 : Int32) (12 : Int32)).bind fun u1 =>
  if u1 = 0 then
    (f_X7_no v_refusals (-2 : Int32)).bind fun u3 =>
    some (u3.1, u3.2)
  else
  (f_X7_within p2 (0 : Int32) p1).bind fun u4 =>
  if u4 = 0 then
    (f_X7_no v_refusals (-2 : Int32)).bind fun u13 =>
    some (u13.1, u13.2)
  else
  if v_laws = 0 then
    (f_X7_no v_refusals (-5 : Int32)).bind fun u12 =>
    some (u12.1, u12.2)
  else
  xloop (f_X7_loudest_L48 v_laws v_inForce v_depth v_kind v_own v_refusals p1 p2) xN ((-1 : Int32), (-1 : Int32), (0 : Int32))
set_option maxHeartbeats 4000000 in
set_option maxRecDepth 100000 in
theorem c_X7_loudest {l : Launch} {X : xG} {h0 h1 h2 h3 g0 g1 g2 g3 g4 g5 g6 g7 : Nat} {v_laws : Int32} {v_inForce : Int32} {v_depth : Int32} {v_miss : Int32} {v_ring : Int64} {v_size : Int32} {v_people : Int32} {v_seed : Int32} {v_taped : Int32} {v_from : Int32} {v_to : Int32} {v_token : Int32} {v_value : Int32} {v_imaged : Int32} {v_oldRing : Int64} {v_aheadRing : Int64} {v_kind : (Nat → Int32)} {v_own : (Nat → Int32)} {v_refusals : (Nat → Int32)} {p1 : Int32} {p2 : Int32} {u : Int32 × (Nat → Int32)} (hf : f_X7_loudest v_laws v_inForce v_depth v_kind v_own v_refusals p1 p2 = some u) : Met l yX7_loudest (xw yX7_loudest cX7_loudest 7 (some .int)) (xrm 7 171) (xPc [.ref h0, .int p1, .int p2] X [(h0, xO 7 [.int v_laws, .ref h1, .ref h2, .int v_inForce, .int v_depth, .int v_miss, .long v_ring, .int v_size, .int v_people, .ref g0, .int v_seed, .int v_taped, .ref g1, .int v_from, .int v_to, .int v_token, .int v_value, .ref g2, .ref g3, .ref g4, .ref h3, .int v_imaged, .ref g5, .long v_oldRing, .ref g6, .long v_aheadRing, .ref g7]), (h1, xI X 6 v_kind), (h2, xI X 6 v_own), (h3, xI X 7 v_refusals)]) (xQw True (.returned (some (.int u.1))) X [(h0, xO 7 [.int v_laws, .ref h1, .ref h2, .int v_inForce, .int v_depth, .int v_miss, .long v_ring, .int v_size, .int v_people, .ref g0, .int v_seed, .int v_taped, .ref g1, .int v_from, .int v_to, .int v_token, .int v_value, .ref g2, .ref g3, .ref g4, .ref h3, .int v_imaged, .ref g5, .long v_oldRing, .ref g6, .long v_aheadRing, .ref g7]), (h1, xI X 6 v_kind), (h2, xI X 6 v_own), (h3, xI X 7 u.2)] (xAs [(h0, xO 7 [.int v_laws, .ref h1, .ref h2, .int v_inForce, .int v_depth, .int v_miss, .long v_ring, .int v_size, .int v_people, .ref g0, .int v_seed, .int v_taped, .ref g1, .int v_from, .int v_to, .int v_token, .int v_value, .ref g2, .ref g3, .ref g4, .ref h3, .int v_imaged, .ref g5, .long v_oldRing, .ref g6, .long v_aheadRing, .ref g7]), (h1, xI X 6 v_kind), (h2, xI X 6 v_own), (h3, xI X 7 v_refusals)])) 0 0 (xAs [(h0, xO 7 [.int v_laws, .ref h1, .ref h2, .int v_inForce, .int v_depth, .int v_miss, .long v_ring, .int v_size, .int v_people, .ref g0, .int v_seed, .int v_taped, .ref g1, .int v_from, .int v_to, .int v_token, .int v_value, .ref g2, .ref g3, .ref g4, .ref h3, .int v_imaged, .ref g5, .long v_oldRing, .ref g6, .long v_aheadRing, .ref g7]), (h1, xI X 6 v_kind), (h2, xI X 6 v_own), (h3, xI X 7 v_refusals)]) := by
  refine xMetw (Qc := fun A => xQw True (.returned (some (.int u.1))) X [(h0, xO 7 [.int v_laws, .ref h1, .ref h2, .int v_inForce, .int v_depth, .int v_miss, .long v_ring, .int v_size, .int v_people, .ref g0, .int v_seed, .int v_taped, .ref g1, .int v_from, .int v_to, .int v_token, .int v_value, .ref g2, .ref g3, .ref g4, .ref h3, .int v_imaged, .ref g5, .long v_oldRing, .ref g6, .long v_aheadRing, .ref g7]), (h1, xI X 6 v_kind), (h2, xI X 6 v_own), (h3, xI X 7 u.2)] A) (n := 2) md_X7_loudest.1 (Nat.le_of_ble_eq_true rfl) ?_
  intro p e s m args below meth c ls A hC hr hlk hH hl
  have hl : lv_has ls 7 [(0, .ref h0), (1, .int p1), (2, .int p2)] := hl
  have hx := hC.1
  have hb := hC.2.1
  have L48 : ∀ (n : Nat) (s48 : Int32 × Int32 × Int32), xloop (f_X7_loudest_L48 v_laws v_inForce v_depth v_kind v_own v_refusals p1 p2) n s48 = some u → ∀ (H : Heap) (locs : List Loc), xH X A [(h0, xO 7 [.int v_laws, .ref h1, .ref h2, .int v_inForce, .int v_depth, .int v_miss, .long v_ring, .int v_size, .int v_people, .ref g0, .int v_seed, .int v_taped, .ref g1, .int v_from, .int v_to, .int v_token, .int v_value, .ref g2, .ref g3, .ref g4, .ref h3, .int v_imaged, .ref g5, .long v_oldRing, .ref g6, .long v_aheadRing, .ref g7]), (h1, xI X 6 v_kind), (h2, xI X 6 v_own), (h3, xI X 7 v_refusals)] s.heap H locs → ∀ (ls : Array Slot), lv_has ls 7 [(0, .ref h0), (1, .int p1), (2, .int p2), (3, .int s48.1), (4, .int s48.2.1), (5, .int s48.2.2)] → W p l e (xrm 7 171) s m args below meth c H locs 0 0 (MQ below (xQw True (.returned (some (.int u.1))) X [(h0, xO 7 [.int v_laws, .ref h1, .ref h2, .int v_inForce, .int v_depth, .int v_miss, .long v_ring, .int v_size, .int v_people, .ref g0, .int v_seed, .int v_taped, .ref g1, .int v_from, .int v_to, .int v_token, .int v_value, .ref g2, .ref g3, .ref g4, .ref h3, .int v_imaged, .ref g5, .long v_oldRing, .ref g6, .long v_aheadRing, .ref g7]), (h1, xI X 6 v_kind), (h2, xI X 6 v_own), (h3, xI X 7 u.2)] A) args s 0 0 A) (F0 m 48 ls []) := by
    intro  n
    induction n with
    | zero => intro s48 hf; exact xloop_0 hf
    | succ n ih48 =>
      intro s48 hf H locs hH ls hl
      obtain ⟨o48, hf, ho48⟩ := xloop_s hf
      refine lv_iload hx hb dX7_loudest_48 (lv_at hl 5 rfl) ?_
      refine lv_iconst (v := (1 : Int32)) hx hb dX7_loudest_50 (by decide) ?_
      refine lv_iload_n hx hb dX7_loudest_51 rfl (lv_at hl 1 rfl) ?_
      refine x_ishl hx hb dX7_loudest_52 ?_
      refine lv_icmp_ge (tgt := 102) hx hb dX7_loudest_53 (by decide) (fun c7 => ?_) (fun c7 => ?_)
      · have hf := xt c7 hf
        refine lv_iload_n hx hb dX7_loudest_102 rfl (lv_at hl 3 rfl) ?_
        have hf := xo_ret hf ho48
        exact x_retiw (φ := fun _ => True) (f := fun u : Int32 × (Nat → Int32) => u.1) (wf := fun u : Int32 × (Nat → Int32) => [(h0, xO 7 [.int v_laws, .ref h1, .ref h2, .int v_inForce, .int v_depth, .int v_miss, .long v_ring, .int v_size, .int v_people, .ref g0, .int v_seed, .int v_taped, .ref g1, .int v_from, .int v_to, .int v_token, .int v_value, .ref g2, .ref g3, .ref g4, .ref h3, .int v_imaged, .ref g5, .long v_oldRing, .ref g6, .long v_aheadRing, .ref g7]), (h1, xI X 6 v_kind), (h2, xI X 6 v_own), (h3, xI X 7 u.2)]) hC hr hlk trivial hf hH rfl rfl dX7_loudest_103
      · have hf := xe c7 hf
        refine lv_iload hx hb dX7_loudest_56 (lv_at hl 5 rfl) ?_
        obtain ⟨u8, hf8, hf⟩ := xb hf
        refine x_ran (x_runS (rest := []) (As := [.int s48.2.2]) hC mw_971 md_J6_bitCount_0f7a4 (c_J6_bitCount_0f7a4 (X := X) hf8) hH [] rfl (by decide) hl.1 rfl rfl (Nat.le_of_ble_eq_true rfl) dX7_loudest_58 ⟨Nat.le_of_ble_eq_true rfl, Nat.le_of_ble_eq_true rfl⟩ ⟨rfl, rfl⟩ ⟨Nat.le_refl _, Nat.le_refl _⟩) rfl (fun hz8 => ?_)
        refine lv_iload_n hx hb dX7_loudest_61 rfl (lv_at hl 2 rfl) ?_
        refine lv_icmp_eq (tgt := 68) hx hb dX7_loudest_62 (by decide) (fun c9 => ?_) (fun c9 => ?_)
        · have hf := xt c9 hf
          refine lv_aload_n hx hb dX7_loudest_68 rfl (lv_at hl 0 rfl) ?_
          refine lv_iload hx hb dX7_loudest_69 (lv_at hl 5 rfl) ?_
          refine lv_i2l hx hb dX7_loudest_71 rfl ?_
          refine lv_iload_n hx hb dX7_loudest_72 rfl (lv_at hl 1 rfl) ?_
          refine lv_iconst (v := (0 : Int32)) hx hb dX7_loudest_73 (by decide) ?_
          obtain ⟨u10, hf10, hf⟩ := xb hf
          refine x_ran (x_runV (q0 := 0) (rest := []) (As := [.long (Int32.toInt64 s48.2.2), .int p1, .int (0 : Int32)]) hC mw_749 md_X7_many (c_X7_many (X := X) hf10) hH [0, 1, 2] rfl (by decide) rfl rfl rfl hl.1 rfl rfl (Nat.le_of_ble_eq_true rfl) dX7_loudest_74 ⟨Nat.le_of_ble_eq_true rfl, Nat.le_of_ble_eq_true rfl⟩ ⟨rfl, rfl⟩ ⟨Nat.le_refl _, Nat.le_refl _⟩) rfl (fun hz10 => ?_)
          refine lv_istore (lv' := [(6, .int u10), (0, .ref h0), (1, .int p1), (2, .int p2), (3, .int s48.1), (4, .int s48.2.1), (5, .int s48.2.2)]) hx hb dX7_loudest_77 hl (by decide) rfl (fun ls hl => ?_)
          refine lv_iload hx hb dX7_loudest_79 (lv_at hl 0 rfl) ?_
          refine lv_iload hx hb dX7_loudest_81 (lv_at hl 5 rfl) ?_
          refine lv_icmp_gt (tgt := 89) hx hb dX7_loudest_83 (by decide) (fun c11 => ?_) (fun c11 => ?_)
          · have hf := xt c11 hf
            refine lv_iload hx hb dX7_loudest_89 (lv_at hl 0 rfl) ?_
            refine lv_istore (lv' := [(4, .int u10), (6, .int u10), (0, .ref h0), (1, .int p1), (2, .int p2), (3, .int s48.1), (5, .int s48.2.2)]) hx hb dX7_loudest_91 hl (by decide) rfl (fun ls hl => ?_)
            refine lv_iload hx hb dX7_loudest_93 (lv_at hl 6 rfl) ?_
            refine lv_istore_n (lv' := [(3, .int s48.2.2), (4, .int u10), (6, .int u10), (0, .ref h0), (1, .int p1), (2, .int p2), (5, .int s48.2.2)]) hx hb dX7_loudest_95 rfl hl (by decide) rfl (fun ls hl => ?_)
            refine lv_iinc (v := s48.2.2 + (1 : Int32)) (lv' := [(5, .int (s48.2.2 + (1 : Int32))), (3, .int s48.2.2), (4, .int u10), (6, .int u10), (0, .ref h0), (1, .int p1), (2, .int p2)]) hx hb dX7_loudest_96 hl (k := 6) rfl rfl (by decide) rfl (fun ls hl => ?_)
            refine lv_goto (tgt := 48) hx hb dX7_loudest_99 (by decide) ?_
            have hf := xo_go hf ho48
            exact ih48 (s48.2.2, u10, s48.2.2 + (1 : Int32)) hf _ _ hH ls (lv_sub hl [4, 5, 6, 1, 2, 0] rfl)
          · have hf := xe c11 hf
            refine lv_goto (tgt := 96) hx hb dX7_loudest_86 (by decide) ?_
            refine lv_iinc (v := s48.2.2 + (1 : Int32)) (lv' := [(5, .int (s48.2.2 + (1 : Int32))), (6, .int u10), (0, .ref h0), (1, .int p1), (2, .int p2), (3, .int s48.1), (4, .int s48.2.1)]) hx hb dX7_loudest_96 hl (k := 6) rfl rfl (by decide) rfl (fun ls hl => ?_)
            refine lv_goto (tgt := 48) hx hb dX7_loudest_99 (by decide) ?_
            have hf := xo_go hf ho48
            exact ih48 (s48.1, s48.2.1, s48.2.2 + (1 : Int32)) hf _ _ hH ls (lv_sub hl [2, 3, 4, 5, 6, 0] rfl)
        · have hf := xe c9 hf
          refine lv_goto (tgt := 96) hx hb dX7_loudest_65 (by decide) ?_
          refine lv_iinc (v := s48.2.2 + (1 : Int32)) (lv' := [(5, .int (s48.2.2 + (1 : Int32))), (0, .ref h0), (1, .int p1), (2, .int p2), (3, .int s48.1), (4, .int s48.2.1)]) hx hb dX7_loudest_96 hl (k := 5) rfl rfl (by decide) rfl (fun ls hl => ?_)
          refine lv_goto (tgt := 48) hx hb dX7_loudest_99 (by decide) ?_
          have hf := xo_go hf ho48
          exact ih48 (s48.1, s48.2.1, s48.2.2 + (1 : Int32)) hf _ _ hH ls (lv_sub hl [1, 2, 3, 4, 5, 0] rfl)
  refine lv_iload_n hx hb dX7_loudest_0 rfl (lv_at hl 1 rfl) ?_
  refine lv_iconst (v := (1 : Int32)) hx hb dX7_loudest_1 (by decide) ?_
  refine lv_bipush (v := (12 : Int32)) hx hb dX7_loudest_2 (by decide) ?_
  obtain ⟨u1, hf1, hf⟩ := xb hf
  refine x_ran (x_runS (rest := []) (As := [.int p1, .int (1 : Int32), .int (12 : Int32)]) hC mw_140 md_X7_within (c_X7_within (X := X) hf1) hH [] rfl (by decide) hl.1 rfl rfl (Nat.le_of_ble_eq_true rfl) dX7_loudest_4 ⟨Nat.le_of_ble_eq_true rfl, Nat.le_of_ble_eq_true rfl⟩ ⟨rfl, rfl⟩ ⟨Nat.le_refl _, Nat.le_refl _⟩) rfl (fun hz1 => ?_)
  refine lv_if_eq (tgt := 19) hx hb dX7_loudest_7 (by decide) (fun c2 => ?_) (fun c2 => ?_)
  · have hf := xt c2 hf
    refine lv_aload_n hx hb dX7_loudest_19 rfl (lv_at hl 0 rfl) ?_
    refine lv_bipush (v := (-2 : Int32)) hx hb dX7_loudest_20 (by decide) ?_
    obtain ⟨u3, hf3, hf⟩ := xb hf
    refine x_ranw (ws' := [(h0, xO 7 [.int v_laws, .ref h1, .ref h2, .int v_inForce, .int v_depth, .int v_miss, .long v_ring, .int v_size, .int v_people, .ref g0, .int v_seed, .int v_taped, .ref g1, .int v_from, .int v_to, .int v_token, .int v_value, .ref g2, .ref g3, .ref g4, .ref h3, .int v_imaged, .ref g5, .long v_oldRing, .ref g6, .long v_aheadRing, .ref g7]), (h1, xI X 6 v_kind), (h2, xI X 6 v_own), (h3, xI X 7 u3.2)]) (x_runV (q0 := 0) (rest := []) (As := [.int (-2 : Int32)]) hC mw_143 md_X7_no (c_X7_no (X := X) hf3) hH [0, 3] rfl (by decide) rfl rfl rfl hl.1 rfl rfl (Nat.le_of_ble_eq_true rfl) dX7_loudest_22 ⟨Nat.le_of_ble_eq_true rfl, Nat.le_of_ble_eq_true rfl⟩ ⟨rfl, rfl⟩ ⟨Nat.le_refl _, Nat.le_refl _⟩) hH [0, 3] rfl rfl rfl rfl rfl (fun hz3 H locs hH => ?_)
    exact x_retiw (φ := fun _ => True) (f := fun u : Int32 × (Nat → Int32) => u.1) (wf := fun u : Int32 × (Nat → Int32) => [(h0, xO 7 [.int v_laws, .ref h1, .ref h2, .int v_inForce, .int v_depth, .int v_miss, .long v_ring, .int v_size, .int v_people, .ref g0, .int v_seed, .int v_taped, .ref g1, .int v_from, .int v_to, .int v_token, .int v_value, .ref g2, .ref g3, .ref g4, .ref h3, .int v_imaged, .ref g5, .long v_oldRing, .ref g6, .long v_aheadRing, .ref g7]), (h1, xI X 6 v_kind), (h2, xI X 6 v_own), (h3, xI X 7 u.2)]) hC hr hlk trivial hf hH rfl rfl dX7_loudest_25
  · have hf := xe c2 hf
    refine lv_iload_n hx hb dX7_loudest_10 rfl (lv_at hl 2 rfl) ?_
    refine lv_iconst (v := (0 : Int32)) hx hb dX7_loudest_11 (by decide) ?_
    refine lv_iload_n hx hb dX7_loudest_12 rfl (lv_at hl 1 rfl) ?_
    obtain ⟨u4, hf4, hf⟩ := xb hf
    refine x_ran (x_runS (rest := []) (As := [.int p2, .int (0 : Int32), .int p1]) hC mw_140 md_X7_within (c_X7_within (X := X) hf4) hH [] rfl (by decide) hl.1 rfl rfl (Nat.le_of_ble_eq_true rfl) dX7_loudest_13 ⟨Nat.le_of_ble_eq_true rfl, Nat.le_of_ble_eq_true rfl⟩ ⟨rfl, rfl⟩ ⟨Nat.le_refl _, Nat.le_refl _⟩) rfl (fun hz4 => ?_)
    refine lv_if_ne (tgt := 26) hx hb dX7_loudest_16 (by decide) (fun c5 => ?_) (fun c5 => ?_)
    · have hf := xe c5 hf
      refine lv_aload_n hx hb dX7_loudest_26 rfl (lv_at hl 0 rfl) ?_
      refine x_get hC fd_RX7_52 hH.1 0 rfl rfl dX7_loudest_27 ?_
      refine lv_if_ne (tgt := 40) hx hb dX7_loudest_30 (by decide) (fun c6 => ?_) (fun c6 => ?_)
      · have hf := xe c6 hf
        refine lv_iconst (v := (-1 : Int32)) hx hb dX7_loudest_40 (by decide) ?_
        refine lv_istore_n (lv' := [(3, .int (-1 : Int32)), (0, .ref h0), (1, .int p1), (2, .int p2)]) hx hb dX7_loudest_41 rfl hl (by decide) rfl (fun ls hl => ?_)
        refine lv_iconst (v := (-1 : Int32)) hx hb dX7_loudest_42 (by decide) ?_
        refine lv_istore (lv' := [(4, .int (-1 : Int32)), (3, .int (-1 : Int32)), (0, .ref h0), (1, .int p1), (2, .int p2)]) hx hb dX7_loudest_43 hl (by decide) rfl (fun ls hl => ?_)
        refine lv_iconst (v := (0 : Int32)) hx hb dX7_loudest_45 (by decide) ?_
        refine lv_istore (lv' := [(5, .int (0 : Int32)), (4, .int (-1 : Int32)), (3, .int (-1 : Int32)), (0, .ref h0), (1, .int p1), (2, .int p2)]) hx hb dX7_loudest_46 hl (by decide) rfl (fun ls hl => ?_)
        exact L48 xN ((-1 : Int32), (-1 : Int32), (0 : Int32)) hf _ _ hH ls (lv_sub hl [3, 4, 5, 2, 1, 0] rfl)
      · have hf := xt c6 hf
        refine lv_aload_n hx hb dX7_loudest_33 rfl (lv_at hl 0 rfl) ?_
        refine lv_bipush (v := (-5 : Int32)) hx hb dX7_loudest_34 (by decide) ?_
        obtain ⟨u12, hf12, hf⟩ := xb hf
        refine x_ranw (ws' := [(h0, xO 7 [.int v_laws, .ref h1, .ref h2, .int v_inForce, .int v_depth, .int v_miss, .long v_ring, .int v_size, .int v_people, .ref g0, .int v_seed, .int v_taped, .ref g1, .int v_from, .int v_to, .int v_token, .int v_value, .ref g2, .ref g3, .ref g4, .ref h3, .int v_imaged, .ref g5, .long v_oldRing, .ref g6, .long v_aheadRing, .ref g7]), (h1, xI X 6 v_kind), (h2, xI X 6 v_own), (h3, xI X 7 u12.2)]) (x_runV (q0 := 0) (rest := []) (As := [.int (-5 : Int32)]) hC mw_143 md_X7_no (c_X7_no (X := X) hf12) hH [0, 3] rfl (by decide) rfl rfl rfl hl.1 rfl rfl (Nat.le_of_ble_eq_true rfl) dX7_loudest_36 ⟨Nat.le_of_ble_eq_true rfl, Nat.le_of_ble_eq_true rfl⟩ ⟨rfl, rfl⟩ ⟨Nat.le_refl _, Nat.le_refl _⟩) hH [0, 3] rfl rfl rfl rfl rfl (fun hz12 H locs hH => ?_)
        exact x_retiw (φ := fun _ => True) (f := fun u : Int32 × (Nat → Int32) => u.1) (wf := fun u : Int32 × (Nat → Int32) => [(h0, xO 7 [.int v_laws, .ref h1, .ref h2, .int v_inForce, .int v_depth, .int v_miss, .long v_ring, .int v_size, .int v_people, .ref g0, .int v_seed, .int v_taped, .ref g1, .int v_from, .int v_to, .int v_token, .int v_value, .ref g2, .ref g3, .ref g4, .ref h3, .int v_imaged, .ref g5, .long v_oldRing, .ref g6, .long v_aheadRing, .ref g7]), (h1, xI X 6 v_kind), (h2, xI X 6 v_own), (h3, xI X 7 u.2)]) hC hr hlk trivial hf hH rfl rfl dX7_loudest_39
    · have hf := xt c5 hf
      refine lv_aload_n hx hb dX7_loudest_19 rfl (lv_at hl 0 rfl) ?_
      refine lv_bipush (v := (-2 : Int32)) hx hb dX7_loudest_20 (by decide) ?_
      obtain ⟨u13, hf13, hf⟩ := xb hf
      refine x_ranw (ws' := [(h0, xO 7 [.int v_laws, .ref h1, .ref h2, .int v_inForce, .int v_depth, .int v_miss, .long v_ring, .int v_size, .int v_people, .ref g0, .int v_seed, .int v_taped, .ref g1, .int v_from, .int v_to, .int v_token, .int v_value, .ref g2, .ref g3, .ref g4, .ref h3, .int v_imaged, .ref g5, .long v_oldRing, .ref g6, .long v_aheadRing, .ref g7]), (h1, xI X 6 v_kind), (h2, xI X 6 v_own), (h3, xI X 7 u13.2)]) (x_runV (q0 := 0) (rest := []) (As := [.int (-2 : Int32)]) hC mw_143 md_X7_no (c_X7_no (X := X) hf13) hH [0, 3] rfl (by decide) rfl rfl rfl hl.1 rfl rfl (Nat.le_of_ble_eq_true rfl) dX7_loudest_22 ⟨Nat.le_of_ble_eq_true rfl, Nat.le_of_ble_eq_true rfl⟩ ⟨rfl, rfl⟩ ⟨Nat.le_refl _, Nat.le_refl _⟩) hH [0, 3] rfl rfl rfl rfl rfl (fun hz13 H locs hH => ?_)
      exact x_retiw (φ := fun _ => True) (f := fun u : Int32 × (Nat → Int32) => u.1) (wf := fun u : Int32 × (Nat → Int32) => [(h0, xO 7 [.int v_laws, .ref h1, .ref h2, .int v_inForce, .int v_depth, .int v_miss, .long v_ring, .int v_size, .int v_people, .ref g0, .int v_seed, .int v_taped, .ref g1, .int v_from, .int v_to, .int v_token, .int v_value, .ref g2, .ref g3, .ref g4, .ref h3, .int v_imaged, .ref g5, .long v_oldRing, .ref g6, .long v_aheadRing, .ref g7]), (h1, xI X 6 v_kind), (h2, xI X 6 v_own), (h3, xI X 7 u.2)]) hC hr hlk trivial hf hH rfl rfl dX7_loudest_25
def f_X7_noHeard (v_size : Int32) (v_holding : (Nat → Int32)) (v_rowLength : (Nat → Int32)) (p1 : Int32) : Option (Int32) :=
  (f_X7_isShelf p1).bind fun u1 =>
  if u1 = 0 then
    some (-2 : Int32)
  else
  (f_X7_isRow v_holding p1).bind fun u3 =>
  if u3 = 0 then
    (f_X7_noRow v_holding p1).bind fun u7 =>
    some u7
  else
  if xout p1 8 then none else
  if v_size ≤ (v_rowLength (xat p1)) then
    some (0 : Int32)
  else
  some (-2 : Int32)
set_option maxHeartbeats 4000000 in
set_option maxRecDepth 100000 in
theorem c_X7_noHeard {l : Launch} {X : xG} {h0 h1 h2 g0 g1 g2 g3 g4 g5 g6 g7 g8 : Nat} {v_laws : Int32} {v_inForce : Int32} {v_depth : Int32} {v_miss : Int32} {v_ring : Int64} {v_size : Int32} {v_people : Int32} {v_seed : Int32} {v_taped : Int32} {v_from : Int32} {v_to : Int32} {v_token : Int32} {v_value : Int32} {v_imaged : Int32} {v_oldRing : Int64} {v_aheadRing : Int64} {v_holding : (Nat → Int32)} {v_rowLength : (Nat → Int32)} {p1 : Int32} {u : Int32} (hf : f_X7_noHeard v_size v_holding v_rowLength p1 = some u) : Met l yX7_noHeard (xw yX7_noHeard cX7_noHeard 2 (some .int)) (xrm 2 43) (xPc [.ref h0, .int p1] X [(h0, xO 7 [.int v_laws, .ref g0, .ref g1, .int v_inForce, .int v_depth, .int v_miss, .long v_ring, .int v_size, .int v_people, .ref g2, .int v_seed, .int v_taped, .ref g3, .int v_from, .int v_to, .int v_token, .int v_value, .ref h1, .ref h2, .ref g4, .ref g5, .int v_imaged, .ref g6, .long v_oldRing, .ref g7, .long v_aheadRing, .ref g8]), (h1, xI X 8 v_holding), (h2, xI X 8 v_rowLength)]) (xQ True (.returned (some (.int u)))) 0 0 xNo := by
  refine xMet (n := 1) md_X7_noHeard.1 (Nat.le_of_ble_eq_true rfl) ?_
  intro p e s m args below meth c ls A hC hr hlk hH hl
  have hl : lv_has ls 2 [(0, .ref h0), (1, .int p1)] := hl
  have hx := hC.1
  have hb := hC.2.1
  refine lv_iload_n hx hb dX7_noHeard_0 rfl (lv_at hl 1 rfl) ?_
  obtain ⟨u1, hf1, hf⟩ := xb hf
  refine x_ran (x_runS (rest := []) (As := [.int p1]) hC mw_137 md_X7_isShelf (c_X7_isShelf (X := X) hf1) hH [] rfl (by decide) hl.1 rfl rfl (Nat.le_of_ble_eq_true rfl) dX7_noHeard_1 ⟨Nat.le_of_ble_eq_true rfl, Nat.le_of_ble_eq_true rfl⟩ ⟨rfl, rfl⟩ ⟨Nat.le_refl _, Nat.le_refl _⟩) rfl (fun hz1 => ?_)
  refine lv_if_ne (tgt := 10) hx hb dX7_noHeard_4 (by decide) (fun c2 => ?_) (fun c2 => ?_)
  · have hf := xe c2 hf
    refine lv_aload_n hx hb dX7_noHeard_10 rfl (lv_at hl 0 rfl) ?_
    refine lv_iload_n hx hb dX7_noHeard_11 rfl (lv_at hl 1 rfl) ?_
    obtain ⟨u3, hf3, hf⟩ := xb hf
    refine x_ran (x_runV (q0 := 0) (rest := []) (As := [.int p1]) hC mw_169 md_X7_isRow (c_X7_isRow (X := X) hf3) hH [0, 1] rfl (by decide) rfl rfl rfl hl.1 rfl rfl (Nat.le_of_ble_eq_true rfl) dX7_noHeard_12 ⟨Nat.le_of_ble_eq_true rfl, Nat.le_of_ble_eq_true rfl⟩ ⟨rfl, rfl⟩ ⟨Nat.le_refl _, Nat.le_refl _⟩) rfl (fun hz3 => ?_)
    refine lv_if_ne (tgt := 26) hx hb dX7_noHeard_15 (by decide) (fun c4 => ?_) (fun c4 => ?_)
    · have hf := xe c4 hf
      refine lv_aload_n hx hb dX7_noHeard_26 rfl (lv_at hl 0 rfl) ?_
      refine x_get hC fd_RX7_25 hH.1 0 rfl rfl dX7_noHeard_27 ?_
      refine lv_iload_n hx hb dX7_noHeard_30 rfl (lv_at hl 1 rfl) ?_
      obtain ⟨n5, hf⟩ := xok hf
      refine x_iald hC hH.1 2 rfl n5 dX7_noHeard_31 ?_
      refine lv_aload_n hx hb dX7_noHeard_32 rfl (lv_at hl 0 rfl) ?_
      refine x_get hC fd_RX7_62 hH.1 0 rfl rfl dX7_noHeard_33 ?_
      refine lv_icmp_ge (tgt := 44) hx hb dX7_noHeard_36 (by decide) (fun c6 => ?_) (fun c6 => ?_)
      · have hf := xt c6 hf
        refine lv_iconst (v := (0 : Int32)) hx hb dX7_noHeard_44 (by decide) ?_
        exact x_reti hC hr hlk trivial hf dX7_noHeard_45
      · have hf := xe c6 hf
        refine lv_bipush (v := (-2 : Int32)) hx hb dX7_noHeard_39 (by decide) ?_
        refine lv_goto (tgt := 45) hx hb dX7_noHeard_41 (by decide) ?_
        exact x_reti hC hr hlk trivial hf dX7_noHeard_45
    · have hf := xt c4 hf
      refine lv_aload_n hx hb dX7_noHeard_18 rfl (lv_at hl 0 rfl) ?_
      refine lv_iload_n hx hb dX7_noHeard_19 rfl (lv_at hl 1 rfl) ?_
      obtain ⟨u7, hf7, hf⟩ := xb hf
      refine x_ran (x_runV (q0 := 0) (rest := []) (As := [.int p1]) hC mw_173 md_X7_noRow (c_X7_noRow (X := X) hf7) hH [0, 1] rfl (by decide) rfl rfl rfl hl.1 rfl rfl (Nat.le_of_ble_eq_true rfl) dX7_noHeard_20 ⟨Nat.le_of_ble_eq_true rfl, Nat.le_of_ble_eq_true rfl⟩ ⟨rfl, rfl⟩ ⟨Nat.le_refl _, Nat.le_refl _⟩) rfl (fun hz7 => ?_)
      refine lv_goto (tgt := 45) hx hb dX7_noHeard_23 (by decide) ?_
      exact x_reti hC hr hlk trivial hf dX7_noHeard_45
  · have hf := xt c2 hf
    refine lv_bipush (v := (-2 : Int32)) hx hb dX7_noHeard_7 (by decide) ?_
    exact x_reti hC hr hlk trivial hf dX7_noHeard_9
def f_X7_differsNow_J46 (s4 : Int32 × Int32) (j46_s0 : Int32) (j46_s1 : Int32) : Option ((Int32) ⊕ (Int32 × Int32)) :=
  if j46_s0 = j46_s1 then
    some (.inr (s4.1, s4.2 + (1 : Int32)))
  else
  some (.inr (s4.1 + (1 : Int32), s4.2 + (1 : Int32)))
def f_X7_differsNow_L4 (v_laws : Int32) (v_inForce : Int32) (v_depth : Int32) (v_ring : Int64) (v_size : Int32) (v_kind : (Nat → Int32)) (v_own : (Nat → Int32)) (v_rowOf : (Nat → Int64)) (p1 : Int32) (s4 : Int32 × Int32) : Option ((Int32) ⊕ (Int32 × Int32)) :=
  if v_size ≤ s4.2 then
    some (.inl s4.1)
  else
  (f_X7_isHeard v_laws v_inForce v_depth v_kind v_own v_ring v_size s4.2).bind fun u2 =>
  if xout (((40 : Int32) * p1) + s4.2) 320 then none else
  if (xcmp (v_rowOf (xat (((40 : Int32) * p1) + s4.2))) (0 : Int64)) = 0 then
    f_X7_differsNow_J46 s4 u2 (0 : Int32)
  else
  f_X7_differsNow_J46 s4 u2 (1 : Int32)
def f_X7_differsNow (v_laws : Int32) (v_inForce : Int32) (v_depth : Int32) (v_ring : Int64) (v_size : Int32) (v_kind : (Nat → Int32)) (v_own : (Nat → Int32)) (v_rowOf : (Nat → Int64)) (p1 : Int32) : Option (Int32) :=
  xloop (f_X7_differsNow_L4 v_laws v_inForce v_depth v_ring v_size v_kind v_own v_rowOf p1) xN ((0 : Int32), (0 : Int32))
set_option maxHeartbeats 4000000 in
set_option maxRecDepth 100000 in
theorem c_X7_differsNow {l : Launch} {X : xG} {h0 h1 h2 h3 g0 g1 g2 g3 g4 g5 g6 g7 : Nat} {v_laws : Int32} {v_inForce : Int32} {v_depth : Int32} {v_miss : Int32} {v_ring : Int64} {v_size : Int32} {v_people : Int32} {v_seed : Int32} {v_taped : Int32} {v_from : Int32} {v_to : Int32} {v_token : Int32} {v_value : Int32} {v_imaged : Int32} {v_oldRing : Int64} {v_aheadRing : Int64} {v_kind : (Nat → Int32)} {v_own : (Nat → Int32)} {v_rowOf : (Nat → Int64)} {p1 : Int32} {u : Int32} (hf : f_X7_differsNow v_laws v_inForce v_depth v_ring v_size v_kind v_own v_rowOf p1 = some u) : Met l yX7_differsNow (xw yX7_differsNow cX7_differsNow 4 (some .int)) (xrm 5 120) (xPc [.ref h0, .int p1] X [(h0, xO 7 [.int v_laws, .ref h1, .ref h2, .int v_inForce, .int v_depth, .int v_miss, .long v_ring, .int v_size, .int v_people, .ref g0, .int v_seed, .int v_taped, .ref g1, .int v_from, .int v_to, .int v_token, .int v_value, .ref g2, .ref g3, .ref h3, .ref g4, .int v_imaged, .ref g5, .long v_oldRing, .ref g6, .long v_aheadRing, .ref g7]), (h1, xI X 6 v_kind), (h2, xI X 6 v_own), (h3, xJ X 320 v_rowOf)]) (xQ True (.returned (some (.int u)))) 0 0 xNo := by
  refine xMet (n := 1) md_X7_differsNow.1 (Nat.le_of_ble_eq_true rfl) ?_
  intro p e s m args below meth c ls A hC hr hlk hH hl
  have hl : lv_has ls 4 [(0, .ref h0), (1, .int p1)] := hl
  have hx := hC.1
  have hb := hC.2.1
  have L4 : ∀ (n : Nat) (s4 : Int32 × Int32), xloop (f_X7_differsNow_L4 v_laws v_inForce v_depth v_ring v_size v_kind v_own v_rowOf p1) n s4 = some u → ∀ (ls : Array Slot), lv_has ls 4 [(0, .ref h0), (1, .int p1), (2, .int s4.1), (3, .int s4.2)] → W p l e (xrm 5 120) s m args below meth c s.heap [] 0 0 (MQ below (xQ True (.returned (some (.int u)))) args s 0 0 xNo) (F0 m 4 ls []) := by
    intro  n
    induction n with
    | zero => intro s4 hf; exact xloop_0 hf
    | succ n ih4 =>
      intro s4 hf ls hl
      obtain ⟨o4, hf, ho4⟩ := xloop_s hf
      have J46 : ∀ (j46_s0 : Int32) (j46_s1 : Int32), f_X7_differsNow_J46 s4 j46_s0 j46_s1 = some o4 → ∀ (ls : Array Slot), lv_has ls 4 [(0, .ref h0), (1, .int p1), (2, .int s4.1), (3, .int s4.2)] → W p l e (xrm 5 120) s m args below meth c s.heap [] 0 0 (MQ below (xQ True (.returned (some (.int u)))) args s 0 0 xNo) (F0 m 46 ls [.int j46_s1, .int j46_s0]) := by
        intro j46_s0 j46_s1 hf ls hl
        refine lv_icmp_eq (tgt := 52) hx hb dX7_differsNow_46 (by decide) (fun c5 => ?_) (fun c5 => ?_)
        · have hf := xt c5 hf
          refine lv_iinc (v := s4.2 + (1 : Int32)) (lv' := [(3, .int (s4.2 + (1 : Int32))), (0, .ref h0), (1, .int p1), (2, .int s4.1)]) hx hb dX7_differsNow_52 hl (k := 3) rfl rfl (by decide) rfl (fun ls hl => ?_)
          refine lv_goto (tgt := 4) hx hb dX7_differsNow_55 (by decide) ?_
          have hf := xo_go hf ho4
          exact ih4 (s4.1, s4.2 + (1 : Int32)) hf ls (lv_sub hl [1, 2, 3, 0] rfl)
        · have hf := xe c5 hf
          refine lv_iinc (v := s4.1 + (1 : Int32)) (lv' := [(2, .int (s4.1 + (1 : Int32))), (0, .ref h0), (1, .int p1), (3, .int s4.2)]) hx hb dX7_differsNow_49 hl (k := 2) rfl rfl (by decide) rfl (fun ls hl => ?_)
          refine lv_iinc (v := s4.2 + (1 : Int32)) (lv' := [(3, .int (s4.2 + (1 : Int32))), (2, .int (s4.1 + (1 : Int32))), (0, .ref h0), (1, .int p1)]) hx hb dX7_differsNow_52 hl (k := 3) rfl rfl (by decide) rfl (fun ls hl => ?_)
          refine lv_goto (tgt := 4) hx hb dX7_differsNow_55 (by decide) ?_
          have hf := xo_go hf ho4
          exact ih4 (s4.1 + (1 : Int32), s4.2 + (1 : Int32)) hf ls (lv_sub hl [2, 3, 1, 0] rfl)
      refine lv_iload_n hx hb dX7_differsNow_4 rfl (lv_at hl 3 rfl) ?_
      refine lv_aload_n hx hb dX7_differsNow_5 rfl (lv_at hl 0 rfl) ?_
      refine x_get hC fd_RX7_62 hH.1 0 rfl rfl dX7_differsNow_6 ?_
      refine lv_icmp_ge (tgt := 58) hx hb dX7_differsNow_9 (by decide) (fun c1 => ?_) (fun c1 => ?_)
      · have hf := xt c1 hf
        refine lv_iload_n hx hb dX7_differsNow_58 rfl (lv_at hl 2 rfl) ?_
        have hf := xo_ret hf ho4
        exact x_reti hC hr hlk trivial hf dX7_differsNow_59
      · have hf := xe c1 hf
        refine lv_aload_n hx hb dX7_differsNow_12 rfl (lv_at hl 0 rfl) ?_
        refine lv_aload_n hx hb dX7_differsNow_13 rfl (lv_at hl 0 rfl) ?_
        refine x_get hC fd_RX7_90 hH.1 0 rfl rfl dX7_differsNow_14 ?_
        refine lv_aload_n hx hb dX7_differsNow_17 rfl (lv_at hl 0 rfl) ?_
        refine x_get hC fd_RX7_62 hH.1 0 rfl rfl dX7_differsNow_18 ?_
        refine lv_iload_n hx hb dX7_differsNow_21 rfl (lv_at hl 3 rfl) ?_
        obtain ⟨u2, hf2, hf⟩ := xb hf
        refine x_ran (x_runV (q0 := 0) (rest := []) (As := [.long v_ring, .int v_size, .int s4.2]) hC mw_732 md_X7_isHeard (c_X7_isHeard (X := X) hf2) hH [0, 1, 2] rfl (by decide) rfl rfl rfl hl.1 rfl rfl (Nat.le_of_ble_eq_true rfl) dX7_differsNow_22 ⟨Nat.le_of_ble_eq_true rfl, Nat.le_of_ble_eq_true rfl⟩ ⟨rfl, rfl⟩ ⟨Nat.le_refl _, Nat.le_refl _⟩) rfl (fun hz2 => ?_)
        refine lv_aload_n hx hb dX7_differsNow_25 rfl (lv_at hl 0 rfl) ?_
        refine x_get hC fd_RX7_28 hH.1 0 rfl rfl dX7_differsNow_26 ?_
        refine lv_bipush (v := (40 : Int32)) hx hb dX7_differsNow_29 (by decide) ?_
        refine lv_iload_n hx hb dX7_differsNow_31 rfl (lv_at hl 1 rfl) ?_
        refine lv_imul hx hb dX7_differsNow_32 ?_
        refine lv_iload_n hx hb dX7_differsNow_33 rfl (lv_at hl 3 rfl) ?_
        refine lv_iadd hx hb dX7_differsNow_34 ?_
        obtain ⟨n3, hf⟩ := xok hf
        refine x_lald hC hH.1 3 rfl n3 dX7_differsNow_35 ?_
        refine lv_lconst (v := (0 : Int64)) hx hb dX7_differsNow_36 (by decide) ?_
        refine x_lcmp hx hb dX7_differsNow_37 ?_
        refine lv_if_eq (tgt := 45) hx hb dX7_differsNow_38 (by decide) (fun c4 => ?_) (fun c4 => ?_)
        · have hf := xt c4 hf
          refine lv_iconst (v := (0 : Int32)) hx hb dX7_differsNow_45 (by decide) ?_
          exact J46 u2 (0 : Int32) hf ls (lv_sub hl [0, 1, 2, 3] rfl)
        · have hf := xe c4 hf
          refine lv_iconst (v := (1 : Int32)) hx hb dX7_differsNow_41 (by decide) ?_
          refine lv_goto (tgt := 46) hx hb dX7_differsNow_42 (by decide) ?_
          exact J46 u2 (1 : Int32) hf ls (lv_sub hl [0, 1, 2, 3] rfl)
  refine lv_iconst (v := (0 : Int32)) hx hb dX7_differsNow_0 (by decide) ?_
  refine lv_istore_n (lv' := [(2, .int (0 : Int32)), (0, .ref h0), (1, .int p1)]) hx hb dX7_differsNow_1 rfl hl (by decide) rfl (fun ls hl => ?_)
  refine lv_iconst (v := (0 : Int32)) hx hb dX7_differsNow_2 (by decide) ?_
  refine lv_istore_n (lv' := [(3, .int (0 : Int32)), (2, .int (0 : Int32)), (0, .ref h0), (1, .int p1)]) hx hb dX7_differsNow_3 rfl hl (by decide) rfl (fun ls hl => ?_)
  exact L4 xN ((0 : Int32), (0 : Int32)) hf ls (lv_sub hl [2, 3, 1, 0] rfl)
def f_X7_depths_J57 (s29 : Int32 × Int32) (j57_4 : Int32) : Option ((Int32 × Int32 × (Nat → Int32)) ⊕ (Int32 × Int32)) :=
  some (.inr (j57_4, s29.2 + (1 : Int32)))
def f_X7_depths_L29 (v_laws : Int32) (v_inForce : Int32) (v_ring : Int64) (v_size : Int32) (v_kind : (Nat → Int32)) (v_own : (Nat → Int32)) (v_refusals : (Nat → Int32)) (v_rowOf : (Nat → Int64)) (p1 : Int32) (x29_3 : Int32) (s29 : Int32 × Int32) : Option ((Int32 × Int32 × (Nat → Int32)) ⊕ (Int32 × Int32)) :=
  if (10 : Int32) ≤ s29.2 then
    some (.inl (s29.1, x29_3, v_refusals))
  else
  (f_X7_differsNow v_laws v_inForce s29.2 v_ring v_size v_kind v_own v_rowOf p1).bind fun u4 =>
  if u4 = 0 then
    f_X7_depths_J57 s29 (s29.1 ||| (xshl (1 : Int32) s29.2))
  else
  f_X7_depths_J57 s29 s29.1
def f_X7_depths (v_laws : Int32) (v_inForce : Int32) (v_depth : Int32) (v_ring : Int64) (v_size : Int32) (v_holding : (Nat → Int32)) (v_kind : (Nat → Int32)) (v_own : (Nat → Int32)) (v_refusals : (Nat → Int32)) (v_rowLength : (Nat → Int32)) (v_rowOf : (Nat → Int64)) (p1 : Int32) : Option (Int32 × Int32 × (Nat → Int32)) :=
  (f_X7_noHeard v_size v_holding v_rowLength p1).bind fun u1 =>
  if 0 ≤ u1 then
    xloop (f_X7_depths_L29 v_laws v_inForce v_ring v_size v_kind v_own v_refusals v_rowOf p1 v_depth) xN ((0 : Int32), (0 : Int32))
  else
  (f_X7_no v_refusals u1).bind fun u6 =>
  some (u6.1, v_depth, u6.2)
set_option maxHeartbeats 4000000 in
set_option maxRecDepth 100000 in
theorem c_X7_depths {l : Launch} {X : xG} {h0 h1 h2 h3 h4 h5 h6 g0 g1 g2 g3 g4 : Nat} {v_laws : Int32} {v_inForce : Int32} {v_depth : Int32} {v_miss : Int32} {v_ring : Int64} {v_size : Int32} {v_people : Int32} {v_seed : Int32} {v_taped : Int32} {v_from : Int32} {v_to : Int32} {v_token : Int32} {v_value : Int32} {v_imaged : Int32} {v_oldRing : Int64} {v_aheadRing : Int64} {v_holding : (Nat → Int32)} {v_kind : (Nat → Int32)} {v_own : (Nat → Int32)} {v_refusals : (Nat → Int32)} {v_rowLength : (Nat → Int32)} {v_rowOf : (Nat → Int64)} {p1 : Int32} {u : Int32 × Int32 × (Nat → Int32)} (hf : f_X7_depths v_laws v_inForce v_depth v_ring v_size v_holding v_kind v_own v_refusals v_rowLength v_rowOf p1 = some u) : Met l yX7_depths (xw yX7_depths cX7_depths 5 (some .int)) (xrm 6 143) (xPc [.ref h0, .int p1] X [(h0, xO 7 [.int v_laws, .ref h2, .ref h3, .int v_inForce, .int v_depth, .int v_miss, .long v_ring, .int v_size, .int v_people, .ref g0, .int v_seed, .int v_taped, .ref g1, .int v_from, .int v_to, .int v_token, .int v_value, .ref h1, .ref h5, .ref h6, .ref h4, .int v_imaged, .ref g2, .long v_oldRing, .ref g3, .long v_aheadRing, .ref g4]), (h1, xI X 8 v_holding), (h2, xI X 6 v_kind), (h3, xI X 6 v_own), (h4, xI X 7 v_refusals), (h5, xI X 8 v_rowLength), (h6, xJ X 320 v_rowOf)]) (xQw True (.returned (some (.int u.1))) X [(h0, xO 7 [.int v_laws, .ref h2, .ref h3, .int v_inForce, .int u.2.1, .int v_miss, .long v_ring, .int v_size, .int v_people, .ref g0, .int v_seed, .int v_taped, .ref g1, .int v_from, .int v_to, .int v_token, .int v_value, .ref h1, .ref h5, .ref h6, .ref h4, .int v_imaged, .ref g2, .long v_oldRing, .ref g3, .long v_aheadRing, .ref g4]), (h1, xI X 8 v_holding), (h2, xI X 6 v_kind), (h3, xI X 6 v_own), (h4, xI X 7 u.2.2), (h5, xI X 8 v_rowLength), (h6, xJ X 320 v_rowOf)] (xAs [(h0, xO 7 [.int v_laws, .ref h2, .ref h3, .int v_inForce, .int v_depth, .int v_miss, .long v_ring, .int v_size, .int v_people, .ref g0, .int v_seed, .int v_taped, .ref g1, .int v_from, .int v_to, .int v_token, .int v_value, .ref h1, .ref h5, .ref h6, .ref h4, .int v_imaged, .ref g2, .long v_oldRing, .ref g3, .long v_aheadRing, .ref g4]), (h1, xI X 8 v_holding), (h2, xI X 6 v_kind), (h3, xI X 6 v_own), (h4, xI X 7 v_refusals), (h5, xI X 8 v_rowLength), (h6, xJ X 320 v_rowOf)])) 0 0 (xAs [(h0, xO 7 [.int v_laws, .ref h2, .ref h3, .int v_inForce, .int v_depth, .int v_miss, .long v_ring, .int v_size, .int v_people, .ref g0, .int v_seed, .int v_taped, .ref g1, .int v_from, .int v_to, .int v_token, .int v_value, .ref h1, .ref h5, .ref h6, .ref h4, .int v_imaged, .ref g2, .long v_oldRing, .ref g3, .long v_aheadRing, .ref g4]), (h1, xI X 8 v_holding), (h2, xI X 6 v_kind), (h3, xI X 6 v_own), (h4, xI X 7 v_refusals), (h5, xI X 8 v_rowLength), (h6, xJ X 320 v_rowOf)]) := by
  refine xMetw (Qc := fun A => xQw True (.returned (some (.int u.1))) X [(h0, xO 7 [.int v_laws, .ref h2, .ref h3, .int v_inForce, .int u.2.1, .int v_miss, .long v_ring, .int v_size, .int v_people, .ref g0, .int v_seed, .int v_taped, .ref g1, .int v_from, .int v_to, .int v_token, .int v_value, .ref h1, .ref h5, .ref h6, .ref h4, .int v_imaged, .ref g2, .long v_oldRing, .ref g3, .long v_aheadRing, .ref g4]), (h1, xI X 8 v_holding), (h2, xI X 6 v_kind), (h3, xI X 6 v_own), (h4, xI X 7 u.2.2), (h5, xI X 8 v_rowLength), (h6, xJ X 320 v_rowOf)] A) (n := 1) md_X7_depths.1 (Nat.le_of_ble_eq_true rfl) ?_
  intro p e s m args below meth c ls A hC hr hlk hH hl
  have hl : lv_has ls 5 [(0, .ref h0), (1, .int p1)] := hl
  have hx := hC.1
  have hb := hC.2.1
  have L29 : ∀ (x29_3 : Int32) (n : Nat) (s29 : Int32 × Int32), xloop (f_X7_depths_L29 v_laws v_inForce v_ring v_size v_kind v_own v_refusals v_rowOf p1 x29_3) n s29 = some u → ∀ (H : Heap) (locs : List Loc), xH X A [(h0, xO 7 [.int v_laws, .ref h2, .ref h3, .int v_inForce, .int s29.2, .int v_miss, .long v_ring, .int v_size, .int v_people, .ref g0, .int v_seed, .int v_taped, .ref g1, .int v_from, .int v_to, .int v_token, .int v_value, .ref h1, .ref h5, .ref h6, .ref h4, .int v_imaged, .ref g2, .long v_oldRing, .ref g3, .long v_aheadRing, .ref g4]), (h1, xI X 8 v_holding), (h2, xI X 6 v_kind), (h3, xI X 6 v_own), (h4, xI X 7 v_refusals), (h5, xI X 8 v_rowLength), (h6, xJ X 320 v_rowOf)] s.heap H locs → ∀ (ls : Array Slot), lv_has ls 5 [(0, .ref h0), (1, .int p1), (3, .int x29_3), (4, .int s29.1)] → W p l e (xrm 6 143) s m args below meth c H locs 0 0 (MQ below (xQw True (.returned (some (.int u.1))) X [(h0, xO 7 [.int v_laws, .ref h2, .ref h3, .int v_inForce, .int u.2.1, .int v_miss, .long v_ring, .int v_size, .int v_people, .ref g0, .int v_seed, .int v_taped, .ref g1, .int v_from, .int v_to, .int v_token, .int v_value, .ref h1, .ref h5, .ref h6, .ref h4, .int v_imaged, .ref g2, .long v_oldRing, .ref g3, .long v_aheadRing, .ref g4]), (h1, xI X 8 v_holding), (h2, xI X 6 v_kind), (h3, xI X 6 v_own), (h4, xI X 7 u.2.2), (h5, xI X 8 v_rowLength), (h6, xJ X 320 v_rowOf)] A) args s 0 0 A) (F0 m 29 ls []) := by
    intro x29_3 n
    induction n with
    | zero => intro s29 hf; exact xloop_0 hf
    | succ n ih29 =>
      intro s29 hf H locs hH ls hl
      obtain ⟨o29, hf, ho29⟩ := xloop_s hf
      have J57 : ∀ (j57_4 : Int32), f_X7_depths_J57 s29 j57_4 = some o29 → ∀ (H : Heap) (locs : List Loc), xH X A [(h0, xO 7 [.int v_laws, .ref h2, .ref h3, .int v_inForce, .int s29.2, .int v_miss, .long v_ring, .int v_size, .int v_people, .ref g0, .int v_seed, .int v_taped, .ref g1, .int v_from, .int v_to, .int v_token, .int v_value, .ref h1, .ref h5, .ref h6, .ref h4, .int v_imaged, .ref g2, .long v_oldRing, .ref g3, .long v_aheadRing, .ref g4]), (h1, xI X 8 v_holding), (h2, xI X 6 v_kind), (h3, xI X 6 v_own), (h4, xI X 7 v_refusals), (h5, xI X 8 v_rowLength), (h6, xJ X 320 v_rowOf)] s.heap H locs → ∀ (ls : Array Slot), lv_has ls 5 [(0, .ref h0), (1, .int p1), (3, .int x29_3), (4, .int j57_4)] → W p l e (xrm 6 143) s m args below meth c H locs 0 0 (MQ below (xQw True (.returned (some (.int u.1))) X [(h0, xO 7 [.int v_laws, .ref h2, .ref h3, .int v_inForce, .int u.2.1, .int v_miss, .long v_ring, .int v_size, .int v_people, .ref g0, .int v_seed, .int v_taped, .ref g1, .int v_from, .int v_to, .int v_token, .int v_value, .ref h1, .ref h5, .ref h6, .ref h4, .int v_imaged, .ref g2, .long v_oldRing, .ref g3, .long v_aheadRing, .ref g4]), (h1, xI X 8 v_holding), (h2, xI X 6 v_kind), (h3, xI X 6 v_own), (h4, xI X 7 u.2.2), (h5, xI X 8 v_rowLength), (h6, xJ X 320 v_rowOf)] A) args s 0 0 A) (F0 m 57 ls []) := by
        intro j57_4 hf H locs hH ls hl
        refine lv_aload_n hx hb dX7_depths_57 rfl (lv_at hl 0 rfl) ?_
        refine lv_dup hx hb dX7_depths_58 rfl ?_
        refine x_get hC fd_RX7_45 hH.1 0 rfl rfl dX7_depths_59 ?_
        refine lv_iconst (v := (1 : Int32)) hx hb dX7_depths_62 (by decide) ?_
        refine lv_iadd hx hb dX7_depths_63 ?_
        refine x_put (ws' := [(h0, xO 7 [.int v_laws, .ref h2, .ref h3, .int v_inForce, .int (s29.2 + (1 : Int32)), .int v_miss, .long v_ring, .int v_size, .int v_people, .ref g0, .int v_seed, .int v_taped, .ref g1, .int v_from, .int v_to, .int v_token, .int v_value, .ref h1, .ref h5, .ref h6, .ref h4, .int v_imaged, .ref g2, .long v_oldRing, .ref g3, .long v_aheadRing, .ref g4]), (h1, xI X 8 v_holding), (h2, xI X 6 v_kind), (h3, xI X 6 v_own), (h4, xI X 7 v_refusals), (h5, xI X 8 v_rowLength), (h6, xJ X 320 v_rowOf)]) hC fd_RX7_45 hH 0 rfl (Nat.le_of_ble_eq_true rfl) rfl rfl dX7_depths_64 rfl (fun H locs hH => ?_)
        refine lv_goto (tgt := 29) hx hb dX7_depths_67 (by decide) ?_
        have hf := xo_go hf ho29
        exact ih29 (j57_4, s29.2 + (1 : Int32)) hf _ _ hH ls (lv_sub hl [0, 1, 2, 3] rfl)
      refine lv_aload_n hx hb dX7_depths_29 rfl (lv_at hl 0 rfl) ?_
      refine x_get hC fd_RX7_45 hH.1 0 rfl rfl dX7_depths_30 ?_
      refine lv_bipush (v := (10 : Int32)) hx hb dX7_depths_33 (by decide) ?_
      refine lv_icmp_ge (tgt := 70) hx hb dX7_depths_35 (by decide) (fun c3 => ?_) (fun c3 => ?_)
      · have hf := xt c3 hf
        refine lv_aload_n hx hb dX7_depths_70 rfl (lv_at hl 0 rfl) ?_
        refine lv_iload_n hx hb dX7_depths_71 rfl (lv_at hl 2 rfl) ?_
        refine x_put (ws' := [(h0, xO 7 [.int v_laws, .ref h2, .ref h3, .int v_inForce, .int x29_3, .int v_miss, .long v_ring, .int v_size, .int v_people, .ref g0, .int v_seed, .int v_taped, .ref g1, .int v_from, .int v_to, .int v_token, .int v_value, .ref h1, .ref h5, .ref h6, .ref h4, .int v_imaged, .ref g2, .long v_oldRing, .ref g3, .long v_aheadRing, .ref g4]), (h1, xI X 8 v_holding), (h2, xI X 6 v_kind), (h3, xI X 6 v_own), (h4, xI X 7 v_refusals), (h5, xI X 8 v_rowLength), (h6, xJ X 320 v_rowOf)]) hC fd_RX7_45 hH 0 rfl (Nat.le_of_ble_eq_true rfl) rfl rfl dX7_depths_72 rfl (fun H locs hH => ?_)
        refine lv_iload hx hb dX7_depths_75 (lv_at hl 3 rfl) ?_
        have hf := xo_ret hf ho29
        exact x_retiw (φ := fun _ => True) (f := fun u : Int32 × Int32 × (Nat → Int32) => u.1) (wf := fun u : Int32 × Int32 × (Nat → Int32) => [(h0, xO 7 [.int v_laws, .ref h2, .ref h3, .int v_inForce, .int u.2.1, .int v_miss, .long v_ring, .int v_size, .int v_people, .ref g0, .int v_seed, .int v_taped, .ref g1, .int v_from, .int v_to, .int v_token, .int v_value, .ref h1, .ref h5, .ref h6, .ref h4, .int v_imaged, .ref g2, .long v_oldRing, .ref g3, .long v_aheadRing, .ref g4]), (h1, xI X 8 v_holding), (h2, xI X 6 v_kind), (h3, xI X 6 v_own), (h4, xI X 7 u.2.2), (h5, xI X 8 v_rowLength), (h6, xJ X 320 v_rowOf)]) hC hr hlk trivial hf hH rfl rfl dX7_depths_77
      · have hf := xe c3 hf
        refine lv_aload_n hx hb dX7_depths_38 rfl (lv_at hl 0 rfl) ?_
        refine lv_iload_n hx hb dX7_depths_39 rfl (lv_at hl 1 rfl) ?_
        obtain ⟨u4, hf4, hf⟩ := xb hf
        refine x_ran (x_runV (q0 := 0) (rest := []) (As := [.int p1]) hC mw_996 md_X7_differsNow (c_X7_differsNow (X := X) hf4) hH [0, 2, 3, 6] rfl (by decide) rfl rfl rfl hl.1 rfl rfl (Nat.le_of_ble_eq_true rfl) dX7_depths_40 ⟨Nat.le_of_ble_eq_true rfl, Nat.le_of_ble_eq_true rfl⟩ ⟨rfl, rfl⟩ ⟨Nat.le_refl _, Nat.le_refl _⟩) rfl (fun hz4 => ?_)
        refine lv_if_ne (tgt := 57) hx hb dX7_depths_43 (by decide) (fun c5 => ?_) (fun c5 => ?_)
        · have hf := xe c5 hf
          exact J57 s29.1 hf _ _ hH ls (lv_sub hl [0, 1, 2, 3] rfl)
        · have hf := xt c5 hf
          refine lv_iload hx hb dX7_depths_46 (lv_at hl 3 rfl) ?_
          refine lv_iconst (v := (1 : Int32)) hx hb dX7_depths_48 (by decide) ?_
          refine lv_aload_n hx hb dX7_depths_49 rfl (lv_at hl 0 rfl) ?_
          refine x_get hC fd_RX7_45 hH.1 0 rfl rfl dX7_depths_50 ?_
          refine x_ishl hx hb dX7_depths_53 ?_
          refine lv_ior hx hb dX7_depths_54 ?_
          refine lv_istore (lv' := [(4, .int (s29.1 ||| (xshl (1 : Int32) s29.2))), (0, .ref h0), (1, .int p1), (3, .int x29_3)]) hx hb dX7_depths_55 hl (by decide) rfl (fun ls hl => ?_)
          exact J57 (s29.1 ||| (xshl (1 : Int32) s29.2)) hf _ _ hH ls (lv_sub hl [1, 2, 3, 0] rfl)
  refine lv_aload_n hx hb dX7_depths_0 rfl (lv_at hl 0 rfl) ?_
  refine lv_iload_n hx hb dX7_depths_1 rfl (lv_at hl 1 rfl) ?_
  obtain ⟨u1, hf1, hf⟩ := xb hf
  refine x_ran (x_runV (q0 := 0) (rest := []) (As := [.int p1]) hC mw_992 md_X7_noHeard (c_X7_noHeard (X := X) hf1) hH [0, 1, 5] rfl (by decide) rfl rfl rfl hl.1 rfl rfl (Nat.le_of_ble_eq_true rfl) dX7_depths_2 ⟨Nat.le_of_ble_eq_true rfl, Nat.le_of_ble_eq_true rfl⟩ ⟨rfl, rfl⟩ ⟨Nat.le_refl _, Nat.le_refl _⟩) rfl (fun hz1 => ?_)
  refine lv_istore_n (lv' := [(2, .int u1), (0, .ref h0), (1, .int p1)]) hx hb dX7_depths_5 rfl hl (by decide) rfl (fun ls hl => ?_)
  refine lv_iload_n hx hb dX7_depths_6 rfl (lv_at hl 0 rfl) ?_
  refine lv_if_ge (tgt := 16) hx hb dX7_depths_7 (by decide) (fun c2 => ?_) (fun c2 => ?_)
  · have hf := xt c2 hf
    refine lv_aload_n hx hb dX7_depths_16 rfl (lv_at hl 1 rfl) ?_
    refine x_get hC fd_RX7_45 hH.1 0 rfl rfl dX7_depths_17 ?_
    refine lv_istore_n (lv' := [(3, .int v_depth), (2, .int u1), (0, .ref h0), (1, .int p1)]) hx hb dX7_depths_20 rfl hl (by decide) rfl (fun ls hl => ?_)
    refine lv_iconst (v := (0 : Int32)) hx hb dX7_depths_21 (by decide) ?_
    refine lv_istore (lv' := [(4, .int (0 : Int32)), (3, .int v_depth), (2, .int u1), (0, .ref h0), (1, .int p1)]) hx hb dX7_depths_22 hl (by decide) rfl (fun ls hl => ?_)
    refine lv_aload_n hx hb dX7_depths_24 rfl (lv_at hl 3 rfl) ?_
    refine lv_iconst (v := (0 : Int32)) hx hb dX7_depths_25 (by decide) ?_
    refine x_put (ws' := [(h0, xO 7 [.int v_laws, .ref h2, .ref h3, .int v_inForce, .int (0 : Int32), .int v_miss, .long v_ring, .int v_size, .int v_people, .ref g0, .int v_seed, .int v_taped, .ref g1, .int v_from, .int v_to, .int v_token, .int v_value, .ref h1, .ref h5, .ref h6, .ref h4, .int v_imaged, .ref g2, .long v_oldRing, .ref g3, .long v_aheadRing, .ref g4]), (h1, xI X 8 v_holding), (h2, xI X 6 v_kind), (h3, xI X 6 v_own), (h4, xI X 7 v_refusals), (h5, xI X 8 v_rowLength), (h6, xJ X 320 v_rowOf)]) hC fd_RX7_45 hH 0 rfl (Nat.le_of_ble_eq_true rfl) rfl rfl dX7_depths_26 rfl (fun H locs hH => ?_)
    exact L29 v_depth xN ((0 : Int32), (0 : Int32)) hf _ _ hH ls (lv_sub hl [3, 4, 1, 0] rfl)
  · have hf := xe c2 hf
    refine lv_aload_n hx hb dX7_depths_10 rfl (lv_at hl 1 rfl) ?_
    refine lv_iload_n hx hb dX7_depths_11 rfl (lv_at hl 0 rfl) ?_
    obtain ⟨u6, hf6, hf⟩ := xb hf
    refine x_ranw (ws' := [(h0, xO 7 [.int v_laws, .ref h2, .ref h3, .int v_inForce, .int v_depth, .int v_miss, .long v_ring, .int v_size, .int v_people, .ref g0, .int v_seed, .int v_taped, .ref g1, .int v_from, .int v_to, .int v_token, .int v_value, .ref h1, .ref h5, .ref h6, .ref h4, .int v_imaged, .ref g2, .long v_oldRing, .ref g3, .long v_aheadRing, .ref g4]), (h1, xI X 8 v_holding), (h2, xI X 6 v_kind), (h3, xI X 6 v_own), (h4, xI X 7 u6.2), (h5, xI X 8 v_rowLength), (h6, xJ X 320 v_rowOf)]) (x_runV (q0 := 0) (rest := []) (As := [.int u1]) hC mw_143 md_X7_no (c_X7_no (X := X) hf6) hH [0, 4] rfl (by decide) rfl rfl rfl hl.1 rfl rfl (Nat.le_of_ble_eq_true rfl) dX7_depths_12 ⟨Nat.le_of_ble_eq_true rfl, Nat.le_of_ble_eq_true rfl⟩ ⟨rfl, rfl⟩ ⟨Nat.le_refl _, Nat.le_refl _⟩) hH [0, 4] rfl rfl rfl rfl rfl (fun hz6 H locs hH => ?_)
    exact x_retiw (φ := fun _ => True) (f := fun u : Int32 × Int32 × (Nat → Int32) => u.1) (wf := fun u : Int32 × Int32 × (Nat → Int32) => [(h0, xO 7 [.int v_laws, .ref h2, .ref h3, .int v_inForce, .int u.2.1, .int v_miss, .long v_ring, .int v_size, .int v_people, .ref g0, .int v_seed, .int v_taped, .ref g1, .int v_from, .int v_to, .int v_token, .int v_value, .ref h1, .ref h5, .ref h6, .ref h4, .int v_imaged, .ref g2, .long v_oldRing, .ref g3, .long v_aheadRing, .ref g4]), (h1, xI X 8 v_holding), (h2, xI X 6 v_kind), (h3, xI X 6 v_own), (h4, xI X 7 u.2.2), (h5, xI X 8 v_rowLength), (h6, xJ X 320 v_rowOf)]) hC hr hlk trivial hf hH rfl rfl dX7_depths_15
def f_X7_differs (v_laws : Int32) (v_inForce : Int32) (v_depth : Int32) (v_ring : Int64) (v_size : Int32) (v_holding : (Nat → Int32)) (v_kind : (Nat → Int32)) (v_own : (Nat → Int32)) (v_refusals : (Nat → Int32)) (v_rowLength : (Nat → Int32)) (v_rowOf : (Nat → Int64)) (p1 : Int32) : Option (Int32 × (Nat → Int32)) :=
  (f_X7_noHeard v_size v_holding v_rowLength p1).bind fun u1 =>
  if 0 ≤ u1 then
    (f_X7_differsNow v_laws v_inForce v_depth v_ring v_size v_kind v_own v_rowOf p1).bind fun u3 =>
    some (u3, v_refusals)
  else
  (f_X7_no v_refusals u1).bind fun u4 =>
  some (u4.1, u4.2)
set_option maxHeartbeats 4000000 in
set_option maxRecDepth 100000 in
theorem c_X7_differs {l : Launch} {X : xG} {h0 h1 h2 h3 h4 h5 h6 g0 g1 g2 g3 g4 : Nat} {v_laws : Int32} {v_inForce : Int32} {v_depth : Int32} {v_miss : Int32} {v_ring : Int64} {v_size : Int32} {v_people : Int32} {v_seed : Int32} {v_taped : Int32} {v_from : Int32} {v_to : Int32} {v_token : Int32} {v_value : Int32} {v_imaged : Int32} {v_oldRing : Int64} {v_aheadRing : Int64} {v_holding : (Nat → Int32)} {v_kind : (Nat → Int32)} {v_own : (Nat → Int32)} {v_refusals : (Nat → Int32)} {v_rowLength : (Nat → Int32)} {v_rowOf : (Nat → Int64)} {p1 : Int32} {u : Int32 × (Nat → Int32)} (hf : f_X7_differs v_laws v_inForce v_depth v_ring v_size v_holding v_kind v_own v_refusals v_rowLength v_rowOf p1 = some u) : Met l yX7_differs (xw yX7_differs cX7_differs 3 (some .int)) (xrm 6 143) (xPc [.ref h0, .int p1] X [(h0, xO 7 [.int v_laws, .ref h2, .ref h3, .int v_inForce, .int v_depth, .int v_miss, .long v_ring, .int v_size, .int v_people, .ref g0, .int v_seed, .int v_taped, .ref g1, .int v_from, .int v_to, .int v_token, .int v_value, .ref h1, .ref h5, .ref h6, .ref h4, .int v_imaged, .ref g2, .long v_oldRing, .ref g3, .long v_aheadRing, .ref g4]), (h1, xI X 8 v_holding), (h2, xI X 6 v_kind), (h3, xI X 6 v_own), (h4, xI X 7 v_refusals), (h5, xI X 8 v_rowLength), (h6, xJ X 320 v_rowOf)]) (xQw True (.returned (some (.int u.1))) X [(h0, xO 7 [.int v_laws, .ref h2, .ref h3, .int v_inForce, .int v_depth, .int v_miss, .long v_ring, .int v_size, .int v_people, .ref g0, .int v_seed, .int v_taped, .ref g1, .int v_from, .int v_to, .int v_token, .int v_value, .ref h1, .ref h5, .ref h6, .ref h4, .int v_imaged, .ref g2, .long v_oldRing, .ref g3, .long v_aheadRing, .ref g4]), (h1, xI X 8 v_holding), (h2, xI X 6 v_kind), (h3, xI X 6 v_own), (h4, xI X 7 u.2), (h5, xI X 8 v_rowLength), (h6, xJ X 320 v_rowOf)] (xAs [(h0, xO 7 [.int v_laws, .ref h2, .ref h3, .int v_inForce, .int v_depth, .int v_miss, .long v_ring, .int v_size, .int v_people, .ref g0, .int v_seed, .int v_taped, .ref g1, .int v_from, .int v_to, .int v_token, .int v_value, .ref h1, .ref h5, .ref h6, .ref h4, .int v_imaged, .ref g2, .long v_oldRing, .ref g3, .long v_aheadRing, .ref g4]), (h1, xI X 8 v_holding), (h2, xI X 6 v_kind), (h3, xI X 6 v_own), (h4, xI X 7 v_refusals), (h5, xI X 8 v_rowLength), (h6, xJ X 320 v_rowOf)])) 0 0 (xAs [(h0, xO 7 [.int v_laws, .ref h2, .ref h3, .int v_inForce, .int v_depth, .int v_miss, .long v_ring, .int v_size, .int v_people, .ref g0, .int v_seed, .int v_taped, .ref g1, .int v_from, .int v_to, .int v_token, .int v_value, .ref h1, .ref h5, .ref h6, .ref h4, .int v_imaged, .ref g2, .long v_oldRing, .ref g3, .long v_aheadRing, .ref g4]), (h1, xI X 8 v_holding), (h2, xI X 6 v_kind), (h3, xI X 6 v_own), (h4, xI X 7 v_refusals), (h5, xI X 8 v_rowLength), (h6, xJ X 320 v_rowOf)]) := by
  refine xMetw (Qc := fun A => xQw True (.returned (some (.int u.1))) X [(h0, xO 7 [.int v_laws, .ref h2, .ref h3, .int v_inForce, .int v_depth, .int v_miss, .long v_ring, .int v_size, .int v_people, .ref g0, .int v_seed, .int v_taped, .ref g1, .int v_from, .int v_to, .int v_token, .int v_value, .ref h1, .ref h5, .ref h6, .ref h4, .int v_imaged, .ref g2, .long v_oldRing, .ref g3, .long v_aheadRing, .ref g4]), (h1, xI X 8 v_holding), (h2, xI X 6 v_kind), (h3, xI X 6 v_own), (h4, xI X 7 u.2), (h5, xI X 8 v_rowLength), (h6, xJ X 320 v_rowOf)] A) (n := 1) md_X7_differs.1 (Nat.le_of_ble_eq_true rfl) ?_
  intro p e s m args below meth c ls A hC hr hlk hH hl
  have hl : lv_has ls 3 [(0, .ref h0), (1, .int p1)] := hl
  have hx := hC.1
  have hb := hC.2.1
  refine lv_aload_n hx hb dX7_differs_0 rfl (lv_at hl 0 rfl) ?_
  refine lv_iload_n hx hb dX7_differs_1 rfl (lv_at hl 1 rfl) ?_
  obtain ⟨u1, hf1, hf⟩ := xb hf
  refine x_ran (x_runV (q0 := 0) (rest := []) (As := [.int p1]) hC mw_992 md_X7_noHeard (c_X7_noHeard (X := X) hf1) hH [0, 1, 5] rfl (by decide) rfl rfl rfl hl.1 rfl rfl (Nat.le_of_ble_eq_true rfl) dX7_differs_2 ⟨Nat.le_of_ble_eq_true rfl, Nat.le_of_ble_eq_true rfl⟩ ⟨rfl, rfl⟩ ⟨Nat.le_refl _, Nat.le_refl _⟩) rfl (fun hz1 => ?_)
  refine lv_istore_n (lv' := [(2, .int u1), (0, .ref h0), (1, .int p1)]) hx hb dX7_differs_5 rfl hl (by decide) rfl (fun ls hl => ?_)
  refine lv_iload_n hx hb dX7_differs_6 rfl (lv_at hl 0 rfl) ?_
  refine lv_if_ge (tgt := 18) hx hb dX7_differs_7 (by decide) (fun c2 => ?_) (fun c2 => ?_)
  · have hf := xt c2 hf
    refine lv_aload_n hx hb dX7_differs_18 rfl (lv_at hl 1 rfl) ?_
    refine lv_iload_n hx hb dX7_differs_19 rfl (lv_at hl 2 rfl) ?_
    obtain ⟨u3, hf3, hf⟩ := xb hf
    refine x_ran (x_runV (q0 := 0) (rest := []) (As := [.int p1]) hC mw_996 md_X7_differsNow (c_X7_differsNow (X := X) hf3) hH [0, 2, 3, 6] rfl (by decide) rfl rfl rfl hl.1 rfl rfl (Nat.le_of_ble_eq_true rfl) dX7_differs_20 ⟨Nat.le_of_ble_eq_true rfl, Nat.le_of_ble_eq_true rfl⟩ ⟨rfl, rfl⟩ ⟨Nat.le_refl _, Nat.le_refl _⟩) rfl (fun hz3 => ?_)
    exact x_retiw (φ := fun _ => True) (f := fun u : Int32 × (Nat → Int32) => u.1) (wf := fun u : Int32 × (Nat → Int32) => [(h0, xO 7 [.int v_laws, .ref h2, .ref h3, .int v_inForce, .int v_depth, .int v_miss, .long v_ring, .int v_size, .int v_people, .ref g0, .int v_seed, .int v_taped, .ref g1, .int v_from, .int v_to, .int v_token, .int v_value, .ref h1, .ref h5, .ref h6, .ref h4, .int v_imaged, .ref g2, .long v_oldRing, .ref g3, .long v_aheadRing, .ref g4]), (h1, xI X 8 v_holding), (h2, xI X 6 v_kind), (h3, xI X 6 v_own), (h4, xI X 7 u.2), (h5, xI X 8 v_rowLength), (h6, xJ X 320 v_rowOf)]) hC hr hlk trivial hf hH rfl rfl dX7_differs_23
  · have hf := xe c2 hf
    refine lv_aload_n hx hb dX7_differs_10 rfl (lv_at hl 1 rfl) ?_
    refine lv_iload_n hx hb dX7_differs_11 rfl (lv_at hl 0 rfl) ?_
    obtain ⟨u4, hf4, hf⟩ := xb hf
    refine x_ranw (ws' := [(h0, xO 7 [.int v_laws, .ref h2, .ref h3, .int v_inForce, .int v_depth, .int v_miss, .long v_ring, .int v_size, .int v_people, .ref g0, .int v_seed, .int v_taped, .ref g1, .int v_from, .int v_to, .int v_token, .int v_value, .ref h1, .ref h5, .ref h6, .ref h4, .int v_imaged, .ref g2, .long v_oldRing, .ref g3, .long v_aheadRing, .ref g4]), (h1, xI X 8 v_holding), (h2, xI X 6 v_kind), (h3, xI X 6 v_own), (h4, xI X 7 u4.2), (h5, xI X 8 v_rowLength), (h6, xJ X 320 v_rowOf)]) (x_runV (q0 := 0) (rest := []) (As := [.int u1]) hC mw_143 md_X7_no (c_X7_no (X := X) hf4) hH [0, 4] rfl (by decide) rfl rfl rfl hl.1 rfl rfl (Nat.le_of_ble_eq_true rfl) dX7_differs_12 ⟨Nat.le_of_ble_eq_true rfl, Nat.le_of_ble_eq_true rfl⟩ ⟨rfl, rfl⟩ ⟨Nat.le_refl _, Nat.le_refl _⟩) hH [0, 4] rfl rfl rfl rfl rfl (fun hz4 H locs hH => ?_)
    refine lv_goto (tgt := 23) hx hb dX7_differs_15 (by decide) ?_
    exact x_retiw (φ := fun _ => True) (f := fun u : Int32 × (Nat → Int32) => u.1) (wf := fun u : Int32 × (Nat → Int32) => [(h0, xO 7 [.int v_laws, .ref h2, .ref h3, .int v_inForce, .int v_depth, .int v_miss, .long v_ring, .int v_size, .int v_people, .ref g0, .int v_seed, .int v_taped, .ref g1, .int v_from, .int v_to, .int v_token, .int v_value, .ref h1, .ref h5, .ref h6, .ref h4, .int v_imaged, .ref g2, .long v_oldRing, .ref g3, .long v_aheadRing, .ref g4]), (h1, xI X 8 v_holding), (h2, xI X 6 v_kind), (h3, xI X 6 v_own), (h4, xI X 7 u.2), (h5, xI X 8 v_rowLength), (h6, xJ X 320 v_rowOf)]) hC hr hlk trivial hf hH rfl rfl dX7_differs_23
def f_X7_fits_J59 (s29 : Int32 × Int32) (j59_4 : Int32) : Option ((Int32 × Int32 × (Nat → Int32)) ⊕ (Int32 × Int32)) :=
  some (.inr (j59_4, s29.2 + (1 : Int32)))
def f_X7_fits_L29 (v_laws : Int32) (v_depth : Int32) (v_ring : Int64) (v_size : Int32) (v_kind : (Nat → Int32)) (v_own : (Nat → Int32)) (v_refusals : (Nat → Int32)) (v_rowOf : (Nat → Int64)) (p1 : Int32) (x29_3 : Int32) (s29 : Int32 × Int32) : Option ((Int32 × Int32 × (Nat → Int32)) ⊕ (Int32 × Int32)) :=
  if v_laws ≤ s29.2 then
    some (.inl (s29.1, x29_3, v_refusals))
  else
  (f_X7_differsNow v_laws s29.2 v_depth v_ring v_size v_kind v_own v_rowOf p1).bind fun u4 =>
  if u4 = 0 then
    f_X7_fits_J59 s29 (s29.1 ||| (xshl (1 : Int32) s29.2))
  else
  f_X7_fits_J59 s29 s29.1
def f_X7_fits (v_laws : Int32) (v_inForce : Int32) (v_depth : Int32) (v_ring : Int64) (v_size : Int32) (v_holding : (Nat → Int32)) (v_kind : (Nat → Int32)) (v_own : (Nat → Int32)) (v_refusals : (Nat → Int32)) (v_rowLength : (Nat → Int32)) (v_rowOf : (Nat → Int64)) (p1 : Int32) : Option (Int32 × Int32 × (Nat → Int32)) :=
  (f_X7_noHeard v_size v_holding v_rowLength p1).bind fun u1 =>
  if 0 ≤ u1 then
    xloop (f_X7_fits_L29 v_laws v_depth v_ring v_size v_kind v_own v_refusals v_rowOf p1 v_inForce) xN ((0 : Int32), (0 : Int32))
  else
  (f_X7_no v_refusals u1).bind fun u6 =>
  some (u6.1, v_inForce, u6.2)
set_option maxHeartbeats 4000000 in
set_option maxRecDepth 100000 in
theorem c_X7_fits {l : Launch} {X : xG} {h0 h1 h2 h3 h4 h5 h6 g0 g1 g2 g3 g4 : Nat} {v_laws : Int32} {v_inForce : Int32} {v_depth : Int32} {v_miss : Int32} {v_ring : Int64} {v_size : Int32} {v_people : Int32} {v_seed : Int32} {v_taped : Int32} {v_from : Int32} {v_to : Int32} {v_token : Int32} {v_value : Int32} {v_imaged : Int32} {v_oldRing : Int64} {v_aheadRing : Int64} {v_holding : (Nat → Int32)} {v_kind : (Nat → Int32)} {v_own : (Nat → Int32)} {v_refusals : (Nat → Int32)} {v_rowLength : (Nat → Int32)} {v_rowOf : (Nat → Int64)} {p1 : Int32} {u : Int32 × Int32 × (Nat → Int32)} (hf : f_X7_fits v_laws v_inForce v_depth v_ring v_size v_holding v_kind v_own v_refusals v_rowLength v_rowOf p1 = some u) : Met l yX7_fits (xw yX7_fits cX7_fits 5 (some .int)) (xrm 6 143) (xPc [.ref h0, .int p1] X [(h0, xO 7 [.int v_laws, .ref h2, .ref h3, .int v_inForce, .int v_depth, .int v_miss, .long v_ring, .int v_size, .int v_people, .ref g0, .int v_seed, .int v_taped, .ref g1, .int v_from, .int v_to, .int v_token, .int v_value, .ref h1, .ref h5, .ref h6, .ref h4, .int v_imaged, .ref g2, .long v_oldRing, .ref g3, .long v_aheadRing, .ref g4]), (h1, xI X 8 v_holding), (h2, xI X 6 v_kind), (h3, xI X 6 v_own), (h4, xI X 7 v_refusals), (h5, xI X 8 v_rowLength), (h6, xJ X 320 v_rowOf)]) (xQw True (.returned (some (.int u.1))) X [(h0, xO 7 [.int v_laws, .ref h2, .ref h3, .int u.2.1, .int v_depth, .int v_miss, .long v_ring, .int v_size, .int v_people, .ref g0, .int v_seed, .int v_taped, .ref g1, .int v_from, .int v_to, .int v_token, .int v_value, .ref h1, .ref h5, .ref h6, .ref h4, .int v_imaged, .ref g2, .long v_oldRing, .ref g3, .long v_aheadRing, .ref g4]), (h1, xI X 8 v_holding), (h2, xI X 6 v_kind), (h3, xI X 6 v_own), (h4, xI X 7 u.2.2), (h5, xI X 8 v_rowLength), (h6, xJ X 320 v_rowOf)] (xAs [(h0, xO 7 [.int v_laws, .ref h2, .ref h3, .int v_inForce, .int v_depth, .int v_miss, .long v_ring, .int v_size, .int v_people, .ref g0, .int v_seed, .int v_taped, .ref g1, .int v_from, .int v_to, .int v_token, .int v_value, .ref h1, .ref h5, .ref h6, .ref h4, .int v_imaged, .ref g2, .long v_oldRing, .ref g3, .long v_aheadRing, .ref g4]), (h1, xI X 8 v_holding), (h2, xI X 6 v_kind), (h3, xI X 6 v_own), (h4, xI X 7 v_refusals), (h5, xI X 8 v_rowLength), (h6, xJ X 320 v_rowOf)])) 0 0 (xAs [(h0, xO 7 [.int v_laws, .ref h2, .ref h3, .int v_inForce, .int v_depth, .int v_miss, .long v_ring, .int v_size, .int v_people, .ref g0, .int v_seed, .int v_taped, .ref g1, .int v_from, .int v_to, .int v_token, .int v_value, .ref h1, .ref h5, .ref h6, .ref h4, .int v_imaged, .ref g2, .long v_oldRing, .ref g3, .long v_aheadRing, .ref g4]), (h1, xI X 8 v_holding), (h2, xI X 6 v_kind), (h3, xI X 6 v_own), (h4, xI X 7 v_refusals), (h5, xI X 8 v_rowLength), (h6, xJ X 320 v_rowOf)]) := by
  refine xMetw (Qc := fun A => xQw True (.returned (some (.int u.1))) X [(h0, xO 7 [.int v_laws, .ref h2, .ref h3, .int u.2.1, .int v_depth, .int v_miss, .long v_ring, .int v_size, .int v_people, .ref g0, .int v_seed, .int v_taped, .ref g1, .int v_from, .int v_to, .int v_token, .int v_value, .ref h1, .ref h5, .ref h6, .ref h4, .int v_imaged, .ref g2, .long v_oldRing, .ref g3, .long v_aheadRing, .ref g4]), (h1, xI X 8 v_holding), (h2, xI X 6 v_kind), (h3, xI X 6 v_own), (h4, xI X 7 u.2.2), (h5, xI X 8 v_rowLength), (h6, xJ X 320 v_rowOf)] A) (n := 1) md_X7_fits.1 (Nat.le_of_ble_eq_true rfl) ?_
  intro p e s m args below meth c ls A hC hr hlk hH hl
  have hl : lv_has ls 5 [(0, .ref h0), (1, .int p1)] := hl
  have hx := hC.1
  have hb := hC.2.1
  have L29 : ∀ (x29_3 : Int32) (n : Nat) (s29 : Int32 × Int32), xloop (f_X7_fits_L29 v_laws v_depth v_ring v_size v_kind v_own v_refusals v_rowOf p1 x29_3) n s29 = some u → ∀ (H : Heap) (locs : List Loc), xH X A [(h0, xO 7 [.int v_laws, .ref h2, .ref h3, .int s29.2, .int v_depth, .int v_miss, .long v_ring, .int v_size, .int v_people, .ref g0, .int v_seed, .int v_taped, .ref g1, .int v_from, .int v_to, .int v_token, .int v_value, .ref h1, .ref h5, .ref h6, .ref h4, .int v_imaged, .ref g2, .long v_oldRing, .ref g3, .long v_aheadRing, .ref g4]), (h1, xI X 8 v_holding), (h2, xI X 6 v_kind), (h3, xI X 6 v_own), (h4, xI X 7 v_refusals), (h5, xI X 8 v_rowLength), (h6, xJ X 320 v_rowOf)] s.heap H locs → ∀ (ls : Array Slot), lv_has ls 5 [(0, .ref h0), (1, .int p1), (3, .int x29_3), (4, .int s29.1)] → W p l e (xrm 6 143) s m args below meth c H locs 0 0 (MQ below (xQw True (.returned (some (.int u.1))) X [(h0, xO 7 [.int v_laws, .ref h2, .ref h3, .int u.2.1, .int v_depth, .int v_miss, .long v_ring, .int v_size, .int v_people, .ref g0, .int v_seed, .int v_taped, .ref g1, .int v_from, .int v_to, .int v_token, .int v_value, .ref h1, .ref h5, .ref h6, .ref h4, .int v_imaged, .ref g2, .long v_oldRing, .ref g3, .long v_aheadRing, .ref g4]), (h1, xI X 8 v_holding), (h2, xI X 6 v_kind), (h3, xI X 6 v_own), (h4, xI X 7 u.2.2), (h5, xI X 8 v_rowLength), (h6, xJ X 320 v_rowOf)] A) args s 0 0 A) (F0 m 29 ls []) := by
    intro x29_3 n
    induction n with
    | zero => intro s29 hf; exact xloop_0 hf
    | succ n ih29 =>
      intro s29 hf H locs hH ls hl
      obtain ⟨o29, hf, ho29⟩ := xloop_s hf
      have J59 : ∀ (j59_4 : Int32), f_X7_fits_J59 s29 j59_4 = some o29 → ∀ (H : Heap) (locs : List Loc), xH X A [(h0, xO 7 [.int v_laws, .ref h2, .ref h3, .int s29.2, .int v_depth, .int v_miss, .long v_ring, .int v_size, .int v_people, .ref g0, .int v_seed, .int v_taped, .ref g1, .int v_from, .int v_to, .int v_token, .int v_value, .ref h1, .ref h5, .ref h6, .ref h4, .int v_imaged, .ref g2, .long v_oldRing, .ref g3, .long v_aheadRing, .ref g4]), (h1, xI X 8 v_holding), (h2, xI X 6 v_kind), (h3, xI X 6 v_own), (h4, xI X 7 v_refusals), (h5, xI X 8 v_rowLength), (h6, xJ X 320 v_rowOf)] s.heap H locs → ∀ (ls : Array Slot), lv_has ls 5 [(0, .ref h0), (1, .int p1), (3, .int x29_3), (4, .int j59_4)] → W p l e (xrm 6 143) s m args below meth c H locs 0 0 (MQ below (xQw True (.returned (some (.int u.1))) X [(h0, xO 7 [.int v_laws, .ref h2, .ref h3, .int u.2.1, .int v_depth, .int v_miss, .long v_ring, .int v_size, .int v_people, .ref g0, .int v_seed, .int v_taped, .ref g1, .int v_from, .int v_to, .int v_token, .int v_value, .ref h1, .ref h5, .ref h6, .ref h4, .int v_imaged, .ref g2, .long v_oldRing, .ref g3, .long v_aheadRing, .ref g4]), (h1, xI X 8 v_holding), (h2, xI X 6 v_kind), (h3, xI X 6 v_own), (h4, xI X 7 u.2.2), (h5, xI X 8 v_rowLength), (h6, xJ X 320 v_rowOf)] A) args s 0 0 A) (F0 m 59 ls []) := by
        intro j59_4 hf H locs hH ls hl
        refine lv_aload_n hx hb dX7_fits_59 rfl (lv_at hl 0 rfl) ?_
        refine lv_dup hx hb dX7_fits_60 rfl ?_
        refine x_get hC fd_RX7_102 hH.1 0 rfl rfl dX7_fits_61 ?_
        refine lv_iconst (v := (1 : Int32)) hx hb dX7_fits_64 (by decide) ?_
        refine lv_iadd hx hb dX7_fits_65 ?_
        refine x_put (ws' := [(h0, xO 7 [.int v_laws, .ref h2, .ref h3, .int (s29.2 + (1 : Int32)), .int v_depth, .int v_miss, .long v_ring, .int v_size, .int v_people, .ref g0, .int v_seed, .int v_taped, .ref g1, .int v_from, .int v_to, .int v_token, .int v_value, .ref h1, .ref h5, .ref h6, .ref h4, .int v_imaged, .ref g2, .long v_oldRing, .ref g3, .long v_aheadRing, .ref g4]), (h1, xI X 8 v_holding), (h2, xI X 6 v_kind), (h3, xI X 6 v_own), (h4, xI X 7 v_refusals), (h5, xI X 8 v_rowLength), (h6, xJ X 320 v_rowOf)]) hC fd_RX7_102 hH 0 rfl (Nat.le_of_ble_eq_true rfl) rfl rfl dX7_fits_66 rfl (fun H locs hH => ?_)
        refine lv_goto (tgt := 29) hx hb dX7_fits_69 (by decide) ?_
        have hf := xo_go hf ho29
        exact ih29 (j59_4, s29.2 + (1 : Int32)) hf _ _ hH ls (lv_sub hl [0, 1, 2, 3] rfl)
      refine lv_aload_n hx hb dX7_fits_29 rfl (lv_at hl 0 rfl) ?_
      refine x_get hC fd_RX7_102 hH.1 0 rfl rfl dX7_fits_30 ?_
      refine lv_aload_n hx hb dX7_fits_33 rfl (lv_at hl 0 rfl) ?_
      refine x_get hC fd_RX7_52 hH.1 0 rfl rfl dX7_fits_34 ?_
      refine lv_icmp_ge (tgt := 72) hx hb dX7_fits_37 (by decide) (fun c3 => ?_) (fun c3 => ?_)
      · have hf := xt c3 hf
        refine lv_aload_n hx hb dX7_fits_72 rfl (lv_at hl 0 rfl) ?_
        refine lv_iload_n hx hb dX7_fits_73 rfl (lv_at hl 2 rfl) ?_
        refine x_put (ws' := [(h0, xO 7 [.int v_laws, .ref h2, .ref h3, .int x29_3, .int v_depth, .int v_miss, .long v_ring, .int v_size, .int v_people, .ref g0, .int v_seed, .int v_taped, .ref g1, .int v_from, .int v_to, .int v_token, .int v_value, .ref h1, .ref h5, .ref h6, .ref h4, .int v_imaged, .ref g2, .long v_oldRing, .ref g3, .long v_aheadRing, .ref g4]), (h1, xI X 8 v_holding), (h2, xI X 6 v_kind), (h3, xI X 6 v_own), (h4, xI X 7 v_refusals), (h5, xI X 8 v_rowLength), (h6, xJ X 320 v_rowOf)]) hC fd_RX7_102 hH 0 rfl (Nat.le_of_ble_eq_true rfl) rfl rfl dX7_fits_74 rfl (fun H locs hH => ?_)
        refine lv_iload hx hb dX7_fits_77 (lv_at hl 3 rfl) ?_
        have hf := xo_ret hf ho29
        exact x_retiw (φ := fun _ => True) (f := fun u : Int32 × Int32 × (Nat → Int32) => u.1) (wf := fun u : Int32 × Int32 × (Nat → Int32) => [(h0, xO 7 [.int v_laws, .ref h2, .ref h3, .int u.2.1, .int v_depth, .int v_miss, .long v_ring, .int v_size, .int v_people, .ref g0, .int v_seed, .int v_taped, .ref g1, .int v_from, .int v_to, .int v_token, .int v_value, .ref h1, .ref h5, .ref h6, .ref h4, .int v_imaged, .ref g2, .long v_oldRing, .ref g3, .long v_aheadRing, .ref g4]), (h1, xI X 8 v_holding), (h2, xI X 6 v_kind), (h3, xI X 6 v_own), (h4, xI X 7 u.2.2), (h5, xI X 8 v_rowLength), (h6, xJ X 320 v_rowOf)]) hC hr hlk trivial hf hH rfl rfl dX7_fits_79
      · have hf := xe c3 hf
        refine lv_aload_n hx hb dX7_fits_40 rfl (lv_at hl 0 rfl) ?_
        refine lv_iload_n hx hb dX7_fits_41 rfl (lv_at hl 1 rfl) ?_
        obtain ⟨u4, hf4, hf⟩ := xb hf
        refine x_ran (x_runV (q0 := 0) (rest := []) (As := [.int p1]) hC mw_996 md_X7_differsNow (c_X7_differsNow (X := X) hf4) hH [0, 2, 3, 6] rfl (by decide) rfl rfl rfl hl.1 rfl rfl (Nat.le_of_ble_eq_true rfl) dX7_fits_42 ⟨Nat.le_of_ble_eq_true rfl, Nat.le_of_ble_eq_true rfl⟩ ⟨rfl, rfl⟩ ⟨Nat.le_refl _, Nat.le_refl _⟩) rfl (fun hz4 => ?_)
        refine lv_if_ne (tgt := 59) hx hb dX7_fits_45 (by decide) (fun c5 => ?_) (fun c5 => ?_)
        · have hf := xe c5 hf
          exact J59 s29.1 hf _ _ hH ls (lv_sub hl [0, 1, 2, 3] rfl)
        · have hf := xt c5 hf
          refine lv_iload hx hb dX7_fits_48 (lv_at hl 3 rfl) ?_
          refine lv_iconst (v := (1 : Int32)) hx hb dX7_fits_50 (by decide) ?_
          refine lv_aload_n hx hb dX7_fits_51 rfl (lv_at hl 0 rfl) ?_
          refine x_get hC fd_RX7_102 hH.1 0 rfl rfl dX7_fits_52 ?_
          refine x_ishl hx hb dX7_fits_55 ?_
          refine lv_ior hx hb dX7_fits_56 ?_
          refine lv_istore (lv' := [(4, .int (s29.1 ||| (xshl (1 : Int32) s29.2))), (0, .ref h0), (1, .int p1), (3, .int x29_3)]) hx hb dX7_fits_57 hl (by decide) rfl (fun ls hl => ?_)
          exact J59 (s29.1 ||| (xshl (1 : Int32) s29.2)) hf _ _ hH ls (lv_sub hl [1, 2, 3, 0] rfl)
  refine lv_aload_n hx hb dX7_fits_0 rfl (lv_at hl 0 rfl) ?_
  refine lv_iload_n hx hb dX7_fits_1 rfl (lv_at hl 1 rfl) ?_
  obtain ⟨u1, hf1, hf⟩ := xb hf
  refine x_ran (x_runV (q0 := 0) (rest := []) (As := [.int p1]) hC mw_992 md_X7_noHeard (c_X7_noHeard (X := X) hf1) hH [0, 1, 5] rfl (by decide) rfl rfl rfl hl.1 rfl rfl (Nat.le_of_ble_eq_true rfl) dX7_fits_2 ⟨Nat.le_of_ble_eq_true rfl, Nat.le_of_ble_eq_true rfl⟩ ⟨rfl, rfl⟩ ⟨Nat.le_refl _, Nat.le_refl _⟩) rfl (fun hz1 => ?_)
  refine lv_istore_n (lv' := [(2, .int u1), (0, .ref h0), (1, .int p1)]) hx hb dX7_fits_5 rfl hl (by decide) rfl (fun ls hl => ?_)
  refine lv_iload_n hx hb dX7_fits_6 rfl (lv_at hl 0 rfl) ?_
  refine lv_if_ge (tgt := 16) hx hb dX7_fits_7 (by decide) (fun c2 => ?_) (fun c2 => ?_)
  · have hf := xt c2 hf
    refine lv_aload_n hx hb dX7_fits_16 rfl (lv_at hl 1 rfl) ?_
    refine x_get hC fd_RX7_102 hH.1 0 rfl rfl dX7_fits_17 ?_
    refine lv_istore_n (lv' := [(3, .int v_inForce), (2, .int u1), (0, .ref h0), (1, .int p1)]) hx hb dX7_fits_20 rfl hl (by decide) rfl (fun ls hl => ?_)
    refine lv_iconst (v := (0 : Int32)) hx hb dX7_fits_21 (by decide) ?_
    refine lv_istore (lv' := [(4, .int (0 : Int32)), (3, .int v_inForce), (2, .int u1), (0, .ref h0), (1, .int p1)]) hx hb dX7_fits_22 hl (by decide) rfl (fun ls hl => ?_)
    refine lv_aload_n hx hb dX7_fits_24 rfl (lv_at hl 3 rfl) ?_
    refine lv_iconst (v := (0 : Int32)) hx hb dX7_fits_25 (by decide) ?_
    refine x_put (ws' := [(h0, xO 7 [.int v_laws, .ref h2, .ref h3, .int (0 : Int32), .int v_depth, .int v_miss, .long v_ring, .int v_size, .int v_people, .ref g0, .int v_seed, .int v_taped, .ref g1, .int v_from, .int v_to, .int v_token, .int v_value, .ref h1, .ref h5, .ref h6, .ref h4, .int v_imaged, .ref g2, .long v_oldRing, .ref g3, .long v_aheadRing, .ref g4]), (h1, xI X 8 v_holding), (h2, xI X 6 v_kind), (h3, xI X 6 v_own), (h4, xI X 7 v_refusals), (h5, xI X 8 v_rowLength), (h6, xJ X 320 v_rowOf)]) hC fd_RX7_102 hH 0 rfl (Nat.le_of_ble_eq_true rfl) rfl rfl dX7_fits_26 rfl (fun H locs hH => ?_)
    exact L29 v_inForce xN ((0 : Int32), (0 : Int32)) hf _ _ hH ls (lv_sub hl [3, 4, 1, 0] rfl)
  · have hf := xe c2 hf
    refine lv_aload_n hx hb dX7_fits_10 rfl (lv_at hl 1 rfl) ?_
    refine lv_iload_n hx hb dX7_fits_11 rfl (lv_at hl 0 rfl) ?_
    obtain ⟨u6, hf6, hf⟩ := xb hf
    refine x_ranw (ws' := [(h0, xO 7 [.int v_laws, .ref h2, .ref h3, .int v_inForce, .int v_depth, .int v_miss, .long v_ring, .int v_size, .int v_people, .ref g0, .int v_seed, .int v_taped, .ref g1, .int v_from, .int v_to, .int v_token, .int v_value, .ref h1, .ref h5, .ref h6, .ref h4, .int v_imaged, .ref g2, .long v_oldRing, .ref g3, .long v_aheadRing, .ref g4]), (h1, xI X 8 v_holding), (h2, xI X 6 v_kind), (h3, xI X 6 v_own), (h4, xI X 7 u6.2), (h5, xI X 8 v_rowLength), (h6, xJ X 320 v_rowOf)]) (x_runV (q0 := 0) (rest := []) (As := [.int u1]) hC mw_143 md_X7_no (c_X7_no (X := X) hf6) hH [0, 4] rfl (by decide) rfl rfl rfl hl.1 rfl rfl (Nat.le_of_ble_eq_true rfl) dX7_fits_12 ⟨Nat.le_of_ble_eq_true rfl, Nat.le_of_ble_eq_true rfl⟩ ⟨rfl, rfl⟩ ⟨Nat.le_refl _, Nat.le_refl _⟩) hH [0, 4] rfl rfl rfl rfl rfl (fun hz6 H locs hH => ?_)
    exact x_retiw (φ := fun _ => True) (f := fun u : Int32 × Int32 × (Nat → Int32) => u.1) (wf := fun u : Int32 × Int32 × (Nat → Int32) => [(h0, xO 7 [.int v_laws, .ref h2, .ref h3, .int u.2.1, .int v_depth, .int v_miss, .long v_ring, .int v_size, .int v_people, .ref g0, .int v_seed, .int v_taped, .ref g1, .int v_from, .int v_to, .int v_token, .int v_value, .ref h1, .ref h5, .ref h6, .ref h4, .int v_imaged, .ref g2, .long v_oldRing, .ref g3, .long v_aheadRing, .ref g4]), (h1, xI X 8 v_holding), (h2, xI X 6 v_kind), (h3, xI X 6 v_own), (h4, xI X 7 u.2.2), (h5, xI X 8 v_rowLength), (h6, xJ X 320 v_rowOf)]) hC hr hlk trivial hf hH rfl rfl dX7_fits_15
def f_X7_together_J55 (s14 : Int32 × Int32 × Int32) (j55_2 : Int32) (j55_3 : Int32) : Option ((Int32 × Int32) ⊕ (Int32 × Int32 × Int32)) :=
  some (.inr (j55_2, j55_3, s14.2.2 + (1 : Int32)))
def f_X7_together_L14 (v_laws : Int32) (v_inForce : Int32) (v_ring : Int64) (v_size : Int32) (v_kind : (Nat → Int32)) (v_own : (Nat → Int32)) (x14_1 : Int32) (s14 : Int32 × Int32 × Int32) : Option ((Int32 × Int32) ⊕ (Int32 × Int32 × Int32)) :=
  if (10 : Int32) ≤ s14.2.2 then
    some (.inl (s14.1, x14_1))
  else
  (f_X7_many v_laws v_inForce s14.2.2 v_kind v_own v_ring v_size (1 : Int32)).bind fun u2 =>
  if s14.2.1 < u2 then
    f_X7_together_J55 s14 s14.2.2 u2
  else
  f_X7_together_J55 s14 s14.1 s14.2.1
def f_X7_together (v_laws : Int32) (v_inForce : Int32) (v_depth : Int32) (v_ring : Int64) (v_size : Int32) (v_kind : (Nat → Int32)) (v_own : (Nat → Int32)) : Option (Int32 × Int32) :=
  xloop (f_X7_together_L14 v_laws v_inForce v_ring v_size v_kind v_own v_depth) xN ((0 : Int32), (-1 : Int32), (0 : Int32))
set_option maxHeartbeats 4000000 in
set_option maxRecDepth 100000 in
theorem c_X7_together {l : Launch} {X : xG} {h0 h1 h2 g0 g1 g2 g3 g4 g5 g6 g7 g8 : Nat} {v_laws : Int32} {v_inForce : Int32} {v_depth : Int32} {v_miss : Int32} {v_ring : Int64} {v_size : Int32} {v_people : Int32} {v_seed : Int32} {v_taped : Int32} {v_from : Int32} {v_to : Int32} {v_token : Int32} {v_value : Int32} {v_imaged : Int32} {v_oldRing : Int64} {v_aheadRing : Int64} {v_kind : (Nat → Int32)} {v_own : (Nat → Int32)} {u : Int32 × Int32} (hf : f_X7_together v_laws v_inForce v_depth v_ring v_size v_kind v_own = some u) : Met l yX7_together (xw yX7_together cX7_together 5 (some .int)) (xrm 7 171) (xPc [.ref h0] X [(h0, xO 7 [.int v_laws, .ref h1, .ref h2, .int v_inForce, .int v_depth, .int v_miss, .long v_ring, .int v_size, .int v_people, .ref g0, .int v_seed, .int v_taped, .ref g1, .int v_from, .int v_to, .int v_token, .int v_value, .ref g2, .ref g3, .ref g4, .ref g5, .int v_imaged, .ref g6, .long v_oldRing, .ref g7, .long v_aheadRing, .ref g8]), (h1, xI X 6 v_kind), (h2, xI X 6 v_own)]) (xQw True (.returned (some (.int u.1))) X [(h0, xO 7 [.int v_laws, .ref h1, .ref h2, .int v_inForce, .int u.2, .int v_miss, .long v_ring, .int v_size, .int v_people, .ref g0, .int v_seed, .int v_taped, .ref g1, .int v_from, .int v_to, .int v_token, .int v_value, .ref g2, .ref g3, .ref g4, .ref g5, .int v_imaged, .ref g6, .long v_oldRing, .ref g7, .long v_aheadRing, .ref g8]), (h1, xI X 6 v_kind), (h2, xI X 6 v_own)] (xAs [(h0, xO 7 [.int v_laws, .ref h1, .ref h2, .int v_inForce, .int v_depth, .int v_miss, .long v_ring, .int v_size, .int v_people, .ref g0, .int v_seed, .int v_taped, .ref g1, .int v_from, .int v_to, .int v_token, .int v_value, .ref g2, .ref g3, .ref g4, .ref g5, .int v_imaged, .ref g6, .long v_oldRing, .ref g7, .long v_aheadRing, .ref g8]), (h1, xI X 6 v_kind), (h2, xI X 6 v_own)])) 0 0 (xAs [(h0, xO 7 [.int v_laws, .ref h1, .ref h2, .int v_inForce, .int v_depth, .int v_miss, .long v_ring, .int v_size, .int v_people, .ref g0, .int v_seed, .int v_taped, .ref g1, .int v_from, .int v_to, .int v_token, .int v_value, .ref g2, .ref g3, .ref g4, .ref g5, .int v_imaged, .ref g6, .long v_oldRing, .ref g7, .long v_aheadRing, .ref g8]), (h1, xI X 6 v_kind), (h2, xI X 6 v_own)]) := by
  refine xMetw (Qc := fun A => xQw True (.returned (some (.int u.1))) X [(h0, xO 7 [.int v_laws, .ref h1, .ref h2, .int v_inForce, .int u.2, .int v_miss, .long v_ring, .int v_size, .int v_people, .ref g0, .int v_seed, .int v_taped, .ref g1, .int v_from, .int v_to, .int v_token, .int v_value, .ref g2, .ref g3, .ref g4, .ref g5, .int v_imaged, .ref g6, .long v_oldRing, .ref g7, .long v_aheadRing, .ref g8]), (h1, xI X 6 v_kind), (h2, xI X 6 v_own)] A) (n := 0) md_X7_together.1 (Nat.le_of_ble_eq_true rfl) ?_
  intro p e s m args below meth c ls A hC hr hlk hH hl
  have hl : lv_has ls 5 [(0, .ref h0)] := hl
  have hx := hC.1
  have hb := hC.2.1
  have L14 : ∀ (x14_1 : Int32) (n : Nat) (s14 : Int32 × Int32 × Int32), xloop (f_X7_together_L14 v_laws v_inForce v_ring v_size v_kind v_own x14_1) n s14 = some u → ∀ (H : Heap) (locs : List Loc), xH X A [(h0, xO 7 [.int v_laws, .ref h1, .ref h2, .int v_inForce, .int s14.2.2, .int v_miss, .long v_ring, .int v_size, .int v_people, .ref g0, .int v_seed, .int v_taped, .ref g1, .int v_from, .int v_to, .int v_token, .int v_value, .ref g2, .ref g3, .ref g4, .ref g5, .int v_imaged, .ref g6, .long v_oldRing, .ref g7, .long v_aheadRing, .ref g8]), (h1, xI X 6 v_kind), (h2, xI X 6 v_own)] s.heap H locs → ∀ (ls : Array Slot), lv_has ls 5 [(0, .ref h0), (1, .int x14_1), (2, .int s14.1), (3, .int s14.2.1)] → W p l e (xrm 7 171) s m args below meth c H locs 0 0 (MQ below (xQw True (.returned (some (.int u.1))) X [(h0, xO 7 [.int v_laws, .ref h1, .ref h2, .int v_inForce, .int u.2, .int v_miss, .long v_ring, .int v_size, .int v_people, .ref g0, .int v_seed, .int v_taped, .ref g1, .int v_from, .int v_to, .int v_token, .int v_value, .ref g2, .ref g3, .ref g4, .ref g5, .int v_imaged, .ref g6, .long v_oldRing, .ref g7, .long v_aheadRing, .ref g8]), (h1, xI X 6 v_kind), (h2, xI X 6 v_own)] A) args s 0 0 A) (F0 m 14 ls []) := by
    intro x14_1 n
    induction n with
    | zero => intro s14 hf; exact xloop_0 hf
    | succ n ih14 =>
      intro s14 hf H locs hH ls hl
      obtain ⟨o14, hf, ho14⟩ := xloop_s hf
      have J55 : ∀ (j55_2 : Int32) (j55_3 : Int32), f_X7_together_J55 s14 j55_2 j55_3 = some o14 → ∀ (H : Heap) (locs : List Loc), xH X A [(h0, xO 7 [.int v_laws, .ref h1, .ref h2, .int v_inForce, .int s14.2.2, .int v_miss, .long v_ring, .int v_size, .int v_people, .ref g0, .int v_seed, .int v_taped, .ref g1, .int v_from, .int v_to, .int v_token, .int v_value, .ref g2, .ref g3, .ref g4, .ref g5, .int v_imaged, .ref g6, .long v_oldRing, .ref g7, .long v_aheadRing, .ref g8]), (h1, xI X 6 v_kind), (h2, xI X 6 v_own)] s.heap H locs → ∀ (ls : Array Slot), lv_has ls 5 [(0, .ref h0), (1, .int x14_1), (2, .int j55_2), (3, .int j55_3)] → W p l e (xrm 7 171) s m args below meth c H locs 0 0 (MQ below (xQw True (.returned (some (.int u.1))) X [(h0, xO 7 [.int v_laws, .ref h1, .ref h2, .int v_inForce, .int u.2, .int v_miss, .long v_ring, .int v_size, .int v_people, .ref g0, .int v_seed, .int v_taped, .ref g1, .int v_from, .int v_to, .int v_token, .int v_value, .ref g2, .ref g3, .ref g4, .ref g5, .int v_imaged, .ref g6, .long v_oldRing, .ref g7, .long v_aheadRing, .ref g8]), (h1, xI X 6 v_kind), (h2, xI X 6 v_own)] A) args s 0 0 A) (F0 m 55 ls []) := by
        intro j55_2 j55_3 hf H locs hH ls hl
        refine lv_aload_n hx hb dX7_together_55 rfl (lv_at hl 0 rfl) ?_
        refine lv_dup hx hb dX7_together_56 rfl ?_
        refine x_get hC fd_RX7_45 hH.1 0 rfl rfl dX7_together_57 ?_
        refine lv_iconst (v := (1 : Int32)) hx hb dX7_together_60 (by decide) ?_
        refine lv_iadd hx hb dX7_together_61 ?_
        refine x_put (ws' := [(h0, xO 7 [.int v_laws, .ref h1, .ref h2, .int v_inForce, .int (s14.2.2 + (1 : Int32)), .int v_miss, .long v_ring, .int v_size, .int v_people, .ref g0, .int v_seed, .int v_taped, .ref g1, .int v_from, .int v_to, .int v_token, .int v_value, .ref g2, .ref g3, .ref g4, .ref g5, .int v_imaged, .ref g6, .long v_oldRing, .ref g7, .long v_aheadRing, .ref g8]), (h1, xI X 6 v_kind), (h2, xI X 6 v_own)]) hC fd_RX7_45 hH 0 rfl (Nat.le_of_ble_eq_true rfl) rfl rfl dX7_together_62 rfl (fun H locs hH => ?_)
        refine lv_goto (tgt := 14) hx hb dX7_together_65 (by decide) ?_
        have hf := xo_go hf ho14
        exact ih14 (j55_2, j55_3, s14.2.2 + (1 : Int32)) hf _ _ hH ls (lv_sub hl [0, 1, 2, 3] rfl)
      refine lv_aload_n hx hb dX7_together_14 rfl (lv_at hl 0 rfl) ?_
      refine x_get hC fd_RX7_45 hH.1 0 rfl rfl dX7_together_15 ?_
      refine lv_bipush (v := (10 : Int32)) hx hb dX7_together_18 (by decide) ?_
      refine lv_icmp_ge (tgt := 68) hx hb dX7_together_20 (by decide) (fun c1 => ?_) (fun c1 => ?_)
      · have hf := xt c1 hf
        refine lv_aload_n hx hb dX7_together_68 rfl (lv_at hl 0 rfl) ?_
        refine lv_iload_n hx hb dX7_together_69 rfl (lv_at hl 1 rfl) ?_
        refine x_put (ws' := [(h0, xO 7 [.int v_laws, .ref h1, .ref h2, .int v_inForce, .int x14_1, .int v_miss, .long v_ring, .int v_size, .int v_people, .ref g0, .int v_seed, .int v_taped, .ref g1, .int v_from, .int v_to, .int v_token, .int v_value, .ref g2, .ref g3, .ref g4, .ref g5, .int v_imaged, .ref g6, .long v_oldRing, .ref g7, .long v_aheadRing, .ref g8]), (h1, xI X 6 v_kind), (h2, xI X 6 v_own)]) hC fd_RX7_45 hH 0 rfl (Nat.le_of_ble_eq_true rfl) rfl rfl dX7_together_70 rfl (fun H locs hH => ?_)
        refine lv_iload_n hx hb dX7_together_73 rfl (lv_at hl 2 rfl) ?_
        have hf := xo_ret hf ho14
        exact x_retiw (φ := fun _ => True) (f := fun u : Int32 × Int32 => u.1) (wf := fun u : Int32 × Int32 => [(h0, xO 7 [.int v_laws, .ref h1, .ref h2, .int v_inForce, .int u.2, .int v_miss, .long v_ring, .int v_size, .int v_people, .ref g0, .int v_seed, .int v_taped, .ref g1, .int v_from, .int v_to, .int v_token, .int v_value, .ref g2, .ref g3, .ref g4, .ref g5, .int v_imaged, .ref g6, .long v_oldRing, .ref g7, .long v_aheadRing, .ref g8]), (h1, xI X 6 v_kind), (h2, xI X 6 v_own)]) hC hr hlk trivial hf hH rfl rfl dX7_together_74
      · have hf := xe c1 hf
        refine lv_aload_n hx hb dX7_together_23 rfl (lv_at hl 0 rfl) ?_
        refine lv_aload_n hx hb dX7_together_24 rfl (lv_at hl 0 rfl) ?_
        refine x_get hC fd_RX7_90 hH.1 0 rfl rfl dX7_together_25 ?_
        refine lv_aload_n hx hb dX7_together_28 rfl (lv_at hl 0 rfl) ?_
        refine x_get hC fd_RX7_62 hH.1 0 rfl rfl dX7_together_29 ?_
        refine lv_iconst (v := (1 : Int32)) hx hb dX7_together_32 (by decide) ?_
        obtain ⟨u2, hf2, hf⟩ := xb hf
        refine x_ran (x_runV (q0 := 0) (rest := []) (As := [.long v_ring, .int v_size, .int (1 : Int32)]) hC mw_749 md_X7_many (c_X7_many (X := X) hf2) hH [0, 1, 2] rfl (by decide) rfl rfl rfl hl.1 rfl rfl (Nat.le_of_ble_eq_true rfl) dX7_together_33 ⟨Nat.le_of_ble_eq_true rfl, Nat.le_of_ble_eq_true rfl⟩ ⟨rfl, rfl⟩ ⟨Nat.le_refl _, Nat.le_refl _⟩) rfl (fun hz2 => ?_)
        refine lv_istore (lv' := [(4, .int u2), (0, .ref h0), (1, .int x14_1), (2, .int s14.1), (3, .int s14.2.1)]) hx hb dX7_together_36 hl (by decide) rfl (fun ls hl => ?_)
        refine lv_iload hx hb dX7_together_38 (lv_at hl 0 rfl) ?_
        refine lv_iload_n hx hb dX7_together_40 rfl (lv_at hl 4 rfl) ?_
        refine lv_icmp_gt (tgt := 47) hx hb dX7_together_41 (by decide) (fun c3 => ?_) (fun c3 => ?_)
        · have hf := xt c3 hf
          refine lv_iload hx hb dX7_together_47 (lv_at hl 0 rfl) ?_
          refine lv_istore_n (lv' := [(3, .int u2), (4, .int u2), (0, .ref h0), (1, .int x14_1), (2, .int s14.1)]) hx hb dX7_together_49 rfl hl (by decide) rfl (fun ls hl => ?_)
          refine lv_aload_n hx hb dX7_together_50 rfl (lv_at hl 2 rfl) ?_
          refine x_get hC fd_RX7_45 hH.1 0 rfl rfl dX7_together_51 ?_
          refine lv_istore_n (lv' := [(2, .int s14.2.2), (3, .int u2), (4, .int u2), (0, .ref h0), (1, .int x14_1)]) hx hb dX7_together_54 rfl hl (by decide) rfl (fun ls hl => ?_)
          exact J55 s14.2.2 u2 hf _ _ hH ls (lv_sub hl [3, 4, 0, 1] rfl)
        · have hf := xe c3 hf
          refine lv_goto (tgt := 55) hx hb dX7_together_44 (by decide) ?_
          exact J55 s14.1 s14.2.1 hf _ _ hH ls (lv_sub hl [1, 2, 3, 4] rfl)
  refine lv_aload_n hx hb dX7_together_0 rfl (lv_at hl 0 rfl) ?_
  refine x_get hC fd_RX7_45 hH.1 0 rfl rfl dX7_together_1 ?_
  refine lv_istore_n (lv' := [(1, .int v_depth), (0, .ref h0)]) hx hb dX7_together_4 rfl hl (by decide) rfl (fun ls hl => ?_)
  refine lv_iconst (v := (0 : Int32)) hx hb dX7_together_5 (by decide) ?_
  refine lv_istore_n (lv' := [(2, .int (0 : Int32)), (1, .int v_depth), (0, .ref h0)]) hx hb dX7_together_6 rfl hl (by decide) rfl (fun ls hl => ?_)
  refine lv_iconst (v := (-1 : Int32)) hx hb dX7_together_7 (by decide) ?_
  refine lv_istore_n (lv' := [(3, .int (-1 : Int32)), (2, .int (0 : Int32)), (1, .int v_depth), (0, .ref h0)]) hx hb dX7_together_8 rfl hl (by decide) rfl (fun ls hl => ?_)
  refine lv_aload_n hx hb dX7_together_9 rfl (lv_at hl 3 rfl) ?_
  refine lv_iconst (v := (0 : Int32)) hx hb dX7_together_10 (by decide) ?_
  refine x_put (ws' := [(h0, xO 7 [.int v_laws, .ref h1, .ref h2, .int v_inForce, .int (0 : Int32), .int v_miss, .long v_ring, .int v_size, .int v_people, .ref g0, .int v_seed, .int v_taped, .ref g1, .int v_from, .int v_to, .int v_token, .int v_value, .ref g2, .ref g3, .ref g4, .ref g5, .int v_imaged, .ref g6, .long v_oldRing, .ref g7, .long v_aheadRing, .ref g8]), (h1, xI X 6 v_kind), (h2, xI X 6 v_own)]) hC fd_RX7_45 hH 0 rfl (Nat.le_of_ble_eq_true rfl) rfl rfl dX7_together_11 rfl (fun H locs hH => ?_)
  exact L14 v_depth xN ((0 : Int32), (-1 : Int32), (0 : Int32)) hf _ _ hH ls (lv_sub hl [3, 2, 1, 0] rfl)
def f_X7_odds_L17 (v_miss : Int32) (s17 : Int32 × Int32) : Option ((Int32) ⊕ (Int32 × Int32)) :=
  if s17.2 ≤ 0 then
    some (.inl s17.1)
  else
  some (.inr ((s17.1 * ((100 : Int32) - v_miss)) / (100 : Int32), s17.2 + (-1 : Int32)))
def f_X7_odds (v_laws : Int32) (v_inForce : Int32) (v_miss : Int32) (v_ring : Int64) (v_size : Int32) (v_kind : (Nat → Int32)) (v_own : (Nat → Int32)) : Option (Int32) :=
  (f_X7_struckNow v_laws v_inForce v_kind v_own v_ring v_size).bind fun u1 =>
  xloop (f_X7_odds_L17 v_miss) xN ((1000000 : Int32), u1)
set_option maxHeartbeats 4000000 in
set_option maxRecDepth 100000 in
theorem c_X7_odds {l : Launch} {X : xG} {h0 h1 h2 g0 g1 g2 g3 g4 g5 g6 g7 g8 : Nat} {v_laws : Int32} {v_inForce : Int32} {v_depth : Int32} {v_miss : Int32} {v_ring : Int64} {v_size : Int32} {v_people : Int32} {v_seed : Int32} {v_taped : Int32} {v_from : Int32} {v_to : Int32} {v_token : Int32} {v_value : Int32} {v_imaged : Int32} {v_oldRing : Int64} {v_aheadRing : Int64} {v_kind : (Nat → Int32)} {v_own : (Nat → Int32)} {u : Int32} (hf : f_X7_odds v_laws v_inForce v_miss v_ring v_size v_kind v_own = some u) : Met l yX7_odds (xw yX7_odds cX7_odds 3 (some .int)) (xrm 5 121) (xPc [.ref h0] X [(h0, xO 7 [.int v_laws, .ref h1, .ref h2, .int v_inForce, .int v_depth, .int v_miss, .long v_ring, .int v_size, .int v_people, .ref g0, .int v_seed, .int v_taped, .ref g1, .int v_from, .int v_to, .int v_token, .int v_value, .ref g2, .ref g3, .ref g4, .ref g5, .int v_imaged, .ref g6, .long v_oldRing, .ref g7, .long v_aheadRing, .ref g8]), (h1, xI X 6 v_kind), (h2, xI X 6 v_own)]) (xQ True (.returned (some (.int u)))) 0 0 xNo := by
  refine xMet (n := 0) md_X7_odds.1 (Nat.le_of_ble_eq_true rfl) ?_
  intro p e s m args below meth c ls A hC hr hlk hH hl
  have hl : lv_has ls 3 [(0, .ref h0)] := hl
  have hx := hC.1
  have hb := hC.2.1
  have L17 : ∀ (n : Nat) (s17 : Int32 × Int32), xloop (f_X7_odds_L17 v_miss) n s17 = some u → ∀ (ls : Array Slot), lv_has ls 3 [(0, .ref h0), (1, .int s17.1), (2, .int s17.2)] → W p l e (xrm 5 121) s m args below meth c s.heap [] 0 0 (MQ below (xQ True (.returned (some (.int u)))) args s 0 0 xNo) (F0 m 17 ls []) := by
    intro  n
    induction n with
    | zero => intro s17 hf; exact xloop_0 hf
    | succ n ih17 =>
      intro s17 hf ls hl
      obtain ⟨o17, hf, ho17⟩ := xloop_s hf
      refine lv_iload_n hx hb dX7_odds_17 rfl (lv_at hl 2 rfl) ?_
      refine lv_if_le (tgt := 40) hx hb dX7_odds_18 (by decide) (fun c2 => ?_) (fun c2 => ?_)
      · have hf := xt c2 hf
        refine lv_iload_n hx hb dX7_odds_40 rfl (lv_at hl 1 rfl) ?_
        have hf := xo_ret hf ho17
        exact x_reti hC hr hlk trivial hf dX7_odds_41
      · have hf := xe c2 hf
        refine lv_iload_n hx hb dX7_odds_21 rfl (lv_at hl 1 rfl) ?_
        refine lv_bipush (v := (100 : Int32)) hx hb dX7_odds_22 (by decide) ?_
        refine lv_aload_n hx hb dX7_odds_24 rfl (lv_at hl 0 rfl) ?_
        refine x_get hC fd_RX7_105 hH.1 0 rfl rfl dX7_odds_25 ?_
        refine lv_isub hx hb dX7_odds_28 ?_
        refine lv_imul hx hb dX7_odds_29 ?_
        refine lv_bipush (v := (100 : Int32)) hx hb dX7_odds_30 (by decide) ?_
        refine lv_idiv hx hb dX7_odds_32 (by decide) ?_
        refine lv_istore_n (lv' := [(1, .int ((s17.1 * ((100 : Int32) - v_miss)) / (100 : Int32))), (0, .ref h0), (2, .int s17.2)]) hx hb dX7_odds_33 rfl hl (by decide) rfl (fun ls hl => ?_)
        refine lv_iinc (v := s17.2 + (-1 : Int32)) (lv' := [(2, .int (s17.2 + (-1 : Int32))), (1, .int ((s17.1 * ((100 : Int32) - v_miss)) / (100 : Int32))), (0, .ref h0)]) hx hb dX7_odds_34 hl (k := 2) rfl rfl (by decide) rfl (fun ls hl => ?_)
        refine lv_goto (tgt := 17) hx hb dX7_odds_37 (by decide) ?_
        have hf := xo_go hf ho17
        exact ih17 ((s17.1 * ((100 : Int32) - v_miss)) / (100 : Int32), s17.2 + (-1 : Int32)) hf ls (lv_sub hl [2, 1, 0] rfl)
  refine lv_ldcw (v := (1000000 : Int32)) hx hb hC.2.2.2.1 (hC.2.2.2.2.1 _ mw_1025) dX7_odds_0 ?_
  refine lv_istore_n (lv' := [(1, .int (1000000 : Int32)), (0, .ref h0)]) hx hb dX7_odds_3 rfl hl (by decide) rfl (fun ls hl => ?_)
  refine lv_aload_n hx hb dX7_odds_4 rfl (lv_at hl 1 rfl) ?_
  refine lv_aload_n hx hb dX7_odds_5 rfl (lv_at hl 1 rfl) ?_
  refine x_get hC fd_RX7_90 hH.1 0 rfl rfl dX7_odds_6 ?_
  refine lv_aload_n hx hb dX7_odds_9 rfl (lv_at hl 1 rfl) ?_
  refine x_get hC fd_RX7_62 hH.1 0 rfl rfl dX7_odds_10 ?_
  obtain ⟨u1, hf1, hf⟩ := xb hf
  refine x_ran (x_runV (q0 := 0) (rest := []) (As := [.long v_ring, .int v_size]) hC mw_837 md_X7_struckNow (c_X7_struckNow (X := X) hf1) hH [0, 1, 2] rfl (by decide) rfl rfl rfl hl.1 rfl rfl (Nat.le_of_ble_eq_true rfl) dX7_odds_13 ⟨Nat.le_of_ble_eq_true rfl, Nat.le_of_ble_eq_true rfl⟩ ⟨rfl, rfl⟩ ⟨Nat.le_refl _, Nat.le_refl _⟩) rfl (fun hz1 => ?_)
  refine lv_istore_n (lv' := [(2, .int u1), (1, .int (1000000 : Int32)), (0, .ref h0)]) hx hb dX7_odds_16 rfl hl (by decide) rfl (fun ls hl => ?_)
  exact L17 xN ((1000000 : Int32), u1) hf ls (lv_sub hl [2, 1, 0] rfl)
def f_X7_expected (v_laws : Int32) (v_inForce : Int32) (v_miss : Int32) (v_ring : Int64) (v_size : Int32) (v_kind : (Nat → Int32)) (v_own : (Nat → Int32)) : Option (Int32) :=
  (f_X7_struckNow v_laws v_inForce v_kind v_own v_ring v_size).bind fun u1 =>
  some ((((1000 : Int32) * u1) * ((100 : Int32) - v_miss)) / (100 : Int32))
set_option maxHeartbeats 4000000 in
set_option maxRecDepth 100000 in
theorem c_X7_expected {l : Launch} {X : xG} {h0 h1 h2 g0 g1 g2 g3 g4 g5 g6 g7 g8 : Nat} {v_laws : Int32} {v_inForce : Int32} {v_depth : Int32} {v_miss : Int32} {v_ring : Int64} {v_size : Int32} {v_people : Int32} {v_seed : Int32} {v_taped : Int32} {v_from : Int32} {v_to : Int32} {v_token : Int32} {v_value : Int32} {v_imaged : Int32} {v_oldRing : Int64} {v_aheadRing : Int64} {v_kind : (Nat → Int32)} {v_own : (Nat → Int32)} {u : Int32} (hf : f_X7_expected v_laws v_inForce v_miss v_ring v_size v_kind v_own = some u) : Met l yX7_expected (xw yX7_expected cX7_expected 1 (some .int)) (xrm 5 121) (xPc [.ref h0] X [(h0, xO 7 [.int v_laws, .ref h1, .ref h2, .int v_inForce, .int v_depth, .int v_miss, .long v_ring, .int v_size, .int v_people, .ref g0, .int v_seed, .int v_taped, .ref g1, .int v_from, .int v_to, .int v_token, .int v_value, .ref g2, .ref g3, .ref g4, .ref g5, .int v_imaged, .ref g6, .long v_oldRing, .ref g7, .long v_aheadRing, .ref g8]), (h1, xI X 6 v_kind), (h2, xI X 6 v_own)]) (xQ True (.returned (some (.int u)))) 0 0 xNo := by
  refine xMet (n := 0) md_X7_expected.1 (Nat.le_of_ble_eq_true rfl) ?_
  intro p e s m args below meth c ls A hC hr hlk hH hl
  have hl : lv_has ls 1 [(0, .ref h0)] := hl
  have hx := hC.1
  have hb := hC.2.1
  refine lv_sipush (v := (1000 : Int32)) hx hb dX7_expected_0 (by decide) ?_
  refine lv_aload_n hx hb dX7_expected_3 rfl (lv_at hl 0 rfl) ?_
  refine lv_aload_n hx hb dX7_expected_4 rfl (lv_at hl 0 rfl) ?_
  refine x_get hC fd_RX7_90 hH.1 0 rfl rfl dX7_expected_5 ?_
  refine lv_aload_n hx hb dX7_expected_8 rfl (lv_at hl 0 rfl) ?_
  refine x_get hC fd_RX7_62 hH.1 0 rfl rfl dX7_expected_9 ?_
  obtain ⟨u1, hf1, hf⟩ := xb hf
  refine x_ran (x_runV (q0 := 0) (rest := [.int (1000 : Int32)]) (As := [.long v_ring, .int v_size]) hC mw_837 md_X7_struckNow (c_X7_struckNow (X := X) hf1) hH [0, 1, 2] rfl (by decide) rfl rfl rfl hl.1 rfl rfl (Nat.le_of_ble_eq_true rfl) dX7_expected_12 ⟨Nat.le_of_ble_eq_true rfl, Nat.le_of_ble_eq_true rfl⟩ ⟨rfl, rfl⟩ ⟨Nat.le_refl _, Nat.le_refl _⟩) rfl (fun hz1 => ?_)
  refine lv_imul hx hb dX7_expected_15 ?_
  refine lv_bipush (v := (100 : Int32)) hx hb dX7_expected_16 (by decide) ?_
  refine lv_aload_n hx hb dX7_expected_18 rfl (lv_at hl 0 rfl) ?_
  refine x_get hC fd_RX7_105 hH.1 0 rfl rfl dX7_expected_19 ?_
  refine lv_isub hx hb dX7_expected_22 ?_
  refine lv_imul hx hb dX7_expected_23 ?_
  refine lv_bipush (v := (100 : Int32)) hx hb dX7_expected_24 (by decide) ?_
  refine lv_idiv hx hb dX7_expected_26 (by decide) ?_
  exact x_reti hC hr hlk trivial hf dX7_expected_27
def f_X7_parted_L32 (v_laws : Int32) (v_size : Int32) (v_kind : (Nat → Int32)) (v_own : (Nat → Int32)) (p1 : Int32) (x32_3 : Int64) (s32 : Int32 × Int32 × Int32) : Option ((Int32) ⊕ (Int32 × Int32 × Int32)) :=
  if v_laws ≤ s32.2.2 then
    some (.inl (xmin s32.1 s32.2.1))
  else
  (f_X7_has (Int32.toInt64 p1) s32.2.2).bind fun u3 =>
  if u3 = 0 then
    some (.inr (s32.1, s32.2.1, s32.2.2 + (1 : Int32)))
  else
  (f_X7_strikesAt v_kind v_own s32.2.2 x32_3 (v_size + (1 : Int32)) v_size).bind fun u5 =>
  if u5 = 0 then
    some (.inr (s32.1, s32.2.1 + (1 : Int32), s32.2.2 + (1 : Int32)))
  else
  some (.inr (s32.1 + (1 : Int32), s32.2.1, s32.2.2 + (1 : Int32)))
def f_X7_parted_J22 (v_laws : Int32) (v_size : Int32) (v_kind : (Nat → Int32)) (v_own : (Nat → Int32)) (p1 : Int32) (j22_s0 : Int64) : Option (Int32) :=
  xloop (f_X7_parted_L32 v_laws v_size v_kind v_own p1 j22_s0) xN ((0 : Int32), (0 : Int32), (0 : Int32))
def f_X7_parted (v_laws : Int32) (v_ring : Int64) (v_size : Int32) (v_kind : (Nat → Int32)) (v_own : (Nat → Int32)) (p1 : Int32) (p2 : Int32) : Option (Int32) :=
  if p2 = 0 then
    f_X7_parted_J22 v_laws v_size v_kind v_own p1 v_ring
  else
  f_X7_parted_J22 v_laws v_size v_kind v_own p1 (v_ring ||| (xlshl (1 : Int64) v_size))
set_option maxHeartbeats 4000000 in
set_option maxRecDepth 100000 in
theorem c_X7_parted {l : Launch} {X : xG} {h0 h1 h2 g0 g1 g2 g3 g4 g5 g6 g7 g8 : Nat} {v_laws : Int32} {v_inForce : Int32} {v_depth : Int32} {v_miss : Int32} {v_ring : Int64} {v_size : Int32} {v_people : Int32} {v_seed : Int32} {v_taped : Int32} {v_from : Int32} {v_to : Int32} {v_token : Int32} {v_value : Int32} {v_imaged : Int32} {v_oldRing : Int64} {v_aheadRing : Int64} {v_kind : (Nat → Int32)} {v_own : (Nat → Int32)} {p1 : Int32} {p2 : Int32} {u : Int32} (hf : f_X7_parted v_laws v_ring v_size v_kind v_own p1 p2 = some u) : Met l yX7_parted (xw yX7_parted cX7_parted 8 (some .int)) (xrm 3 72) (xPc [.ref h0, .int p1, .int p2] X [(h0, xO 7 [.int v_laws, .ref h1, .ref h2, .int v_inForce, .int v_depth, .int v_miss, .long v_ring, .int v_size, .int v_people, .ref g0, .int v_seed, .int v_taped, .ref g1, .int v_from, .int v_to, .int v_token, .int v_value, .ref g2, .ref g3, .ref g4, .ref g5, .int v_imaged, .ref g6, .long v_oldRing, .ref g7, .long v_aheadRing, .ref g8]), (h1, xI X 6 v_kind), (h2, xI X 6 v_own)]) (xQ True (.returned (some (.int u)))) 0 0 xNo := by
  refine xMet (n := 2) md_X7_parted.1 (Nat.le_of_ble_eq_true rfl) ?_
  intro p e s m args below meth c ls A hC hr hlk hH hl
  have hl : lv_has ls 8 [(0, .ref h0), (1, .int p1), (2, .int p2)] := hl
  have hx := hC.1
  have hb := hC.2.1
  have L32 : ∀ (x32_3 : Int64) (n : Nat) (s32 : Int32 × Int32 × Int32), xloop (f_X7_parted_L32 v_laws v_size v_kind v_own p1 x32_3) n s32 = some u → ∀ (ls : Array Slot), lv_has ls 8 [(0, .ref h0), (1, .int p1), (3, .long x32_3), (5, .int s32.1), (6, .int s32.2.1), (7, .int s32.2.2)] → W p l e (xrm 3 72) s m args below meth c s.heap [] 0 0 (MQ below (xQ True (.returned (some (.int u)))) args s 0 0 xNo) (F0 m 32 ls []) := by
    intro x32_3 n
    induction n with
    | zero => intro s32 hf; exact xloop_0 hf
    | succ n ih32 =>
      intro s32 hf ls hl
      obtain ⟨o32, hf, ho32⟩ := xloop_s hf
      refine lv_iload hx hb dX7_parted_32 (lv_at hl 5 rfl) ?_
      refine lv_aload_n hx hb dX7_parted_34 rfl (lv_at hl 0 rfl) ?_
      refine x_get hC fd_RX7_52 hH.1 0 rfl rfl dX7_parted_35 ?_
      refine lv_icmp_ge (tgt := 89) hx hb dX7_parted_38 (by decide) (fun c2 => ?_) (fun c2 => ?_)
      · have hf := xt c2 hf
        refine lv_iload hx hb dX7_parted_89 (lv_at hl 3 rfl) ?_
        refine lv_iload hx hb dX7_parted_91 (lv_at hl 4 rfl) ?_
        refine x_min hC hl.1 mw_1060 mw_476 mw_477 mw_478 (Nat.le_of_ble_eq_true rfl) (Nat.le_of_ble_eq_true rfl) (Nat.le_refl _) (Nat.le_refl _) dX7_parted_93 ?_
        have hf := xo_ret hf ho32
        exact x_reti hC hr hlk trivial hf dX7_parted_96
      · have hf := xe c2 hf
        refine lv_iload_n hx hb dX7_parted_41 rfl (lv_at hl 1 rfl) ?_
        refine lv_i2l hx hb dX7_parted_42 rfl ?_
        refine lv_iload hx hb dX7_parted_43 (lv_at hl 5 rfl) ?_
        obtain ⟨u3, hf3, hf⟩ := xb hf
        refine x_ran (x_runS (rest := []) (As := [.long (Int32.toInt64 p1), .int s32.2.2]) hC mw_336 md_X7_has (c_X7_has (X := X) hf3) hH [] rfl (by decide) hl.1 rfl rfl (Nat.le_of_ble_eq_true rfl) dX7_parted_45 ⟨Nat.le_of_ble_eq_true rfl, Nat.le_of_ble_eq_true rfl⟩ ⟨rfl, rfl⟩ ⟨Nat.le_refl _, Nat.le_refl _⟩) rfl (fun hz3 => ?_)
        refine lv_if_ne (tgt := 54) hx hb dX7_parted_48 (by decide) (fun c4 => ?_) (fun c4 => ?_)
        · have hf := xe c4 hf
          refine lv_aload_n hx hb dX7_parted_54 rfl (lv_at hl 0 rfl) ?_
          refine lv_iload hx hb dX7_parted_55 (lv_at hl 5 rfl) ?_
          refine lv_lload_n hx hb dX7_parted_57 rfl (lv_at hl 2 rfl) ?_
          refine lv_aload_n hx hb dX7_parted_58 rfl (lv_at hl 0 rfl) ?_
          refine x_get hC fd_RX7_62 hH.1 0 rfl rfl dX7_parted_59 ?_
          refine lv_iconst (v := (1 : Int32)) hx hb dX7_parted_62 (by decide) ?_
          refine lv_iadd hx hb dX7_parted_63 ?_
          refine lv_aload_n hx hb dX7_parted_64 rfl (lv_at hl 0 rfl) ?_
          refine x_get hC fd_RX7_62 hH.1 0 rfl rfl dX7_parted_65 ?_
          obtain ⟨u5, hf5, hf⟩ := xb hf
          refine x_ran (x_runV (q0 := 0) (rest := []) (As := [.int s32.2.2, .long x32_3, .int (v_size + (1 : Int32)), .int v_size]) hC mw_329 md_X7_strikesAt (c_X7_strikesAt (X := X) hf5) hH [0, 1, 2] rfl (by decide) rfl rfl rfl hl.1 rfl rfl (Nat.le_of_ble_eq_true rfl) dX7_parted_68 ⟨Nat.le_of_ble_eq_true rfl, Nat.le_of_ble_eq_true rfl⟩ ⟨rfl, rfl⟩ ⟨Nat.le_refl _, Nat.le_refl _⟩) rfl (fun hz5 => ?_)
          refine lv_if_eq (tgt := 80) hx hb dX7_parted_71 (by decide) (fun c6 => ?_) (fun c6 => ?_)
          · have hf := xt c6 hf
            refine lv_iinc (v := s32.2.1 + (1 : Int32)) (lv' := [(6, .int (s32.2.1 + (1 : Int32))), (0, .ref h0), (1, .int p1), (3, .long x32_3), (5, .int s32.1), (7, .int s32.2.2)]) hx hb dX7_parted_80 hl (k := 4) rfl rfl (by decide) rfl (fun ls hl => ?_)
            refine lv_iinc (v := s32.2.2 + (1 : Int32)) (lv' := [(7, .int (s32.2.2 + (1 : Int32))), (6, .int (s32.2.1 + (1 : Int32))), (0, .ref h0), (1, .int p1), (3, .long x32_3), (5, .int s32.1)]) hx hb dX7_parted_83 hl (k := 5) rfl rfl (by decide) rfl (fun ls hl => ?_)
            refine lv_goto (tgt := 32) hx hb dX7_parted_86 (by decide) ?_
            have hf := xo_go hf ho32
            exact ih32 (s32.1, s32.2.1 + (1 : Int32), s32.2.2 + (1 : Int32)) hf ls (lv_sub hl [2, 3, 4, 5, 1, 0] rfl)
          · have hf := xe c6 hf
            refine lv_iinc (v := s32.1 + (1 : Int32)) (lv' := [(5, .int (s32.1 + (1 : Int32))), (0, .ref h0), (1, .int p1), (3, .long x32_3), (6, .int s32.2.1), (7, .int s32.2.2)]) hx hb dX7_parted_74 hl (k := 3) rfl rfl (by decide) rfl (fun ls hl => ?_)
            refine lv_goto (tgt := 83) hx hb dX7_parted_77 (by decide) ?_
            refine lv_iinc (v := s32.2.2 + (1 : Int32)) (lv' := [(7, .int (s32.2.2 + (1 : Int32))), (5, .int (s32.1 + (1 : Int32))), (0, .ref h0), (1, .int p1), (3, .long x32_3), (6, .int s32.2.1)]) hx hb dX7_parted_83 hl (k := 5) rfl rfl (by decide) rfl (fun ls hl => ?_)
            refine lv_goto (tgt := 32) hx hb dX7_parted_86 (by decide) ?_
            have hf := xo_go hf ho32
            exact ih32 (s32.1 + (1 : Int32), s32.2.1, s32.2.2 + (1 : Int32)) hf ls (lv_sub hl [2, 3, 4, 1, 5, 0] rfl)
        · have hf := xt c4 hf
          refine lv_goto (tgt := 83) hx hb dX7_parted_51 (by decide) ?_
          refine lv_iinc (v := s32.2.2 + (1 : Int32)) (lv' := [(7, .int (s32.2.2 + (1 : Int32))), (0, .ref h0), (1, .int p1), (3, .long x32_3), (5, .int s32.1), (6, .int s32.2.1)]) hx hb dX7_parted_83 hl (k := 5) rfl rfl (by decide) rfl (fun ls hl => ?_)
          refine lv_goto (tgt := 32) hx hb dX7_parted_86 (by decide) ?_
          have hf := xo_go hf ho32
          exact ih32 (s32.1, s32.2.1, s32.2.2 + (1 : Int32)) hf ls (lv_sub hl [1, 2, 3, 4, 5, 0] rfl)
  have J22 : ∀ (j22_s0 : Int64), f_X7_parted_J22 v_laws v_size v_kind v_own p1 j22_s0 = some u → ∀ (ls : Array Slot), lv_has ls 8 [(0, .ref h0), (1, .int p1)] → W p l e (xrm 3 72) s m args below meth c s.heap [] 0 0 (MQ below (xQ True (.returned (some (.int u)))) args s 0 0 xNo) (F0 m 22 ls [.long j22_s0]) := by
    intro j22_s0 hf ls hl
    refine lv_lstore_n (lv' := [(3, .long j22_s0), (0, .ref h0), (1, .int p1)]) hx hb dX7_parted_22 rfl hl (by decide) rfl (fun ls hl => ?_)
    refine lv_iconst (v := (0 : Int32)) hx hb dX7_parted_23 (by decide) ?_
    refine lv_istore (lv' := [(5, .int (0 : Int32)), (3, .long j22_s0), (0, .ref h0), (1, .int p1)]) hx hb dX7_parted_24 hl (by decide) rfl (fun ls hl => ?_)
    refine lv_iconst (v := (0 : Int32)) hx hb dX7_parted_26 (by decide) ?_
    refine lv_istore (lv' := [(6, .int (0 : Int32)), (5, .int (0 : Int32)), (3, .long j22_s0), (0, .ref h0), (1, .int p1)]) hx hb dX7_parted_27 hl (by decide) rfl (fun ls hl => ?_)
    refine lv_iconst (v := (0 : Int32)) hx hb dX7_parted_29 (by decide) ?_
    refine lv_istore (lv' := [(7, .int (0 : Int32)), (6, .int (0 : Int32)), (5, .int (0 : Int32)), (3, .long j22_s0), (0, .ref h0), (1, .int p1)]) hx hb dX7_parted_30 hl (by decide) rfl (fun ls hl => ?_)
    exact L32 j22_s0 xN ((0 : Int32), (0 : Int32), (0 : Int32)) hf ls (lv_sub hl [4, 5, 3, 2, 1, 0] rfl)
  refine lv_iload_n hx hb dX7_parted_0 rfl (lv_at hl 2 rfl) ?_
  refine lv_if_eq (tgt := 18) hx hb dX7_parted_1 (by decide) (fun c1 => ?_) (fun c1 => ?_)
  · have hf := xt c1 hf
    refine lv_aload_n hx hb dX7_parted_18 rfl (lv_at hl 0 rfl) ?_
    refine x_get hC fd_RX7_90 hH.1 0 rfl rfl dX7_parted_19 ?_
    exact J22 v_ring hf ls (lv_sub hl [0, 1] rfl)
  · have hf := xe c1 hf
    refine lv_aload_n hx hb dX7_parted_4 rfl (lv_at hl 0 rfl) ?_
    refine x_get hC fd_RX7_90 hH.1 0 rfl rfl dX7_parted_5 ?_
    refine lv_lconst (v := (1 : Int64)) hx hb dX7_parted_8 (by decide) ?_
    refine lv_aload_n hx hb dX7_parted_9 rfl (lv_at hl 0 rfl) ?_
    refine x_get hC fd_RX7_62 hH.1 0 rfl rfl dX7_parted_10 ?_
    refine x_lshl hx hb dX7_parted_13 ?_
    refine lv_lor hx hb dX7_parted_14 ?_
    refine lv_goto (tgt := 22) hx hb dX7_parted_15 (by decide) ?_
    exact J22 (v_ring ||| (xlshl (1 : Int64) v_size)) hf ls (lv_sub hl [0, 1] rfl)
def f_X7_next_ (v_laws : Int32) (v_ring : Int64) (v_size : Int32) (v_kind : (Nat → Int32)) (v_own : (Nat → Int32)) (v_refusals : (Nat → Int32)) (p1 : Int32) (p2 : Int32) : Option (Int32 × (Nat → Int32)) :=
  (f_X7_isSet v_laws p1).bind fun u1 =>
  if u1 = 0 then
    (f_X7_no v_refusals (-2 : Int32)).bind fun u3 =>
    some (u3.1, u3.2)
  else
  (f_X7_within p2 (0 : Int32) (1 : Int32)).bind fun u4 =>
  if u4 = 0 then
    (f_X7_no v_refusals (-2 : Int32)).bind fun u12 =>
    some (u12.1, u12.2)
  else
  if v_size = (40 : Int32) then
    (f_X7_no v_refusals (-6 : Int32)).bind fun u11 =>
    some (u11.1, u11.2)
  else
  (f_X7_parted v_laws v_ring v_size v_kind v_own p1 (0 : Int32)).bind fun u7 =>
  (f_X7_parted v_laws v_ring v_size v_kind v_own p1 (1 : Int32)).bind fun u8 =>
  if p2 = (1 : Int32) then
    some (xmax u7 u8, v_refusals)
  else
  if u8 ≤ u7 then
    some ((0 : Int32), v_refusals)
  else
  some ((1 : Int32), v_refusals)
set_option maxHeartbeats 4000000 in
set_option maxRecDepth 100000 in
theorem c_X7_next_ {l : Launch} {X : xG} {h0 h1 h2 h3 g0 g1 g2 g3 g4 g5 g6 g7 : Nat} {v_laws : Int32} {v_inForce : Int32} {v_depth : Int32} {v_miss : Int32} {v_ring : Int64} {v_size : Int32} {v_people : Int32} {v_seed : Int32} {v_taped : Int32} {v_from : Int32} {v_to : Int32} {v_token : Int32} {v_value : Int32} {v_imaged : Int32} {v_oldRing : Int64} {v_aheadRing : Int64} {v_kind : (Nat → Int32)} {v_own : (Nat → Int32)} {v_refusals : (Nat → Int32)} {p1 : Int32} {p2 : Int32} {u : Int32 × (Nat → Int32)} (hf : f_X7_next_ v_laws v_ring v_size v_kind v_own v_refusals p1 p2 = some u) : Met l yX7_next_ (xw yX7_next_ cX7_next_ 5 (some .int)) (xrm 4 99) (xPc [.ref h0, .int p1, .int p2] X [(h0, xO 7 [.int v_laws, .ref h1, .ref h2, .int v_inForce, .int v_depth, .int v_miss, .long v_ring, .int v_size, .int v_people, .ref g0, .int v_seed, .int v_taped, .ref g1, .int v_from, .int v_to, .int v_token, .int v_value, .ref g2, .ref g3, .ref g4, .ref h3, .int v_imaged, .ref g5, .long v_oldRing, .ref g6, .long v_aheadRing, .ref g7]), (h1, xI X 6 v_kind), (h2, xI X 6 v_own), (h3, xI X 7 v_refusals)]) (xQw True (.returned (some (.int u.1))) X [(h0, xO 7 [.int v_laws, .ref h1, .ref h2, .int v_inForce, .int v_depth, .int v_miss, .long v_ring, .int v_size, .int v_people, .ref g0, .int v_seed, .int v_taped, .ref g1, .int v_from, .int v_to, .int v_token, .int v_value, .ref g2, .ref g3, .ref g4, .ref h3, .int v_imaged, .ref g5, .long v_oldRing, .ref g6, .long v_aheadRing, .ref g7]), (h1, xI X 6 v_kind), (h2, xI X 6 v_own), (h3, xI X 7 u.2)] (xAs [(h0, xO 7 [.int v_laws, .ref h1, .ref h2, .int v_inForce, .int v_depth, .int v_miss, .long v_ring, .int v_size, .int v_people, .ref g0, .int v_seed, .int v_taped, .ref g1, .int v_from, .int v_to, .int v_token, .int v_value, .ref g2, .ref g3, .ref g4, .ref h3, .int v_imaged, .ref g5, .long v_oldRing, .ref g6, .long v_aheadRing, .ref g7]), (h1, xI X 6 v_kind), (h2, xI X 6 v_own), (h3, xI X 7 v_refusals)])) 0 0 (xAs [(h0, xO 7 [.int v_laws, .ref h1, .ref h2, .int v_inForce, .int v_depth, .int v_miss, .long v_ring, .int v_size, .int v_people, .ref g0, .int v_seed, .int v_taped, .ref g1, .int v_from, .int v_to, .int v_token, .int v_value, .ref g2, .ref g3, .ref g4, .ref h3, .int v_imaged, .ref g5, .long v_oldRing, .ref g6, .long v_aheadRing, .ref g7]), (h1, xI X 6 v_kind), (h2, xI X 6 v_own), (h3, xI X 7 v_refusals)]) := by
  refine xMetw (Qc := fun A => xQw True (.returned (some (.int u.1))) X [(h0, xO 7 [.int v_laws, .ref h1, .ref h2, .int v_inForce, .int v_depth, .int v_miss, .long v_ring, .int v_size, .int v_people, .ref g0, .int v_seed, .int v_taped, .ref g1, .int v_from, .int v_to, .int v_token, .int v_value, .ref g2, .ref g3, .ref g4, .ref h3, .int v_imaged, .ref g5, .long v_oldRing, .ref g6, .long v_aheadRing, .ref g7]), (h1, xI X 6 v_kind), (h2, xI X 6 v_own), (h3, xI X 7 u.2)] A) (n := 2) md_X7_next_.1 (Nat.le_of_ble_eq_true rfl) ?_
  intro p e s m args below meth c ls A hC hr hlk hH hl
  have hl : lv_has ls 5 [(0, .ref h0), (1, .int p1), (2, .int p2)] := hl
  have hx := hC.1
  have hb := hC.2.1
  refine lv_aload_n hx hb dX7_next__0 rfl (lv_at hl 0 rfl) ?_
  refine lv_iload_n hx hb dX7_next__1 rfl (lv_at hl 1 rfl) ?_
  obtain ⟨u1, hf1, hf⟩ := xb hf
  refine x_ran (x_runV (q0 := 0) (rest := []) (As := [.int p1]) hC mw_917 md_X7_isSet (c_X7_isSet (X := X) hf1) hH [0] rfl (by decide) rfl rfl rfl hl.1 rfl rfl (Nat.le_of_ble_eq_true rfl) dX7_next__2 ⟨Nat.le_of_ble_eq_true rfl, Nat.le_of_ble_eq_true rfl⟩ ⟨rfl, rfl⟩ ⟨Nat.le_refl _, Nat.le_refl _⟩) rfl (fun hz1 => ?_)
  refine lv_if_eq (tgt := 17) hx hb dX7_next__5 (by decide) (fun c2 => ?_) (fun c2 => ?_)
  · have hf := xt c2 hf
    refine lv_aload_n hx hb dX7_next__17 rfl (lv_at hl 0 rfl) ?_
    refine lv_bipush (v := (-2 : Int32)) hx hb dX7_next__18 (by decide) ?_
    obtain ⟨u3, hf3, hf⟩ := xb hf
    refine x_ranw (ws' := [(h0, xO 7 [.int v_laws, .ref h1, .ref h2, .int v_inForce, .int v_depth, .int v_miss, .long v_ring, .int v_size, .int v_people, .ref g0, .int v_seed, .int v_taped, .ref g1, .int v_from, .int v_to, .int v_token, .int v_value, .ref g2, .ref g3, .ref g4, .ref h3, .int v_imaged, .ref g5, .long v_oldRing, .ref g6, .long v_aheadRing, .ref g7]), (h1, xI X 6 v_kind), (h2, xI X 6 v_own), (h3, xI X 7 u3.2)]) (x_runV (q0 := 0) (rest := []) (As := [.int (-2 : Int32)]) hC mw_143 md_X7_no (c_X7_no (X := X) hf3) hH [0, 3] rfl (by decide) rfl rfl rfl hl.1 rfl rfl (Nat.le_of_ble_eq_true rfl) dX7_next__20 ⟨Nat.le_of_ble_eq_true rfl, Nat.le_of_ble_eq_true rfl⟩ ⟨rfl, rfl⟩ ⟨Nat.le_refl _, Nat.le_refl _⟩) hH [0, 3] rfl rfl rfl rfl rfl (fun hz3 H locs hH => ?_)
    exact x_retiw (φ := fun _ => True) (f := fun u : Int32 × (Nat → Int32) => u.1) (wf := fun u : Int32 × (Nat → Int32) => [(h0, xO 7 [.int v_laws, .ref h1, .ref h2, .int v_inForce, .int v_depth, .int v_miss, .long v_ring, .int v_size, .int v_people, .ref g0, .int v_seed, .int v_taped, .ref g1, .int v_from, .int v_to, .int v_token, .int v_value, .ref g2, .ref g3, .ref g4, .ref h3, .int v_imaged, .ref g5, .long v_oldRing, .ref g6, .long v_aheadRing, .ref g7]), (h1, xI X 6 v_kind), (h2, xI X 6 v_own), (h3, xI X 7 u.2)]) hC hr hlk trivial hf hH rfl rfl dX7_next__23
  · have hf := xe c2 hf
    refine lv_iload_n hx hb dX7_next__8 rfl (lv_at hl 2 rfl) ?_
    refine lv_iconst (v := (0 : Int32)) hx hb dX7_next__9 (by decide) ?_
    refine lv_iconst (v := (1 : Int32)) hx hb dX7_next__10 (by decide) ?_
    obtain ⟨u4, hf4, hf⟩ := xb hf
    refine x_ran (x_runS (rest := []) (As := [.int p2, .int (0 : Int32), .int (1 : Int32)]) hC mw_140 md_X7_within (c_X7_within (X := X) hf4) hH [] rfl (by decide) hl.1 rfl rfl (Nat.le_of_ble_eq_true rfl) dX7_next__11 ⟨Nat.le_of_ble_eq_true rfl, Nat.le_of_ble_eq_true rfl⟩ ⟨rfl, rfl⟩ ⟨Nat.le_refl _, Nat.le_refl _⟩) rfl (fun hz4 => ?_)
    refine lv_if_ne (tgt := 24) hx hb dX7_next__14 (by decide) (fun c5 => ?_) (fun c5 => ?_)
    · have hf := xe c5 hf
      refine lv_aload_n hx hb dX7_next__24 rfl (lv_at hl 0 rfl) ?_
      refine x_get hC fd_RX7_62 hH.1 0 rfl rfl dX7_next__25 ?_
      refine lv_bipush (v := (40 : Int32)) hx hb dX7_next__28 (by decide) ?_
      refine lv_icmp_ne (tgt := 40) hx hb dX7_next__30 (by decide) (fun c6 => ?_) (fun c6 => ?_)
      · have hf := xe c6 hf
        refine lv_aload_n hx hb dX7_next__40 rfl (lv_at hl 0 rfl) ?_
        refine lv_iload_n hx hb dX7_next__41 rfl (lv_at hl 1 rfl) ?_
        refine lv_iconst (v := (0 : Int32)) hx hb dX7_next__42 (by decide) ?_
        obtain ⟨u7, hf7, hf⟩ := xb hf
        refine x_ran (x_runV (q0 := 0) (rest := []) (As := [.int p1, .int (0 : Int32)]) hC mw_1056 md_X7_parted (c_X7_parted (X := X) hf7) hH [0, 1, 2] rfl (by decide) rfl rfl rfl hl.1 rfl rfl (Nat.le_of_ble_eq_true rfl) dX7_next__43 ⟨Nat.le_of_ble_eq_true rfl, Nat.le_of_ble_eq_true rfl⟩ ⟨rfl, rfl⟩ ⟨Nat.le_refl _, Nat.le_refl _⟩) rfl (fun hz7 => ?_)
        refine lv_istore_n (lv' := [(3, .int u7), (0, .ref h0), (1, .int p1), (2, .int p2)]) hx hb dX7_next__46 rfl hl (by decide) rfl (fun ls hl => ?_)
        refine lv_aload_n hx hb dX7_next__47 rfl (lv_at hl 1 rfl) ?_
        refine lv_iload_n hx hb dX7_next__48 rfl (lv_at hl 2 rfl) ?_
        refine lv_iconst (v := (1 : Int32)) hx hb dX7_next__49 (by decide) ?_
        obtain ⟨u8, hf8, hf⟩ := xb hf
        refine x_ran (x_runV (q0 := 0) (rest := []) (As := [.int p1, .int (1 : Int32)]) hC mw_1056 md_X7_parted (c_X7_parted (X := X) hf8) hH [0, 1, 2] rfl (by decide) rfl rfl rfl hl.1 rfl rfl (Nat.le_of_ble_eq_true rfl) dX7_next__50 ⟨Nat.le_of_ble_eq_true rfl, Nat.le_of_ble_eq_true rfl⟩ ⟨rfl, rfl⟩ ⟨Nat.le_refl _, Nat.le_refl _⟩) rfl (fun hz8 => ?_)
        refine lv_istore (lv' := [(4, .int u8), (3, .int u7), (0, .ref h0), (1, .int p1), (2, .int p2)]) hx hb dX7_next__53 hl (by decide) rfl (fun ls hl => ?_)
        refine lv_iload_n hx hb dX7_next__55 rfl (lv_at hl 4 rfl) ?_
        refine lv_iconst (v := (1 : Int32)) hx hb dX7_next__56 (by decide) ?_
        refine lv_icmp_ne (tgt := 69) hx hb dX7_next__57 (by decide) (fun c9 => ?_) (fun c9 => ?_)
        · have hf := xe c9 hf
          refine lv_iload hx hb dX7_next__69 (lv_at hl 0 rfl) ?_
          refine lv_iload_n hx hb dX7_next__71 rfl (lv_at hl 1 rfl) ?_
          refine lv_icmp_le (tgt := 79) hx hb dX7_next__72 (by decide) (fun c10 => ?_) (fun c10 => ?_)
          · have hf := xt c10 hf
            refine lv_iconst (v := (0 : Int32)) hx hb dX7_next__79 (by decide) ?_
            exact x_retiw (φ := fun _ => True) (f := fun u : Int32 × (Nat → Int32) => u.1) (wf := fun u : Int32 × (Nat → Int32) => [(h0, xO 7 [.int v_laws, .ref h1, .ref h2, .int v_inForce, .int v_depth, .int v_miss, .long v_ring, .int v_size, .int v_people, .ref g0, .int v_seed, .int v_taped, .ref g1, .int v_from, .int v_to, .int v_token, .int v_value, .ref g2, .ref g3, .ref g4, .ref h3, .int v_imaged, .ref g5, .long v_oldRing, .ref g6, .long v_aheadRing, .ref g7]), (h1, xI X 6 v_kind), (h2, xI X 6 v_own), (h3, xI X 7 u.2)]) hC hr hlk trivial hf hH rfl rfl dX7_next__80
          · have hf := xe c10 hf
            refine lv_iconst (v := (1 : Int32)) hx hb dX7_next__75 (by decide) ?_
            refine lv_goto (tgt := 80) hx hb dX7_next__76 (by decide) ?_
            exact x_retiw (φ := fun _ => True) (f := fun u : Int32 × (Nat → Int32) => u.1) (wf := fun u : Int32 × (Nat → Int32) => [(h0, xO 7 [.int v_laws, .ref h1, .ref h2, .int v_inForce, .int v_depth, .int v_miss, .long v_ring, .int v_size, .int v_people, .ref g0, .int v_seed, .int v_taped, .ref g1, .int v_from, .int v_to, .int v_token, .int v_value, .ref g2, .ref g3, .ref g4, .ref h3, .int v_imaged, .ref g5, .long v_oldRing, .ref g6, .long v_aheadRing, .ref g7]), (h1, xI X 6 v_kind), (h2, xI X 6 v_own), (h3, xI X 7 u.2)]) hC hr hlk trivial hf hH rfl rfl dX7_next__80
        · have hf := xt c9 hf
          refine lv_iload_n hx hb dX7_next__60 rfl (lv_at hl 1 rfl) ?_
          refine lv_iload hx hb dX7_next__61 (lv_at hl 0 rfl) ?_
          refine x_max hC hl.1 mw_779 mw_773 mw_477 mw_774 (Nat.le_of_ble_eq_true rfl) (Nat.le_of_ble_eq_true rfl) (Nat.le_refl _) (Nat.le_refl _) dX7_next__63 ?_
          refine lv_goto (tgt := 80) hx hb dX7_next__66 (by decide) ?_
          exact x_retiw (φ := fun _ => True) (f := fun u : Int32 × (Nat → Int32) => u.1) (wf := fun u : Int32 × (Nat → Int32) => [(h0, xO 7 [.int v_laws, .ref h1, .ref h2, .int v_inForce, .int v_depth, .int v_miss, .long v_ring, .int v_size, .int v_people, .ref g0, .int v_seed, .int v_taped, .ref g1, .int v_from, .int v_to, .int v_token, .int v_value, .ref g2, .ref g3, .ref g4, .ref h3, .int v_imaged, .ref g5, .long v_oldRing, .ref g6, .long v_aheadRing, .ref g7]), (h1, xI X 6 v_kind), (h2, xI X 6 v_own), (h3, xI X 7 u.2)]) hC hr hlk trivial hf hH rfl rfl dX7_next__80
      · have hf := xt c6 hf
        refine lv_aload_n hx hb dX7_next__33 rfl (lv_at hl 0 rfl) ?_
        refine lv_bipush (v := (-6 : Int32)) hx hb dX7_next__34 (by decide) ?_
        obtain ⟨u11, hf11, hf⟩ := xb hf
        refine x_ranw (ws' := [(h0, xO 7 [.int v_laws, .ref h1, .ref h2, .int v_inForce, .int v_depth, .int v_miss, .long v_ring, .int v_size, .int v_people, .ref g0, .int v_seed, .int v_taped, .ref g1, .int v_from, .int v_to, .int v_token, .int v_value, .ref g2, .ref g3, .ref g4, .ref h3, .int v_imaged, .ref g5, .long v_oldRing, .ref g6, .long v_aheadRing, .ref g7]), (h1, xI X 6 v_kind), (h2, xI X 6 v_own), (h3, xI X 7 u11.2)]) (x_runV (q0 := 0) (rest := []) (As := [.int (-6 : Int32)]) hC mw_143 md_X7_no (c_X7_no (X := X) hf11) hH [0, 3] rfl (by decide) rfl rfl rfl hl.1 rfl rfl (Nat.le_of_ble_eq_true rfl) dX7_next__36 ⟨Nat.le_of_ble_eq_true rfl, Nat.le_of_ble_eq_true rfl⟩ ⟨rfl, rfl⟩ ⟨Nat.le_refl _, Nat.le_refl _⟩) hH [0, 3] rfl rfl rfl rfl rfl (fun hz11 H locs hH => ?_)
        exact x_retiw (φ := fun _ => True) (f := fun u : Int32 × (Nat → Int32) => u.1) (wf := fun u : Int32 × (Nat → Int32) => [(h0, xO 7 [.int v_laws, .ref h1, .ref h2, .int v_inForce, .int v_depth, .int v_miss, .long v_ring, .int v_size, .int v_people, .ref g0, .int v_seed, .int v_taped, .ref g1, .int v_from, .int v_to, .int v_token, .int v_value, .ref g2, .ref g3, .ref g4, .ref h3, .int v_imaged, .ref g5, .long v_oldRing, .ref g6, .long v_aheadRing, .ref g7]), (h1, xI X 6 v_kind), (h2, xI X 6 v_own), (h3, xI X 7 u.2)]) hC hr hlk trivial hf hH rfl rfl dX7_next__39
    · have hf := xt c5 hf
      refine lv_aload_n hx hb dX7_next__17 rfl (lv_at hl 0 rfl) ?_
      refine lv_bipush (v := (-2 : Int32)) hx hb dX7_next__18 (by decide) ?_
      obtain ⟨u12, hf12, hf⟩ := xb hf
      refine x_ranw (ws' := [(h0, xO 7 [.int v_laws, .ref h1, .ref h2, .int v_inForce, .int v_depth, .int v_miss, .long v_ring, .int v_size, .int v_people, .ref g0, .int v_seed, .int v_taped, .ref g1, .int v_from, .int v_to, .int v_token, .int v_value, .ref g2, .ref g3, .ref g4, .ref h3, .int v_imaged, .ref g5, .long v_oldRing, .ref g6, .long v_aheadRing, .ref g7]), (h1, xI X 6 v_kind), (h2, xI X 6 v_own), (h3, xI X 7 u12.2)]) (x_runV (q0 := 0) (rest := []) (As := [.int (-2 : Int32)]) hC mw_143 md_X7_no (c_X7_no (X := X) hf12) hH [0, 3] rfl (by decide) rfl rfl rfl hl.1 rfl rfl (Nat.le_of_ble_eq_true rfl) dX7_next__20 ⟨Nat.le_of_ble_eq_true rfl, Nat.le_of_ble_eq_true rfl⟩ ⟨rfl, rfl⟩ ⟨Nat.le_refl _, Nat.le_refl _⟩) hH [0, 3] rfl rfl rfl rfl rfl (fun hz12 H locs hH => ?_)
      exact x_retiw (φ := fun _ => True) (f := fun u : Int32 × (Nat → Int32) => u.1) (wf := fun u : Int32 × (Nat → Int32) => [(h0, xO 7 [.int v_laws, .ref h1, .ref h2, .int v_inForce, .int v_depth, .int v_miss, .long v_ring, .int v_size, .int v_people, .ref g0, .int v_seed, .int v_taped, .ref g1, .int v_from, .int v_to, .int v_token, .int v_value, .ref g2, .ref g3, .ref g4, .ref h3, .int v_imaged, .ref g5, .long v_oldRing, .ref g6, .long v_aheadRing, .ref g7]), (h1, xI X 6 v_kind), (h2, xI X 6 v_own), (h3, xI X 7 u.2)]) hC hr hlk trivial hf hH rfl rfl dX7_next__23
def f_X7_day_L53 (v_refusals : (Nat → Int32)) (p1 : Int32) (p3 : Int32) (p4 : Int32) (s53 : Int32) : Option ((Int32 × (Nat → Int32)) ⊕ (Int32)) :=
  if (10000 : Int32) ≤ s53 then
    some (.inl ((-1 : Int32), v_refusals))
  else
  if p3 = 0 then none else
  if (xrem s53 p3) = p4 then
    some (.inl (s53, v_refusals))
  else
  some (.inr (s53 + p1))
def f_X7_day (v_refusals : (Nat → Int32)) (p1 : Int32) (p2 : Int32) (p3 : Int32) (p4 : Int32) : Option (Int32 × (Nat → Int32)) :=
  (f_X7_within p1 (1 : Int32) (99 : Int32)).bind fun u1 =>
  if u1 = 0 then
    (f_X7_no v_refusals (-2 : Int32)).bind fun u3 =>
    some (u3.1, u3.2)
  else
  (f_X7_within p3 (1 : Int32) (99 : Int32)).bind fun u4 =>
  if u4 = 0 then
    (f_X7_no v_refusals (-2 : Int32)).bind fun u6 =>
    some (u6.1, u6.2)
  else
  (f_X7_within p2 (0 : Int32) (p1 - (1 : Int32))).bind fun u7 =>
  if u7 = 0 then
    (f_X7_no v_refusals (-2 : Int32)).bind fun u9 =>
    some (u9.1, u9.2)
  else
  (f_X7_within p4 (0 : Int32) (p3 - (1 : Int32))).bind fun u10 =>
  if u10 = 0 then
    (f_X7_no v_refusals (-2 : Int32)).bind fun u15 =>
    some (u15.1, u15.2)
  else
  xloop (f_X7_day_L53 v_refusals p1 p3 p4) xN p2
set_option maxHeartbeats 4000000 in
set_option maxRecDepth 100000 in
theorem c_X7_day {l : Launch} {X : xG} {h0 h1 g0 g1 g2 g3 g4 g5 g6 g7 g8 g9 : Nat} {v_laws : Int32} {v_inForce : Int32} {v_depth : Int32} {v_miss : Int32} {v_ring : Int64} {v_size : Int32} {v_people : Int32} {v_seed : Int32} {v_taped : Int32} {v_from : Int32} {v_to : Int32} {v_token : Int32} {v_value : Int32} {v_imaged : Int32} {v_oldRing : Int64} {v_aheadRing : Int64} {v_refusals : (Nat → Int32)} {p1 : Int32} {p2 : Int32} {p3 : Int32} {p4 : Int32} {u : Int32 × (Nat → Int32)} (hf : f_X7_day v_refusals p1 p2 p3 p4 = some u) : Met l yX7_day (xw yX7_day cX7_day 6 (some .int)) (xrm 1 22) (xPc [.ref h0, .int p1, .int p2, .int p3, .int p4] X [(h0, xO 7 [.int v_laws, .ref g0, .ref g1, .int v_inForce, .int v_depth, .int v_miss, .long v_ring, .int v_size, .int v_people, .ref g2, .int v_seed, .int v_taped, .ref g3, .int v_from, .int v_to, .int v_token, .int v_value, .ref g4, .ref g5, .ref g6, .ref h1, .int v_imaged, .ref g7, .long v_oldRing, .ref g8, .long v_aheadRing, .ref g9]), (h1, xI X 7 v_refusals)]) (xQw True (.returned (some (.int u.1))) X [(h0, xO 7 [.int v_laws, .ref g0, .ref g1, .int v_inForce, .int v_depth, .int v_miss, .long v_ring, .int v_size, .int v_people, .ref g2, .int v_seed, .int v_taped, .ref g3, .int v_from, .int v_to, .int v_token, .int v_value, .ref g4, .ref g5, .ref g6, .ref h1, .int v_imaged, .ref g7, .long v_oldRing, .ref g8, .long v_aheadRing, .ref g9]), (h1, xI X 7 u.2)] (xAs [(h0, xO 7 [.int v_laws, .ref g0, .ref g1, .int v_inForce, .int v_depth, .int v_miss, .long v_ring, .int v_size, .int v_people, .ref g2, .int v_seed, .int v_taped, .ref g3, .int v_from, .int v_to, .int v_token, .int v_value, .ref g4, .ref g5, .ref g6, .ref h1, .int v_imaged, .ref g7, .long v_oldRing, .ref g8, .long v_aheadRing, .ref g9]), (h1, xI X 7 v_refusals)])) 0 0 (xAs [(h0, xO 7 [.int v_laws, .ref g0, .ref g1, .int v_inForce, .int v_depth, .int v_miss, .long v_ring, .int v_size, .int v_people, .ref g2, .int v_seed, .int v_taped, .ref g3, .int v_from, .int v_to, .int v_token, .int v_value, .ref g4, .ref g5, .ref g6, .ref h1, .int v_imaged, .ref g7, .long v_oldRing, .ref g8, .long v_aheadRing, .ref g9]), (h1, xI X 7 v_refusals)]) := by
  refine xMetw (Qc := fun A => xQw True (.returned (some (.int u.1))) X [(h0, xO 7 [.int v_laws, .ref g0, .ref g1, .int v_inForce, .int v_depth, .int v_miss, .long v_ring, .int v_size, .int v_people, .ref g2, .int v_seed, .int v_taped, .ref g3, .int v_from, .int v_to, .int v_token, .int v_value, .ref g4, .ref g5, .ref g6, .ref h1, .int v_imaged, .ref g7, .long v_oldRing, .ref g8, .long v_aheadRing, .ref g9]), (h1, xI X 7 u.2)] A) (n := 4) md_X7_day.1 (Nat.le_of_ble_eq_true rfl) ?_
  intro p e s m args below meth c ls A hC hr hlk hH hl
  have hl : lv_has ls 6 [(0, .ref h0), (1, .int p1), (2, .int p2), (3, .int p3), (4, .int p4)] := hl
  have hx := hC.1
  have hb := hC.2.1
  have L53 : ∀ (n : Nat) (s53 : Int32), xloop (f_X7_day_L53 v_refusals p1 p3 p4) n s53 = some u → ∀ (H : Heap) (locs : List Loc), xH X A [(h0, xO 7 [.int v_laws, .ref g0, .ref g1, .int v_inForce, .int v_depth, .int v_miss, .long v_ring, .int v_size, .int v_people, .ref g2, .int v_seed, .int v_taped, .ref g3, .int v_from, .int v_to, .int v_token, .int v_value, .ref g4, .ref g5, .ref g6, .ref h1, .int v_imaged, .ref g7, .long v_oldRing, .ref g8, .long v_aheadRing, .ref g9]), (h1, xI X 7 v_refusals)] s.heap H locs → ∀ (ls : Array Slot), lv_has ls 6 [(1, .int p1), (3, .int p3), (4, .int p4), (5, .int s53)] → W p l e (xrm 1 22) s m args below meth c H locs 0 0 (MQ below (xQw True (.returned (some (.int u.1))) X [(h0, xO 7 [.int v_laws, .ref g0, .ref g1, .int v_inForce, .int v_depth, .int v_miss, .long v_ring, .int v_size, .int v_people, .ref g2, .int v_seed, .int v_taped, .ref g3, .int v_from, .int v_to, .int v_token, .int v_value, .ref g4, .ref g5, .ref g6, .ref h1, .int v_imaged, .ref g7, .long v_oldRing, .ref g8, .long v_aheadRing, .ref g9]), (h1, xI X 7 u.2)] A) args s 0 0 A) (F0 m 53 ls []) := by
    intro  n
    induction n with
    | zero => intro s53 hf; exact xloop_0 hf
    | succ n ih53 =>
      intro s53 hf H locs hH ls hl
      obtain ⟨o53, hf, ho53⟩ := xloop_s hf
      refine lv_iload hx hb dX7_day_53 (lv_at hl 3 rfl) ?_
      refine lv_sipush (v := (10000 : Int32)) hx hb dX7_day_55 (by decide) ?_
      refine lv_icmp_ge (tgt := 82) hx hb dX7_day_58 (by decide) (fun c12 => ?_) (fun c12 => ?_)
      · have hf := xt c12 hf
        refine lv_iconst (v := (-1 : Int32)) hx hb dX7_day_82 (by decide) ?_
        have hf := xo_ret hf ho53
        exact x_retiw (φ := fun _ => True) (f := fun u : Int32 × (Nat → Int32) => u.1) (wf := fun u : Int32 × (Nat → Int32) => [(h0, xO 7 [.int v_laws, .ref g0, .ref g1, .int v_inForce, .int v_depth, .int v_miss, .long v_ring, .int v_size, .int v_people, .ref g2, .int v_seed, .int v_taped, .ref g3, .int v_from, .int v_to, .int v_token, .int v_value, .ref g4, .ref g5, .ref g6, .ref h1, .int v_imaged, .ref g7, .long v_oldRing, .ref g8, .long v_aheadRing, .ref g9]), (h1, xI X 7 u.2)]) hC hr hlk trivial hf hH rfl rfl dX7_day_83
      · have hf := xe c12 hf
        refine lv_iload hx hb dX7_day_61 (lv_at hl 3 rfl) ?_
        refine lv_iload_n hx hb dX7_day_63 rfl (lv_at hl 1 rfl) ?_
        obtain ⟨n13, hf⟩ := xok hf
        refine x_irem hx hb dX7_day_64 n13 ?_
        refine lv_iload hx hb dX7_day_65 (lv_at hl 2 rfl) ?_
        refine lv_icmp_ne (tgt := 73) hx hb dX7_day_67 (by decide) (fun c14 => ?_) (fun c14 => ?_)
        · have hf := xe c14 hf
          refine lv_iload hx hb dX7_day_73 (lv_at hl 3 rfl) ?_
          refine lv_iload_n hx hb dX7_day_75 rfl (lv_at hl 0 rfl) ?_
          refine lv_iadd hx hb dX7_day_76 ?_
          refine lv_istore (lv' := [(5, .int (s53 + p1)), (1, .int p1), (3, .int p3), (4, .int p4)]) hx hb dX7_day_77 hl (by decide) rfl (fun ls hl => ?_)
          refine lv_goto (tgt := 53) hx hb dX7_day_79 (by decide) ?_
          have hf := xo_go hf ho53
          exact ih53 (s53 + p1) hf _ _ hH ls (lv_sub hl [1, 2, 3, 0] rfl)
        · have hf := xt c14 hf
          refine lv_iload hx hb dX7_day_70 (lv_at hl 3 rfl) ?_
          have hf := xo_ret hf ho53
          exact x_retiw (φ := fun _ => True) (f := fun u : Int32 × (Nat → Int32) => u.1) (wf := fun u : Int32 × (Nat → Int32) => [(h0, xO 7 [.int v_laws, .ref g0, .ref g1, .int v_inForce, .int v_depth, .int v_miss, .long v_ring, .int v_size, .int v_people, .ref g2, .int v_seed, .int v_taped, .ref g3, .int v_from, .int v_to, .int v_token, .int v_value, .ref g4, .ref g5, .ref g6, .ref h1, .int v_imaged, .ref g7, .long v_oldRing, .ref g8, .long v_aheadRing, .ref g9]), (h1, xI X 7 u.2)]) hC hr hlk trivial hf hH rfl rfl dX7_day_72
  refine lv_iload_n hx hb dX7_day_0 rfl (lv_at hl 1 rfl) ?_
  refine lv_iconst (v := (1 : Int32)) hx hb dX7_day_1 (by decide) ?_
  refine lv_bipush (v := (99 : Int32)) hx hb dX7_day_2 (by decide) ?_
  obtain ⟨u1, hf1, hf⟩ := xb hf
  refine x_ran (x_runS (rest := []) (As := [.int p1, .int (1 : Int32), .int (99 : Int32)]) hC mw_140 md_X7_within (c_X7_within (X := X) hf1) hH [] rfl (by decide) hl.1 rfl rfl (Nat.le_of_ble_eq_true rfl) dX7_day_4 ⟨Nat.le_of_ble_eq_true rfl, Nat.le_of_ble_eq_true rfl⟩ ⟨rfl, rfl⟩ ⟨Nat.le_refl _, Nat.le_refl _⟩) rfl (fun hz1 => ?_)
  refine lv_if_eq (tgt := 43) hx hb dX7_day_7 (by decide) (fun c2 => ?_) (fun c2 => ?_)
  · have hf := xt c2 hf
    refine lv_aload_n hx hb dX7_day_43 rfl (lv_at hl 0 rfl) ?_
    refine lv_bipush (v := (-2 : Int32)) hx hb dX7_day_44 (by decide) ?_
    obtain ⟨u3, hf3, hf⟩ := xb hf
    refine x_ranw (ws' := [(h0, xO 7 [.int v_laws, .ref g0, .ref g1, .int v_inForce, .int v_depth, .int v_miss, .long v_ring, .int v_size, .int v_people, .ref g2, .int v_seed, .int v_taped, .ref g3, .int v_from, .int v_to, .int v_token, .int v_value, .ref g4, .ref g5, .ref g6, .ref h1, .int v_imaged, .ref g7, .long v_oldRing, .ref g8, .long v_aheadRing, .ref g9]), (h1, xI X 7 u3.2)]) (x_runV (q0 := 0) (rest := []) (As := [.int (-2 : Int32)]) hC mw_143 md_X7_no (c_X7_no (X := X) hf3) hH [0, 1] rfl (by decide) rfl rfl rfl hl.1 rfl rfl (Nat.le_of_ble_eq_true rfl) dX7_day_46 ⟨Nat.le_of_ble_eq_true rfl, Nat.le_of_ble_eq_true rfl⟩ ⟨rfl, rfl⟩ ⟨Nat.le_refl _, Nat.le_refl _⟩) hH [0, 1] rfl rfl rfl rfl rfl (fun hz3 H locs hH => ?_)
    exact x_retiw (φ := fun _ => True) (f := fun u : Int32 × (Nat → Int32) => u.1) (wf := fun u : Int32 × (Nat → Int32) => [(h0, xO 7 [.int v_laws, .ref g0, .ref g1, .int v_inForce, .int v_depth, .int v_miss, .long v_ring, .int v_size, .int v_people, .ref g2, .int v_seed, .int v_taped, .ref g3, .int v_from, .int v_to, .int v_token, .int v_value, .ref g4, .ref g5, .ref g6, .ref h1, .int v_imaged, .ref g7, .long v_oldRing, .ref g8, .long v_aheadRing, .ref g9]), (h1, xI X 7 u.2)]) hC hr hlk trivial hf hH rfl rfl dX7_day_49
  · have hf := xe c2 hf
    refine lv_iload_n hx hb dX7_day_10 rfl (lv_at hl 3 rfl) ?_
    refine lv_iconst (v := (1 : Int32)) hx hb dX7_day_11 (by decide) ?_
    refine lv_bipush (v := (99 : Int32)) hx hb dX7_day_12 (by decide) ?_
    obtain ⟨u4, hf4, hf⟩ := xb hf
    refine x_ran (x_runS (rest := []) (As := [.int p3, .int (1 : Int32), .int (99 : Int32)]) hC mw_140 md_X7_within (c_X7_within (X := X) hf4) hH [] rfl (by decide) hl.1 rfl rfl (Nat.le_of_ble_eq_true rfl) dX7_day_14 ⟨Nat.le_of_ble_eq_true rfl, Nat.le_of_ble_eq_true rfl⟩ ⟨rfl, rfl⟩ ⟨Nat.le_refl _, Nat.le_refl _⟩) rfl (fun hz4 => ?_)
    refine lv_if_eq (tgt := 43) hx hb dX7_day_17 (by decide) (fun c5 => ?_) (fun c5 => ?_)
    · have hf := xt c5 hf
      refine lv_aload_n hx hb dX7_day_43 rfl (lv_at hl 0 rfl) ?_
      refine lv_bipush (v := (-2 : Int32)) hx hb dX7_day_44 (by decide) ?_
      obtain ⟨u6, hf6, hf⟩ := xb hf
      refine x_ranw (ws' := [(h0, xO 7 [.int v_laws, .ref g0, .ref g1, .int v_inForce, .int v_depth, .int v_miss, .long v_ring, .int v_size, .int v_people, .ref g2, .int v_seed, .int v_taped, .ref g3, .int v_from, .int v_to, .int v_token, .int v_value, .ref g4, .ref g5, .ref g6, .ref h1, .int v_imaged, .ref g7, .long v_oldRing, .ref g8, .long v_aheadRing, .ref g9]), (h1, xI X 7 u6.2)]) (x_runV (q0 := 0) (rest := []) (As := [.int (-2 : Int32)]) hC mw_143 md_X7_no (c_X7_no (X := X) hf6) hH [0, 1] rfl (by decide) rfl rfl rfl hl.1 rfl rfl (Nat.le_of_ble_eq_true rfl) dX7_day_46 ⟨Nat.le_of_ble_eq_true rfl, Nat.le_of_ble_eq_true rfl⟩ ⟨rfl, rfl⟩ ⟨Nat.le_refl _, Nat.le_refl _⟩) hH [0, 1] rfl rfl rfl rfl rfl (fun hz6 H locs hH => ?_)
      exact x_retiw (φ := fun _ => True) (f := fun u : Int32 × (Nat → Int32) => u.1) (wf := fun u : Int32 × (Nat → Int32) => [(h0, xO 7 [.int v_laws, .ref g0, .ref g1, .int v_inForce, .int v_depth, .int v_miss, .long v_ring, .int v_size, .int v_people, .ref g2, .int v_seed, .int v_taped, .ref g3, .int v_from, .int v_to, .int v_token, .int v_value, .ref g4, .ref g5, .ref g6, .ref h1, .int v_imaged, .ref g7, .long v_oldRing, .ref g8, .long v_aheadRing, .ref g9]), (h1, xI X 7 u.2)]) hC hr hlk trivial hf hH rfl rfl dX7_day_49
    · have hf := xe c5 hf
      refine lv_iload_n hx hb dX7_day_20 rfl (lv_at hl 2 rfl) ?_
      refine lv_iconst (v := (0 : Int32)) hx hb dX7_day_21 (by decide) ?_
      refine lv_iload_n hx hb dX7_day_22 rfl (lv_at hl 1 rfl) ?_
      refine lv_iconst (v := (1 : Int32)) hx hb dX7_day_23 (by decide) ?_
      refine lv_isub hx hb dX7_day_24 ?_
      obtain ⟨u7, hf7, hf⟩ := xb hf
      refine x_ran (x_runS (rest := []) (As := [.int p2, .int (0 : Int32), .int (p1 - (1 : Int32))]) hC mw_140 md_X7_within (c_X7_within (X := X) hf7) hH [] rfl (by decide) hl.1 rfl rfl (Nat.le_of_ble_eq_true rfl) dX7_day_25 ⟨Nat.le_of_ble_eq_true rfl, Nat.le_of_ble_eq_true rfl⟩ ⟨rfl, rfl⟩ ⟨Nat.le_refl _, Nat.le_refl _⟩) rfl (fun hz7 => ?_)
      refine lv_if_eq (tgt := 43) hx hb dX7_day_28 (by decide) (fun c8 => ?_) (fun c8 => ?_)
      · have hf := xt c8 hf
        refine lv_aload_n hx hb dX7_day_43 rfl (lv_at hl 0 rfl) ?_
        refine lv_bipush (v := (-2 : Int32)) hx hb dX7_day_44 (by decide) ?_
        obtain ⟨u9, hf9, hf⟩ := xb hf
        refine x_ranw (ws' := [(h0, xO 7 [.int v_laws, .ref g0, .ref g1, .int v_inForce, .int v_depth, .int v_miss, .long v_ring, .int v_size, .int v_people, .ref g2, .int v_seed, .int v_taped, .ref g3, .int v_from, .int v_to, .int v_token, .int v_value, .ref g4, .ref g5, .ref g6, .ref h1, .int v_imaged, .ref g7, .long v_oldRing, .ref g8, .long v_aheadRing, .ref g9]), (h1, xI X 7 u9.2)]) (x_runV (q0 := 0) (rest := []) (As := [.int (-2 : Int32)]) hC mw_143 md_X7_no (c_X7_no (X := X) hf9) hH [0, 1] rfl (by decide) rfl rfl rfl hl.1 rfl rfl (Nat.le_of_ble_eq_true rfl) dX7_day_46 ⟨Nat.le_of_ble_eq_true rfl, Nat.le_of_ble_eq_true rfl⟩ ⟨rfl, rfl⟩ ⟨Nat.le_refl _, Nat.le_refl _⟩) hH [0, 1] rfl rfl rfl rfl rfl (fun hz9 H locs hH => ?_)
        exact x_retiw (φ := fun _ => True) (f := fun u : Int32 × (Nat → Int32) => u.1) (wf := fun u : Int32 × (Nat → Int32) => [(h0, xO 7 [.int v_laws, .ref g0, .ref g1, .int v_inForce, .int v_depth, .int v_miss, .long v_ring, .int v_size, .int v_people, .ref g2, .int v_seed, .int v_taped, .ref g3, .int v_from, .int v_to, .int v_token, .int v_value, .ref g4, .ref g5, .ref g6, .ref h1, .int v_imaged, .ref g7, .long v_oldRing, .ref g8, .long v_aheadRing, .ref g9]), (h1, xI X 7 u.2)]) hC hr hlk trivial hf hH rfl rfl dX7_day_49
      · have hf := xe c8 hf
        refine lv_iload hx hb dX7_day_31 (lv_at hl 4 rfl) ?_
        refine lv_iconst (v := (0 : Int32)) hx hb dX7_day_33 (by decide) ?_
        refine lv_iload_n hx hb dX7_day_34 rfl (lv_at hl 3 rfl) ?_
        refine lv_iconst (v := (1 : Int32)) hx hb dX7_day_35 (by decide) ?_
        refine lv_isub hx hb dX7_day_36 ?_
        obtain ⟨u10, hf10, hf⟩ := xb hf
        refine x_ran (x_runS (rest := []) (As := [.int p4, .int (0 : Int32), .int (p3 - (1 : Int32))]) hC mw_140 md_X7_within (c_X7_within (X := X) hf10) hH [] rfl (by decide) hl.1 rfl rfl (Nat.le_of_ble_eq_true rfl) dX7_day_37 ⟨Nat.le_of_ble_eq_true rfl, Nat.le_of_ble_eq_true rfl⟩ ⟨rfl, rfl⟩ ⟨Nat.le_refl _, Nat.le_refl _⟩) rfl (fun hz10 => ?_)
        refine lv_if_ne (tgt := 50) hx hb dX7_day_40 (by decide) (fun c11 => ?_) (fun c11 => ?_)
        · have hf := xe c11 hf
          refine lv_iload_n hx hb dX7_day_50 rfl (lv_at hl 2 rfl) ?_
          refine lv_istore (lv' := [(5, .int p2), (0, .ref h0), (1, .int p1), (2, .int p2), (3, .int p3), (4, .int p4)]) hx hb dX7_day_51 hl (by decide) rfl (fun ls hl => ?_)
          exact L53 xN p2 hf _ _ hH ls (lv_sub hl [2, 4, 5, 0] rfl)
        · have hf := xt c11 hf
          refine lv_aload_n hx hb dX7_day_43 rfl (lv_at hl 0 rfl) ?_
          refine lv_bipush (v := (-2 : Int32)) hx hb dX7_day_44 (by decide) ?_
          obtain ⟨u15, hf15, hf⟩ := xb hf
          refine x_ranw (ws' := [(h0, xO 7 [.int v_laws, .ref g0, .ref g1, .int v_inForce, .int v_depth, .int v_miss, .long v_ring, .int v_size, .int v_people, .ref g2, .int v_seed, .int v_taped, .ref g3, .int v_from, .int v_to, .int v_token, .int v_value, .ref g4, .ref g5, .ref g6, .ref h1, .int v_imaged, .ref g7, .long v_oldRing, .ref g8, .long v_aheadRing, .ref g9]), (h1, xI X 7 u15.2)]) (x_runV (q0 := 0) (rest := []) (As := [.int (-2 : Int32)]) hC mw_143 md_X7_no (c_X7_no (X := X) hf15) hH [0, 1] rfl (by decide) rfl rfl rfl hl.1 rfl rfl (Nat.le_of_ble_eq_true rfl) dX7_day_46 ⟨Nat.le_of_ble_eq_true rfl, Nat.le_of_ble_eq_true rfl⟩ ⟨rfl, rfl⟩ ⟨Nat.le_refl _, Nat.le_refl _⟩) hH [0, 1] rfl rfl rfl rfl rfl (fun hz15 H locs hH => ?_)
          exact x_retiw (φ := fun _ => True) (f := fun u : Int32 × (Nat → Int32) => u.1) (wf := fun u : Int32 × (Nat → Int32) => [(h0, xO 7 [.int v_laws, .ref g0, .ref g1, .int v_inForce, .int v_depth, .int v_miss, .long v_ring, .int v_size, .int v_people, .ref g2, .int v_seed, .int v_taped, .ref g3, .int v_from, .int v_to, .int v_token, .int v_value, .ref g4, .ref g5, .ref g6, .ref h1, .int v_imaged, .ref g7, .long v_oldRing, .ref g8, .long v_aheadRing, .ref g9]), (h1, xI X 7 u.2)]) hC hr hlk trivial hf hH rfl rfl dX7_day_49
def f_X7_ageOf_L4 (v_people : Int32) (v_ages : (Nat → Int32)) (p1 : Int32) (s4 : Int32 × Int32) : Option ((Int32) ⊕ (Int32 × Int32)) :=
  if v_people ≤ s4.2 then
    some (.inl s4.1)
  else
  (f_X7_has (Int32.toInt64 p1) s4.2).bind fun u2 =>
  if u2 = 0 then
    some (.inr (s4.1, s4.2 + (1 : Int32)))
  else
  if xout s4.2 10 then none else
  some (.inr (s4.1 + (v_ages (xat s4.2)), s4.2 + (1 : Int32)))
def f_X7_ageOf (v_people : Int32) (v_ages : (Nat → Int32)) (p1 : Int32) : Option (Int32) :=
  xloop (f_X7_ageOf_L4 v_people v_ages p1) xN ((0 : Int32), (0 : Int32))
set_option maxHeartbeats 4000000 in
set_option maxRecDepth 100000 in
theorem c_X7_ageOf {l : Launch} {X : xG} {h0 h1 g0 g1 g2 g3 g4 g5 g6 g7 g8 g9 : Nat} {v_laws : Int32} {v_inForce : Int32} {v_depth : Int32} {v_miss : Int32} {v_ring : Int64} {v_size : Int32} {v_people : Int32} {v_seed : Int32} {v_taped : Int32} {v_from : Int32} {v_to : Int32} {v_token : Int32} {v_value : Int32} {v_imaged : Int32} {v_oldRing : Int64} {v_aheadRing : Int64} {v_ages : (Nat → Int32)} {p1 : Int32} {u : Int32} (hf : f_X7_ageOf v_people v_ages p1 = some u) : Met l yX7_ageOf (xw yX7_ageOf cX7_ageOf 4 (some .int)) (xrm 1 22) (xPc [.ref h0, .int p1] X [(h0, xO 7 [.int v_laws, .ref g0, .ref g1, .int v_inForce, .int v_depth, .int v_miss, .long v_ring, .int v_size, .int v_people, .ref h1, .int v_seed, .int v_taped, .ref g2, .int v_from, .int v_to, .int v_token, .int v_value, .ref g3, .ref g4, .ref g5, .ref g6, .int v_imaged, .ref g7, .long v_oldRing, .ref g8, .long v_aheadRing, .ref g9]), (h1, xI X 10 v_ages)]) (xQ True (.returned (some (.int u)))) 0 0 xNo := by
  refine xMet (n := 1) md_X7_ageOf.1 (Nat.le_of_ble_eq_true rfl) ?_
  intro p e s m args below meth c ls A hC hr hlk hH hl
  have hl : lv_has ls 4 [(0, .ref h0), (1, .int p1)] := hl
  have hx := hC.1
  have hb := hC.2.1
  have L4 : ∀ (n : Nat) (s4 : Int32 × Int32), xloop (f_X7_ageOf_L4 v_people v_ages p1) n s4 = some u → ∀ (ls : Array Slot), lv_has ls 4 [(0, .ref h0), (1, .int p1), (2, .int s4.1), (3, .int s4.2)] → W p l e (xrm 1 22) s m args below meth c s.heap [] 0 0 (MQ below (xQ True (.returned (some (.int u)))) args s 0 0 xNo) (F0 m 4 ls []) := by
    intro  n
    induction n with
    | zero => intro s4 hf; exact xloop_0 hf
    | succ n ih4 =>
      intro s4 hf ls hl
      obtain ⟨o4, hf, ho4⟩ := xloop_s hf
      refine lv_iload_n hx hb dX7_ageOf_4 rfl (lv_at hl 3 rfl) ?_
      refine lv_aload_n hx hb dX7_ageOf_5 rfl (lv_at hl 0 rfl) ?_
      refine x_get hC fd_RX7_59 hH.1 0 rfl rfl dX7_ageOf_6 ?_
      refine lv_icmp_ge (tgt := 36) hx hb dX7_ageOf_9 (by decide) (fun c1 => ?_) (fun c1 => ?_)
      · have hf := xt c1 hf
        refine lv_iload_n hx hb dX7_ageOf_36 rfl (lv_at hl 2 rfl) ?_
        have hf := xo_ret hf ho4
        exact x_reti hC hr hlk trivial hf dX7_ageOf_37
      · have hf := xe c1 hf
        refine lv_iload_n hx hb dX7_ageOf_12 rfl (lv_at hl 1 rfl) ?_
        refine lv_i2l hx hb dX7_ageOf_13 rfl ?_
        refine lv_iload_n hx hb dX7_ageOf_14 rfl (lv_at hl 3 rfl) ?_
        obtain ⟨u2, hf2, hf⟩ := xb hf
        refine x_ran (x_runS (rest := []) (As := [.long (Int32.toInt64 p1), .int s4.2]) hC mw_336 md_X7_has (c_X7_has (X := X) hf2) hH [] rfl (by decide) hl.1 rfl rfl (Nat.le_of_ble_eq_true rfl) dX7_ageOf_15 ⟨Nat.le_of_ble_eq_true rfl, Nat.le_of_ble_eq_true rfl⟩ ⟨rfl, rfl⟩ ⟨Nat.le_refl _, Nat.le_refl _⟩) rfl (fun hz2 => ?_)
        refine lv_if_eq (tgt := 30) hx hb dX7_ageOf_18 (by decide) (fun c3 => ?_) (fun c3 => ?_)
        · have hf := xt c3 hf
          refine lv_iinc (v := s4.2 + (1 : Int32)) (lv' := [(3, .int (s4.2 + (1 : Int32))), (0, .ref h0), (1, .int p1), (2, .int s4.1)]) hx hb dX7_ageOf_30 hl (k := 3) rfl rfl (by decide) rfl (fun ls hl => ?_)
          refine lv_goto (tgt := 4) hx hb dX7_ageOf_33 (by decide) ?_
          have hf := xo_go hf ho4
          exact ih4 (s4.1, s4.2 + (1 : Int32)) hf ls (lv_sub hl [1, 2, 3, 0] rfl)
        · have hf := xe c3 hf
          refine lv_iload_n hx hb dX7_ageOf_21 rfl (lv_at hl 2 rfl) ?_
          refine lv_aload_n hx hb dX7_ageOf_22 rfl (lv_at hl 0 rfl) ?_
          refine x_get hC fd_RX7_16 hH.1 0 rfl rfl dX7_ageOf_23 ?_
          refine lv_iload_n hx hb dX7_ageOf_26 rfl (lv_at hl 3 rfl) ?_
          obtain ⟨n4, hf⟩ := xok hf
          refine x_iald hC hH.1 1 rfl n4 dX7_ageOf_27 ?_
          refine lv_iadd hx hb dX7_ageOf_28 ?_
          refine lv_istore_n (lv' := [(2, .int (s4.1 + (v_ages (xat s4.2)))), (0, .ref h0), (1, .int p1), (3, .int s4.2)]) hx hb dX7_ageOf_29 rfl hl (by decide) rfl (fun ls hl => ?_)
          refine lv_iinc (v := s4.2 + (1 : Int32)) (lv' := [(3, .int (s4.2 + (1 : Int32))), (2, .int (s4.1 + (v_ages (xat s4.2)))), (0, .ref h0), (1, .int p1)]) hx hb dX7_ageOf_30 hl (k := 3) rfl rfl (by decide) rfl (fun ls hl => ?_)
          refine lv_goto (tgt := 4) hx hb dX7_ageOf_33 (by decide) ?_
          have hf := xo_go hf ho4
          exact ih4 (s4.1 + (v_ages (xat s4.2)), s4.2 + (1 : Int32)) hf ls (lv_sub hl [2, 3, 1, 0] rfl)
  refine lv_iconst (v := (0 : Int32)) hx hb dX7_ageOf_0 (by decide) ?_
  refine lv_istore_n (lv' := [(2, .int (0 : Int32)), (0, .ref h0), (1, .int p1)]) hx hb dX7_ageOf_1 rfl hl (by decide) rfl (fun ls hl => ?_)
  refine lv_iconst (v := (0 : Int32)) hx hb dX7_ageOf_2 (by decide) ?_
  refine lv_istore_n (lv' := [(3, .int (0 : Int32)), (2, .int (0 : Int32)), (0, .ref h0), (1, .int p1)]) hx hb dX7_ageOf_3 rfl hl (by decide) rfl (fun ls hl => ?_)
  exact L4 xN ((0 : Int32), (0 : Int32)) hf ls (lv_sub hl [2, 3, 1, 0] rfl)
def f_X7_tolls_L35 (v_people : Int32) (v_ages : (Nat → Int32)) (v_refusals : (Nat → Int32)) (p1 : Int32) (p2 : Int32) (s35 : Int32 × Int32 × Int32) : Option ((Int32 × (Nat → Int32)) ⊕ (Int32 × Int32 × Int32)) :=
  if (xshl (1 : Int32) v_people) ≤ s35.2.2 then
    if p2 = 0 then
      some (.inl (s35.1, v_refusals))
    else
    some (.inl (s35.2.1, v_refusals))
  else
  (f_X7_ageOf v_people v_ages s35.2.2).bind fun u8 =>
  if u8 = p1 then
    if s35.2.1 = (-1 : Int32) then
      some (.inr (s35.1 + (1 : Int32), s35.2.2, s35.2.2 + (1 : Int32)))
    else
    (f_J6_bitCount_0f7a4 s35.2.2).bind fun u11 =>
    (f_J6_bitCount_0f7a4 s35.2.1).bind fun u12 =>
    if u12 ≤ u11 then
      some (.inr (s35.1 + (1 : Int32), s35.2.1, s35.2.2 + (1 : Int32)))
    else
    some (.inr (s35.1 + (1 : Int32), s35.2.2, s35.2.2 + (1 : Int32)))
  else
  some (.inr (s35.1, s35.2.1, s35.2.2 + (1 : Int32)))
def f_X7_tolls (v_people : Int32) (v_ages : (Nat → Int32)) (v_refusals : (Nat → Int32)) (p1 : Int32) (p2 : Int32) : Option (Int32 × (Nat → Int32)) :=
  (f_X7_within p1 (0 : Int32) (999 : Int32)).bind fun u1 =>
  if u1 = 0 then
    (f_X7_no v_refusals (-2 : Int32)).bind fun u3 =>
    some (u3.1, u3.2)
  else
  (f_X7_within p2 (0 : Int32) (1 : Int32)).bind fun u4 =>
  if u4 = 0 then
    (f_X7_no v_refusals (-2 : Int32)).bind fun u14 =>
    some (u14.1, u14.2)
  else
  xloop (f_X7_tolls_L35 v_people v_ages v_refusals p1 p2) xN ((0 : Int32), (-1 : Int32), (0 : Int32))
set_option maxHeartbeats 4000000 in
set_option maxRecDepth 100000 in
theorem c_X7_tolls {l : Launch} {X : xG} {h0 h1 h2 g0 g1 g2 g3 g4 g5 g6 g7 g8 : Nat} {v_laws : Int32} {v_inForce : Int32} {v_depth : Int32} {v_miss : Int32} {v_ring : Int64} {v_size : Int32} {v_people : Int32} {v_seed : Int32} {v_taped : Int32} {v_from : Int32} {v_to : Int32} {v_token : Int32} {v_value : Int32} {v_imaged : Int32} {v_oldRing : Int64} {v_aheadRing : Int64} {v_ages : (Nat → Int32)} {v_refusals : (Nat → Int32)} {p1 : Int32} {p2 : Int32} {u : Int32 × (Nat → Int32)} (hf : f_X7_tolls v_people v_ages v_refusals p1 p2 = some u) : Met l yX7_tolls (xw yX7_tolls cX7_tolls 6 (some .int)) (xrm 2 45) (xPc [.ref h0, .int p1, .int p2] X [(h0, xO 7 [.int v_laws, .ref g0, .ref g1, .int v_inForce, .int v_depth, .int v_miss, .long v_ring, .int v_size, .int v_people, .ref h1, .int v_seed, .int v_taped, .ref g2, .int v_from, .int v_to, .int v_token, .int v_value, .ref g3, .ref g4, .ref g5, .ref h2, .int v_imaged, .ref g6, .long v_oldRing, .ref g7, .long v_aheadRing, .ref g8]), (h1, xI X 10 v_ages), (h2, xI X 7 v_refusals)]) (xQw True (.returned (some (.int u.1))) X [(h0, xO 7 [.int v_laws, .ref g0, .ref g1, .int v_inForce, .int v_depth, .int v_miss, .long v_ring, .int v_size, .int v_people, .ref h1, .int v_seed, .int v_taped, .ref g2, .int v_from, .int v_to, .int v_token, .int v_value, .ref g3, .ref g4, .ref g5, .ref h2, .int v_imaged, .ref g6, .long v_oldRing, .ref g7, .long v_aheadRing, .ref g8]), (h1, xI X 10 v_ages), (h2, xI X 7 u.2)] (xAs [(h0, xO 7 [.int v_laws, .ref g0, .ref g1, .int v_inForce, .int v_depth, .int v_miss, .long v_ring, .int v_size, .int v_people, .ref h1, .int v_seed, .int v_taped, .ref g2, .int v_from, .int v_to, .int v_token, .int v_value, .ref g3, .ref g4, .ref g5, .ref h2, .int v_imaged, .ref g6, .long v_oldRing, .ref g7, .long v_aheadRing, .ref g8]), (h1, xI X 10 v_ages), (h2, xI X 7 v_refusals)])) 0 0 (xAs [(h0, xO 7 [.int v_laws, .ref g0, .ref g1, .int v_inForce, .int v_depth, .int v_miss, .long v_ring, .int v_size, .int v_people, .ref h1, .int v_seed, .int v_taped, .ref g2, .int v_from, .int v_to, .int v_token, .int v_value, .ref g3, .ref g4, .ref g5, .ref h2, .int v_imaged, .ref g6, .long v_oldRing, .ref g7, .long v_aheadRing, .ref g8]), (h1, xI X 10 v_ages), (h2, xI X 7 v_refusals)]) := by
  refine xMetw (Qc := fun A => xQw True (.returned (some (.int u.1))) X [(h0, xO 7 [.int v_laws, .ref g0, .ref g1, .int v_inForce, .int v_depth, .int v_miss, .long v_ring, .int v_size, .int v_people, .ref h1, .int v_seed, .int v_taped, .ref g2, .int v_from, .int v_to, .int v_token, .int v_value, .ref g3, .ref g4, .ref g5, .ref h2, .int v_imaged, .ref g6, .long v_oldRing, .ref g7, .long v_aheadRing, .ref g8]), (h1, xI X 10 v_ages), (h2, xI X 7 u.2)] A) (n := 2) md_X7_tolls.1 (Nat.le_of_ble_eq_true rfl) ?_
  intro p e s m args below meth c ls A hC hr hlk hH hl
  have hl : lv_has ls 6 [(0, .ref h0), (1, .int p1), (2, .int p2)] := hl
  have hx := hC.1
  have hb := hC.2.1
  have L35 : ∀ (n : Nat) (s35 : Int32 × Int32 × Int32), xloop (f_X7_tolls_L35 v_people v_ages v_refusals p1 p2) n s35 = some u → ∀ (H : Heap) (locs : List Loc), xH X A [(h0, xO 7 [.int v_laws, .ref g0, .ref g1, .int v_inForce, .int v_depth, .int v_miss, .long v_ring, .int v_size, .int v_people, .ref h1, .int v_seed, .int v_taped, .ref g2, .int v_from, .int v_to, .int v_token, .int v_value, .ref g3, .ref g4, .ref g5, .ref h2, .int v_imaged, .ref g6, .long v_oldRing, .ref g7, .long v_aheadRing, .ref g8]), (h1, xI X 10 v_ages), (h2, xI X 7 v_refusals)] s.heap H locs → ∀ (ls : Array Slot), lv_has ls 6 [(0, .ref h0), (1, .int p1), (2, .int p2), (3, .int s35.1), (4, .int s35.2.1), (5, .int s35.2.2)] → W p l e (xrm 2 45) s m args below meth c H locs 0 0 (MQ below (xQw True (.returned (some (.int u.1))) X [(h0, xO 7 [.int v_laws, .ref g0, .ref g1, .int v_inForce, .int v_depth, .int v_miss, .long v_ring, .int v_size, .int v_people, .ref h1, .int v_seed, .int v_taped, .ref g2, .int v_from, .int v_to, .int v_token, .int v_value, .ref g3, .ref g4, .ref g5, .ref h2, .int v_imaged, .ref g6, .long v_oldRing, .ref g7, .long v_aheadRing, .ref g8]), (h1, xI X 10 v_ages), (h2, xI X 7 u.2)] A) args s 0 0 A) (F0 m 35 ls []) := by
    intro  n
    induction n with
    | zero => intro s35 hf; exact xloop_0 hf
    | succ n ih35 =>
      intro s35 hf H locs hH ls hl
      obtain ⟨o35, hf, ho35⟩ := xloop_s hf
      refine lv_iload hx hb dX7_tolls_35 (lv_at hl 5 rfl) ?_
      refine lv_iconst (v := (1 : Int32)) hx hb dX7_tolls_37 (by decide) ?_
      refine lv_aload_n hx hb dX7_tolls_38 rfl (lv_at hl 0 rfl) ?_
      refine x_get hC fd_RX7_59 hH.1 0 rfl rfl dX7_tolls_39 ?_
      refine x_ishl hx hb dX7_tolls_42 ?_
      refine lv_icmp_ge (tgt := 91) hx hb dX7_tolls_43 (by decide) (fun c6 => ?_) (fun c6 => ?_)
      · have hf := xt c6 hf
        refine lv_iload_n hx hb dX7_tolls_91 rfl (lv_at hl 2 rfl) ?_
        refine lv_if_ne (tgt := 99) hx hb dX7_tolls_92 (by decide) (fun c7 => ?_) (fun c7 => ?_)
        · have hf := xe c7 hf
          refine lv_iload hx hb dX7_tolls_99 (lv_at hl 4 rfl) ?_
          have hf := xo_ret hf ho35
          exact x_retiw (φ := fun _ => True) (f := fun u : Int32 × (Nat → Int32) => u.1) (wf := fun u : Int32 × (Nat → Int32) => [(h0, xO 7 [.int v_laws, .ref g0, .ref g1, .int v_inForce, .int v_depth, .int v_miss, .long v_ring, .int v_size, .int v_people, .ref h1, .int v_seed, .int v_taped, .ref g2, .int v_from, .int v_to, .int v_token, .int v_value, .ref g3, .ref g4, .ref g5, .ref h2, .int v_imaged, .ref g6, .long v_oldRing, .ref g7, .long v_aheadRing, .ref g8]), (h1, xI X 10 v_ages), (h2, xI X 7 u.2)]) hC hr hlk trivial hf hH rfl rfl dX7_tolls_101
        · have hf := xt c7 hf
          refine lv_iload_n hx hb dX7_tolls_95 rfl (lv_at hl 3 rfl) ?_
          refine lv_goto (tgt := 101) hx hb dX7_tolls_96 (by decide) ?_
          have hf := xo_ret hf ho35
          exact x_retiw (φ := fun _ => True) (f := fun u : Int32 × (Nat → Int32) => u.1) (wf := fun u : Int32 × (Nat → Int32) => [(h0, xO 7 [.int v_laws, .ref g0, .ref g1, .int v_inForce, .int v_depth, .int v_miss, .long v_ring, .int v_size, .int v_people, .ref h1, .int v_seed, .int v_taped, .ref g2, .int v_from, .int v_to, .int v_token, .int v_value, .ref g3, .ref g4, .ref g5, .ref h2, .int v_imaged, .ref g6, .long v_oldRing, .ref g7, .long v_aheadRing, .ref g8]), (h1, xI X 10 v_ages), (h2, xI X 7 u.2)]) hC hr hlk trivial hf hH rfl rfl dX7_tolls_101
      · have hf := xe c6 hf
        refine lv_aload_n hx hb dX7_tolls_46 rfl (lv_at hl 0 rfl) ?_
        refine lv_iload hx hb dX7_tolls_47 (lv_at hl 5 rfl) ?_
        obtain ⟨u8, hf8, hf⟩ := xb hf
        refine x_ran (x_runV (q0 := 0) (rest := []) (As := [.int s35.2.2]) hC mw_1145 md_X7_ageOf (c_X7_ageOf (X := X) hf8) hH [0, 1] rfl (by decide) rfl rfl rfl hl.1 rfl rfl (Nat.le_of_ble_eq_true rfl) dX7_tolls_49 ⟨Nat.le_of_ble_eq_true rfl, Nat.le_of_ble_eq_true rfl⟩ ⟨rfl, rfl⟩ ⟨Nat.le_refl _, Nat.le_refl _⟩) rfl (fun hz8 => ?_)
        refine lv_iload_n hx hb dX7_tolls_52 rfl (lv_at hl 1 rfl) ?_
        refine lv_icmp_eq (tgt := 59) hx hb dX7_tolls_53 (by decide) (fun c9 => ?_) (fun c9 => ?_)
        · have hf := xt c9 hf
          refine lv_iinc (v := s35.1 + (1 : Int32)) (lv' := [(3, .int (s35.1 + (1 : Int32))), (0, .ref h0), (1, .int p1), (2, .int p2), (4, .int s35.2.1), (5, .int s35.2.2)]) hx hb dX7_tolls_59 hl (k := 3) rfl rfl (by decide) rfl (fun ls hl => ?_)
          refine lv_iload hx hb dX7_tolls_62 (lv_at hl 4 rfl) ?_
          refine lv_iconst (v := (-1 : Int32)) hx hb dX7_tolls_64 (by decide) ?_
          refine lv_icmp_eq (tgt := 81) hx hb dX7_tolls_65 (by decide) (fun c10 => ?_) (fun c10 => ?_)
          · have hf := xt c10 hf
            refine lv_iload hx hb dX7_tolls_81 (lv_at hl 5 rfl) ?_
            refine lv_istore (lv' := [(4, .int s35.2.2), (3, .int (s35.1 + (1 : Int32))), (0, .ref h0), (1, .int p1), (2, .int p2), (5, .int s35.2.2)]) hx hb dX7_tolls_83 hl (by decide) rfl (fun ls hl => ?_)
            refine lv_iinc (v := s35.2.2 + (1 : Int32)) (lv' := [(5, .int (s35.2.2 + (1 : Int32))), (4, .int s35.2.2), (3, .int (s35.1 + (1 : Int32))), (0, .ref h0), (1, .int p1), (2, .int p2)]) hx hb dX7_tolls_85 hl (k := 5) rfl rfl (by decide) rfl (fun ls hl => ?_)
            refine lv_goto (tgt := 35) hx hb dX7_tolls_88 (by decide) ?_
            have hf := xo_go hf ho35
            exact ih35 (s35.1 + (1 : Int32), s35.2.2, s35.2.2 + (1 : Int32)) hf _ _ hH ls (lv_sub hl [3, 4, 5, 2, 1, 0] rfl)
          · have hf := xe c10 hf
            refine lv_iload hx hb dX7_tolls_68 (lv_at hl 5 rfl) ?_
            obtain ⟨u11, hf11, hf⟩ := xb hf
            refine x_ran (x_runS (rest := []) (As := [.int s35.2.2]) hC mw_971 md_J6_bitCount_0f7a4 (c_J6_bitCount_0f7a4 (X := X) hf11) hH [] rfl (by decide) hl.1 rfl rfl (Nat.le_of_ble_eq_true rfl) dX7_tolls_70 ⟨Nat.le_of_ble_eq_true rfl, Nat.le_of_ble_eq_true rfl⟩ ⟨rfl, rfl⟩ ⟨Nat.le_refl _, Nat.le_refl _⟩) rfl (fun hz11 => ?_)
            refine lv_iload hx hb dX7_tolls_73 (lv_at hl 4 rfl) ?_
            obtain ⟨u12, hf12, hf⟩ := xb hf
            refine x_ran (x_runS (rest := [.int u11]) (As := [.int s35.2.1]) hC mw_971 md_J6_bitCount_0f7a4 (c_J6_bitCount_0f7a4 (X := X) hf12) hH [] rfl (by decide) hl.1 rfl rfl (Nat.le_of_ble_eq_true rfl) dX7_tolls_75 ⟨Nat.le_of_ble_eq_true rfl, Nat.le_of_ble_eq_true rfl⟩ ⟨rfl, rfl⟩ ⟨Nat.le_refl _, Nat.le_refl _⟩) rfl (fun hz12 => ?_)
            refine lv_icmp_ge (tgt := 85) hx hb dX7_tolls_78 (by decide) (fun c13 => ?_) (fun c13 => ?_)
            · have hf := xt c13 hf
              refine lv_iinc (v := s35.2.2 + (1 : Int32)) (lv' := [(5, .int (s35.2.2 + (1 : Int32))), (3, .int (s35.1 + (1 : Int32))), (0, .ref h0), (1, .int p1), (2, .int p2), (4, .int s35.2.1)]) hx hb dX7_tolls_85 hl (k := 5) rfl rfl (by decide) rfl (fun ls hl => ?_)
              refine lv_goto (tgt := 35) hx hb dX7_tolls_88 (by decide) ?_
              have hf := xo_go hf ho35
              exact ih35 (s35.1 + (1 : Int32), s35.2.1, s35.2.2 + (1 : Int32)) hf _ _ hH ls (lv_sub hl [2, 3, 4, 1, 5, 0] rfl)
            · have hf := xe c13 hf
              refine lv_iload hx hb dX7_tolls_81 (lv_at hl 5 rfl) ?_
              refine lv_istore (lv' := [(4, .int s35.2.2), (3, .int (s35.1 + (1 : Int32))), (0, .ref h0), (1, .int p1), (2, .int p2), (5, .int s35.2.2)]) hx hb dX7_tolls_83 hl (by decide) rfl (fun ls hl => ?_)
              refine lv_iinc (v := s35.2.2 + (1 : Int32)) (lv' := [(5, .int (s35.2.2 + (1 : Int32))), (4, .int s35.2.2), (3, .int (s35.1 + (1 : Int32))), (0, .ref h0), (1, .int p1), (2, .int p2)]) hx hb dX7_tolls_85 hl (k := 5) rfl rfl (by decide) rfl (fun ls hl => ?_)
              refine lv_goto (tgt := 35) hx hb dX7_tolls_88 (by decide) ?_
              have hf := xo_go hf ho35
              exact ih35 (s35.1 + (1 : Int32), s35.2.2, s35.2.2 + (1 : Int32)) hf _ _ hH ls (lv_sub hl [3, 4, 5, 2, 1, 0] rfl)
        · have hf := xe c9 hf
          refine lv_goto (tgt := 85) hx hb dX7_tolls_56 (by decide) ?_
          refine lv_iinc (v := s35.2.2 + (1 : Int32)) (lv' := [(5, .int (s35.2.2 + (1 : Int32))), (0, .ref h0), (1, .int p1), (2, .int p2), (3, .int s35.1), (4, .int s35.2.1)]) hx hb dX7_tolls_85 hl (k := 5) rfl rfl (by decide) rfl (fun ls hl => ?_)
          refine lv_goto (tgt := 35) hx hb dX7_tolls_88 (by decide) ?_
          have hf := xo_go hf ho35
          exact ih35 (s35.1, s35.2.1, s35.2.2 + (1 : Int32)) hf _ _ hH ls (lv_sub hl [1, 2, 3, 4, 5, 0] rfl)
  refine lv_iload_n hx hb dX7_tolls_0 rfl (lv_at hl 1 rfl) ?_
  refine lv_iconst (v := (0 : Int32)) hx hb dX7_tolls_1 (by decide) ?_
  refine lv_sipush (v := (999 : Int32)) hx hb dX7_tolls_2 (by decide) ?_
  obtain ⟨u1, hf1, hf⟩ := xb hf
  refine x_ran (x_runS (rest := []) (As := [.int p1, .int (0 : Int32), .int (999 : Int32)]) hC mw_140 md_X7_within (c_X7_within (X := X) hf1) hH [] rfl (by decide) hl.1 rfl rfl (Nat.le_of_ble_eq_true rfl) dX7_tolls_5 ⟨Nat.le_of_ble_eq_true rfl, Nat.le_of_ble_eq_true rfl⟩ ⟨rfl, rfl⟩ ⟨Nat.le_refl _, Nat.le_refl _⟩) rfl (fun hz1 => ?_)
  refine lv_if_eq (tgt := 20) hx hb dX7_tolls_8 (by decide) (fun c2 => ?_) (fun c2 => ?_)
  · have hf := xt c2 hf
    refine lv_aload_n hx hb dX7_tolls_20 rfl (lv_at hl 0 rfl) ?_
    refine lv_bipush (v := (-2 : Int32)) hx hb dX7_tolls_21 (by decide) ?_
    obtain ⟨u3, hf3, hf⟩ := xb hf
    refine x_ranw (ws' := [(h0, xO 7 [.int v_laws, .ref g0, .ref g1, .int v_inForce, .int v_depth, .int v_miss, .long v_ring, .int v_size, .int v_people, .ref h1, .int v_seed, .int v_taped, .ref g2, .int v_from, .int v_to, .int v_token, .int v_value, .ref g3, .ref g4, .ref g5, .ref h2, .int v_imaged, .ref g6, .long v_oldRing, .ref g7, .long v_aheadRing, .ref g8]), (h1, xI X 10 v_ages), (h2, xI X 7 u3.2)]) (x_runV (q0 := 0) (rest := []) (As := [.int (-2 : Int32)]) hC mw_143 md_X7_no (c_X7_no (X := X) hf3) hH [0, 2] rfl (by decide) rfl rfl rfl hl.1 rfl rfl (Nat.le_of_ble_eq_true rfl) dX7_tolls_23 ⟨Nat.le_of_ble_eq_true rfl, Nat.le_of_ble_eq_true rfl⟩ ⟨rfl, rfl⟩ ⟨Nat.le_refl _, Nat.le_refl _⟩) hH [0, 2] rfl rfl rfl rfl rfl (fun hz3 H locs hH => ?_)
    exact x_retiw (φ := fun _ => True) (f := fun u : Int32 × (Nat → Int32) => u.1) (wf := fun u : Int32 × (Nat → Int32) => [(h0, xO 7 [.int v_laws, .ref g0, .ref g1, .int v_inForce, .int v_depth, .int v_miss, .long v_ring, .int v_size, .int v_people, .ref h1, .int v_seed, .int v_taped, .ref g2, .int v_from, .int v_to, .int v_token, .int v_value, .ref g3, .ref g4, .ref g5, .ref h2, .int v_imaged, .ref g6, .long v_oldRing, .ref g7, .long v_aheadRing, .ref g8]), (h1, xI X 10 v_ages), (h2, xI X 7 u.2)]) hC hr hlk trivial hf hH rfl rfl dX7_tolls_26
  · have hf := xe c2 hf
    refine lv_iload_n hx hb dX7_tolls_11 rfl (lv_at hl 2 rfl) ?_
    refine lv_iconst (v := (0 : Int32)) hx hb dX7_tolls_12 (by decide) ?_
    refine lv_iconst (v := (1 : Int32)) hx hb dX7_tolls_13 (by decide) ?_
    obtain ⟨u4, hf4, hf⟩ := xb hf
    refine x_ran (x_runS (rest := []) (As := [.int p2, .int (0 : Int32), .int (1 : Int32)]) hC mw_140 md_X7_within (c_X7_within (X := X) hf4) hH [] rfl (by decide) hl.1 rfl rfl (Nat.le_of_ble_eq_true rfl) dX7_tolls_14 ⟨Nat.le_of_ble_eq_true rfl, Nat.le_of_ble_eq_true rfl⟩ ⟨rfl, rfl⟩ ⟨Nat.le_refl _, Nat.le_refl _⟩) rfl (fun hz4 => ?_)
    refine lv_if_ne (tgt := 27) hx hb dX7_tolls_17 (by decide) (fun c5 => ?_) (fun c5 => ?_)
    · have hf := xe c5 hf
      refine lv_iconst (v := (0 : Int32)) hx hb dX7_tolls_27 (by decide) ?_
      refine lv_istore_n (lv' := [(3, .int (0 : Int32)), (0, .ref h0), (1, .int p1), (2, .int p2)]) hx hb dX7_tolls_28 rfl hl (by decide) rfl (fun ls hl => ?_)
      refine lv_iconst (v := (-1 : Int32)) hx hb dX7_tolls_29 (by decide) ?_
      refine lv_istore (lv' := [(4, .int (-1 : Int32)), (3, .int (0 : Int32)), (0, .ref h0), (1, .int p1), (2, .int p2)]) hx hb dX7_tolls_30 hl (by decide) rfl (fun ls hl => ?_)
      refine lv_iconst (v := (0 : Int32)) hx hb dX7_tolls_32 (by decide) ?_
      refine lv_istore (lv' := [(5, .int (0 : Int32)), (4, .int (-1 : Int32)), (3, .int (0 : Int32)), (0, .ref h0), (1, .int p1), (2, .int p2)]) hx hb dX7_tolls_33 hl (by decide) rfl (fun ls hl => ?_)
      exact L35 xN ((0 : Int32), (-1 : Int32), (0 : Int32)) hf _ _ hH ls (lv_sub hl [3, 4, 5, 2, 1, 0] rfl)
    · have hf := xt c5 hf
      refine lv_aload_n hx hb dX7_tolls_20 rfl (lv_at hl 0 rfl) ?_
      refine lv_bipush (v := (-2 : Int32)) hx hb dX7_tolls_21 (by decide) ?_
      obtain ⟨u14, hf14, hf⟩ := xb hf
      refine x_ranw (ws' := [(h0, xO 7 [.int v_laws, .ref g0, .ref g1, .int v_inForce, .int v_depth, .int v_miss, .long v_ring, .int v_size, .int v_people, .ref h1, .int v_seed, .int v_taped, .ref g2, .int v_from, .int v_to, .int v_token, .int v_value, .ref g3, .ref g4, .ref g5, .ref h2, .int v_imaged, .ref g6, .long v_oldRing, .ref g7, .long v_aheadRing, .ref g8]), (h1, xI X 10 v_ages), (h2, xI X 7 u14.2)]) (x_runV (q0 := 0) (rest := []) (As := [.int (-2 : Int32)]) hC mw_143 md_X7_no (c_X7_no (X := X) hf14) hH [0, 2] rfl (by decide) rfl rfl rfl hl.1 rfl rfl (Nat.le_of_ble_eq_true rfl) dX7_tolls_23 ⟨Nat.le_of_ble_eq_true rfl, Nat.le_of_ble_eq_true rfl⟩ ⟨rfl, rfl⟩ ⟨Nat.le_refl _, Nat.le_refl _⟩) hH [0, 2] rfl rfl rfl rfl rfl (fun hz14 H locs hH => ?_)
      exact x_retiw (φ := fun _ => True) (f := fun u : Int32 × (Nat → Int32) => u.1) (wf := fun u : Int32 × (Nat → Int32) => [(h0, xO 7 [.int v_laws, .ref g0, .ref g1, .int v_inForce, .int v_depth, .int v_miss, .long v_ring, .int v_size, .int v_people, .ref h1, .int v_seed, .int v_taped, .ref g2, .int v_from, .int v_to, .int v_token, .int v_value, .ref g3, .ref g4, .ref g5, .ref h2, .int v_imaged, .ref g6, .long v_oldRing, .ref g7, .long v_aheadRing, .ref g8]), (h1, xI X 10 v_ages), (h2, xI X 7 u.2)]) hC hr hlk trivial hf hH rfl rfl dX7_tolls_26
