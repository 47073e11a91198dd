def f_X7_still (v_ring : Int64) (v_size : Int32) : Option (Int32 × Int64 × Int32) :=
  some (v_size, (0 : Int64), (0 : Int32))
set_option maxHeartbeats 4000000 in
set_option maxRecDepth 100000 in
theorem c_X7_still {l : Launch} {X : xG} {h0 g0 g1 g2 g3 g4 g5 g6 g7 g8 g9 g10 : Nat} {v_laws : Int32} {v_inForce : Int32} {v_depth : Int32} {v_miss : Int32} {v_ring : Int64} {v_size : Int32} {v_people : Int32} {v_seed : Int32} {v_taped : Int32} {v_from : Int32} {v_to : Int32} {v_token : Int32} {v_value : Int32} {v_imaged : Int32} {v_oldRing : Int64} {v_aheadRing : Int64} {u : Int32 × Int64 × Int32} (hf : f_X7_still v_ring v_size = some u) : Met l yX7_still (xw yX7_still cX7_still 2 (some .int)) (xrm 0 0) (xPc [.ref h0] X [(h0, xO 7 [.int v_laws, .ref g0, .ref g1, .int v_inForce, .int v_depth, .int v_miss, .long v_ring, .int v_size, .int v_people, .ref g2, .int v_seed, .int v_taped, .ref g3, .int v_from, .int v_to, .int v_token, .int v_value, .ref g4, .ref g5, .ref g6, .ref g7, .int v_imaged, .ref g8, .long v_oldRing, .ref g9, .long v_aheadRing, .ref g10])]) (xQw True (.returned (some (.int u.1))) X [(h0, xO 7 [.int v_laws, .ref g0, .ref g1, .int v_inForce, .int v_depth, .int v_miss, .long u.2.1, .int u.2.2, .int v_people, .ref g2, .int v_seed, .int v_taped, .ref g3, .int v_from, .int v_to, .int v_token, .int v_value, .ref g4, .ref g5, .ref g6, .ref g7, .int v_imaged, .ref g8, .long v_oldRing, .ref g9, .long v_aheadRing, .ref g10])] (xAs [(h0, xO 7 [.int v_laws, .ref g0, .ref g1, .int v_inForce, .int v_depth, .int v_miss, .long v_ring, .int v_size, .int v_people, .ref g2, .int v_seed, .int v_taped, .ref g3, .int v_from, .int v_to, .int v_token, .int v_value, .ref g4, .ref g5, .ref g6, .ref g7, .int v_imaged, .ref g8, .long v_oldRing, .ref g9, .long v_aheadRing, .ref g10])])) 0 0 (xAs [(h0, xO 7 [.int v_laws, .ref g0, .ref g1, .int v_inForce, .int v_depth, .int v_miss, .long v_ring, .int v_size, .int v_people, .ref g2, .int v_seed, .int v_taped, .ref g3, .int v_from, .int v_to, .int v_token, .int v_value, .ref g4, .ref g5, .ref g6, .ref g7, .int v_imaged, .ref g8, .long v_oldRing, .ref g9, .long v_aheadRing, .ref g10])]) := by
  refine xMetw (Qc := fun A => xQw True (.returned (some (.int u.1))) X [(h0, xO 7 [.int v_laws, .ref g0, .ref g1, .int v_inForce, .int v_depth, .int v_miss, .long u.2.1, .int u.2.2, .int v_people, .ref g2, .int v_seed, .int v_taped, .ref g3, .int v_from, .int v_to, .int v_token, .int v_value, .ref g4, .ref g5, .ref g6, .ref g7, .int v_imaged, .ref g8, .long v_oldRing, .ref g9, .long v_aheadRing, .ref g10])] A) (n := 0) md_X7_still.1 (Nat.le_of_ble_eq_true rfl) ?_
  intro p e s m args below meth c ls A hC hr hlk hH hl
  have hl : lv_has ls 2 [(0, .ref h0)] := hl
  have hx := hC.1
  have hb := hC.2.1
  refine lv_aload_n hx hb dX7_still_0 rfl (lv_at hl 0 rfl) ?_
  refine x_get hC fd_RX7_62 hH.1 0 rfl rfl dX7_still_1 ?_
  refine lv_istore_n (lv' := [(1, .int v_size), (0, .ref h0)]) hx hb dX7_still_4 rfl hl (by decide) rfl (fun ls hl => ?_)
  refine lv_aload_n hx hb dX7_still_5 rfl (lv_at hl 1 rfl) ?_
  refine lv_iconst (v := (0 : Int32)) hx hb dX7_still_6 (by decide) ?_
  refine x_put (ws' := [(h0, xO 7 [.int v_laws, .ref g0, .ref g1, .int v_inForce, .int v_depth, .int v_miss, .long v_ring, .int (0 : Int32), .int v_people, .ref g2, .int v_seed, .int v_taped, .ref g3, .int v_from, .int v_to, .int v_token, .int v_value, .ref g4, .ref g5, .ref g6, .ref g7, .int v_imaged, .ref g8, .long v_oldRing, .ref g9, .long v_aheadRing, .ref g10])]) hC fd_RX7_62 hH 0 rfl (Nat.le_of_ble_eq_true rfl) rfl rfl dX7_still_7 rfl (fun H locs hH => ?_)
  refine lv_aload_n hx hb dX7_still_10 rfl (lv_at hl 1 rfl) ?_
  refine lv_lconst (v := (0 : Int64)) hx hb dX7_still_11 (by decide) ?_
  refine x_put (ws' := [(h0, xO 7 [.int v_laws, .ref g0, .ref g1, .int v_inForce, .int v_depth, .int v_miss, .long (0 : Int64), .int (0 : Int32), .int v_people, .ref g2, .int v_seed, .int v_taped, .ref g3, .int v_from, .int v_to, .int v_token, .int v_value, .ref g4, .ref g5, .ref g6, .ref g7, .int v_imaged, .ref g8, .long v_oldRing, .ref g9, .long v_aheadRing, .ref g10])]) hC fd_RX7_90 hH 0 rfl (Nat.le_of_ble_eq_true rfl) rfl rfl dX7_still_12 rfl (fun H locs hH => ?_)
  refine lv_iload_n hx hb dX7_still_15 rfl (lv_at hl 0 rfl) ?_
  exact x_retiw (φ := fun _ => True) (f := fun u : Int32 × Int64 × Int32 => u.1) (wf := fun u : Int32 × Int64 × Int32 => [(h0, xO 7 [.int v_laws, .ref g0, .ref g1, .int v_inForce, .int v_depth, .int v_miss, .long u.2.1, .int u.2.2, .int v_people, .ref g2, .int v_seed, .int v_taped, .ref g3, .int v_from, .int v_to, .int v_token, .int v_value, .ref g4, .ref g5, .ref g6, .ref g7, .int v_imaged, .ref g8, .long v_oldRing, .ref g9, .long v_aheadRing, .ref g10])]) hC hr hlk trivial hf hH rfl rfl dX7_still_16
def f_X7_seed (v_seed : Int32) (p1 : Int32) : Option (Int32 × Int32) :=
  some (v_seed, p1)
set_option maxHeartbeats 4000000 in
set_option maxRecDepth 100000 in
theorem c_X7_seed {l : Launch} {X : xG} {h0 g0 g1 g2 g3 g4 g5 g6 g7 g8 g9 g10 : Nat} {v_laws : Int32} {v_inForce : Int32} {v_depth : Int32} {v_miss : Int32} {v_ring : Int64} {v_size : Int32} {v_people : Int32} {v_seed : Int32} {v_taped : Int32} {v_from : Int32} {v_to : Int32} {v_token : Int32} {v_value : Int32} {v_imaged : Int32} {v_oldRing : Int64} {v_aheadRing : Int64} {p1 : Int32} {u : Int32 × Int32} (hf : f_X7_seed v_seed p1 = some u) : Met l yX7_seed (xw yX7_seed cX7_seed 3 (some .int)) (xrm 0 0) (xPc [.ref h0, .int p1] X [(h0, xO 7 [.int v_laws, .ref g0, .ref g1, .int v_inForce, .int v_depth, .int v_miss, .long v_ring, .int v_size, .int v_people, .ref g2, .int v_seed, .int v_taped, .ref g3, .int v_from, .int v_to, .int v_token, .int v_value, .ref g4, .ref g5, .ref g6, .ref g7, .int v_imaged, .ref g8, .long v_oldRing, .ref g9, .long v_aheadRing, .ref g10])]) (xQw True (.returned (some (.int u.1))) X [(h0, xO 7 [.int v_laws, .ref g0, .ref g1, .int v_inForce, .int v_depth, .int v_miss, .long v_ring, .int v_size, .int v_people, .ref g2, .int u.2, .int v_taped, .ref g3, .int v_from, .int v_to, .int v_token, .int v_value, .ref g4, .ref g5, .ref g6, .ref g7, .int v_imaged, .ref g8, .long v_oldRing, .ref g9, .long v_aheadRing, .ref g10])] (xAs [(h0, xO 7 [.int v_laws, .ref g0, .ref g1, .int v_inForce, .int v_depth, .int v_miss, .long v_ring, .int v_size, .int v_people, .ref g2, .int v_seed, .int v_taped, .ref g3, .int v_from, .int v_to, .int v_token, .int v_value, .ref g4, .ref g5, .ref g6, .ref g7, .int v_imaged, .ref g8, .long v_oldRing, .ref g9, .long v_aheadRing, .ref g10])])) 0 0 (xAs [(h0, xO 7 [.int v_laws, .ref g0, .ref g1, .int v_inForce, .int v_depth, .int v_miss, .long v_ring, .int v_size, .int v_people, .ref g2, .int v_seed, .int v_taped, .ref g3, .int v_from, .int v_to, .int v_token, .int v_value, .ref g4, .ref g5, .ref g6, .ref g7, .int v_imaged, .ref g8, .long v_oldRing, .ref g9, .long v_aheadRing, .ref g10])]) := by
  refine xMetw (Qc := fun A => xQw True (.returned (some (.int u.1))) X [(h0, xO 7 [.int v_laws, .ref g0, .ref g1, .int v_inForce, .int v_depth, .int v_miss, .long v_ring, .int v_size, .int v_people, .ref g2, .int u.2, .int v_taped, .ref g3, .int v_from, .int v_to, .int v_token, .int v_value, .ref g4, .ref g5, .ref g6, .ref g7, .int v_imaged, .ref g8, .long v_oldRing, .ref g9, .long v_aheadRing, .ref g10])] A) (n := 1) md_X7_seed.1 (Nat.le_of_ble_eq_true rfl) ?_
  intro p e s m args below meth c ls A hC hr hlk hH hl
  have hl : lv_has ls 3 [(0, .ref h0), (1, .int p1)] := hl
  have hx := hC.1
  have hb := hC.2.1
  refine lv_aload_n hx hb dX7_seed_0 rfl (lv_at hl 0 rfl) ?_
  refine x_get hC fd_RX7_49 hH.1 0 rfl rfl dX7_seed_1 ?_
  refine lv_istore_n (lv' := [(2, .int v_seed), (0, .ref h0), (1, .int p1)]) hx hb dX7_seed_4 rfl hl (by decide) rfl (fun ls hl => ?_)
  refine lv_aload_n hx hb dX7_seed_5 rfl (lv_at hl 1 rfl) ?_
  refine lv_iload_n hx hb dX7_seed_6 rfl (lv_at hl 2 rfl) ?_
  refine x_put (ws' := [(h0, xO 7 [.int v_laws, .ref g0, .ref g1, .int v_inForce, .int v_depth, .int v_miss, .long v_ring, .int v_size, .int v_people, .ref g2, .int p1, .int v_taped, .ref g3, .int v_from, .int v_to, .int v_token, .int v_value, .ref g4, .ref g5, .ref g6, .ref g7, .int v_imaged, .ref g8, .long v_oldRing, .ref g9, .long v_aheadRing, .ref g10])]) hC fd_RX7_49 hH 0 rfl (Nat.le_of_ble_eq_true rfl) rfl rfl dX7_seed_7 rfl (fun H locs hH => ?_)
  refine lv_iload_n hx hb dX7_seed_10 rfl (lv_at hl 0 rfl) ?_
  exact x_retiw (φ := fun _ => True) (f := fun u : Int32 × Int32 => u.1) (wf := fun u : Int32 × Int32 => [(h0, xO 7 [.int v_laws, .ref g0, .ref g1, .int v_inForce, .int v_depth, .int v_miss, .long v_ring, .int v_size, .int v_people, .ref g2, .int u.2, .int v_taped, .ref g3, .int v_from, .int v_to, .int v_token, .int v_value, .ref g4, .ref g5, .ref g6, .ref g7, .int v_imaged, .ref g8, .long v_oldRing, .ref g9, .long v_aheadRing, .ref g10])]) hC hr hlk trivial hf hH rfl rfl dX7_seed_11
def f_X7_image (v_laws : Int32) (v_inForce : Int32) (v_depth : Int32) (v_miss : Int32) (v_ring : Int64) (v_size : Int32) (v_people : Int32) (v_seed : Int32) (v_imaged : Int32) (v_oldRing : Int64) (v_ages : (Nat → Int32)) (v_kind : (Nat → Int32)) (v_old : (Nat → Int32)) (v_own : (Nat → Int32)) : Option (Int32 × Int32 × Int64 × (Nat → Int32)) :=
  (f_X7_keep v_laws v_inForce v_depth v_miss v_size v_people v_seed v_ages v_kind v_own v_old).bind fun u1 =>
  some ((1 : Int32), (1 : Int32), v_ring, u1)
set_option maxHeartbeats 4000000 in
set_option maxRecDepth 100000 in
theorem c_X7_image {l : Launch} {X : xG} {h0 h1 h2 h3 h4 g0 g1 g2 g3 g4 g5 g6 : Nat} {v_laws : Int32} {v_inForce : Int32} {v_depth : Int32} {v_miss : Int32} {v_ring : Int64} {v_size : Int32} {v_people : Int32} {v_seed : Int32} {v_taped : Int32} {v_from : Int32} {v_to : Int32} {v_token : Int32} {v_value : Int32} {v_imaged : Int32} {v_oldRing : Int64} {v_aheadRing : Int64} {v_ages : (Nat → Int32)} {v_kind : (Nat → Int32)} {v_old : (Nat → Int32)} {v_own : (Nat → Int32)} {u : Int32 × Int32 × Int64 × (Nat → Int32)} (hf : f_X7_image v_laws v_inForce v_depth v_miss v_ring v_size v_people v_seed v_imaged v_oldRing v_ages v_kind v_old v_own = some u) : Met l yX7_image (xw yX7_image cX7_image 1 (some .int)) (xrm 1 22) (xPc [.ref h0] X [(h0, xO 7 [.int v_laws, .ref h2, .ref h4, .int v_inForce, .int v_depth, .int v_miss, .long v_ring, .int v_size, .int v_people, .ref h1, .int v_seed, .int v_taped, .ref g0, .int v_from, .int v_to, .int v_token, .int v_value, .ref g1, .ref g2, .ref g3, .ref g4, .int v_imaged, .ref h3, .long v_oldRing, .ref g5, .long v_aheadRing, .ref g6]), (h1, xI X 10 v_ages), (h2, xI X 6 v_kind), (h3, xI X 29 v_old), (h4, xI X 6 v_own)]) (xQw True (.returned (some (.int u.1))) X [(h0, xO 7 [.int v_laws, .ref h2, .ref h4, .int v_inForce, .int v_depth, .int v_miss, .long v_ring, .int v_size, .int v_people, .ref h1, .int v_seed, .int v_taped, .ref g0, .int v_from, .int v_to, .int v_token, .int v_value, .ref g1, .ref g2, .ref g3, .ref g4, .int u.2.1, .ref h3, .long u.2.2.1, .ref g5, .long v_aheadRing, .ref g6]), (h1, xI X 10 v_ages), (h2, xI X 6 v_kind), (h3, xI X 29 u.2.2.2), (h4, xI X 6 v_own)] (xAs [(h0, xO 7 [.int v_laws, .ref h2, .ref h4, .int v_inForce, .int v_depth, .int v_miss, .long v_ring, .int v_size, .int v_people, .ref h1, .int v_seed, .int v_taped, .ref g0, .int v_from, .int v_to, .int v_token, .int v_value, .ref g1, .ref g2, .ref g3, .ref g4, .int v_imaged, .ref h3, .long v_oldRing, .ref g5, .long v_aheadRing, .ref g6]), (h1, xI X 10 v_ages), (h2, xI X 6 v_kind), (h3, xI X 29 v_old), (h4, xI X 6 v_own)])) 0 0 (xAs [(h0, xO 7 [.int v_laws, .ref h2, .ref h4, .int v_inForce, .int v_depth, .int v_miss, .long v_ring, .int v_size, .int v_people, .ref h1, .int v_seed, .int v_taped, .ref g0, .int v_from, .int v_to, .int v_token, .int v_value, .ref g1, .ref g2, .ref g3, .ref g4, .int v_imaged, .ref h3, .long v_oldRing, .ref g5, .long v_aheadRing, .ref g6]), (h1, xI X 10 v_ages), (h2, xI X 6 v_kind), (h3, xI X 29 v_old), (h4, xI X 6 v_own)]) := by
  refine xMetw (Qc := fun A => xQw True (.returned (some (.int u.1))) X [(h0, xO 7 [.int v_laws, .ref h2, .ref h4, .int v_inForce, .int v_depth, .int v_miss, .long v_ring, .int v_size, .int v_people, .ref h1, .int v_seed, .int v_taped, .ref g0, .int v_from, .int v_to, .int v_token, .int v_value, .ref g1, .ref g2, .ref g3, .ref g4, .int u.2.1, .ref h3, .long u.2.2.1, .ref g5, .long v_aheadRing, .ref g6]), (h1, xI X 10 v_ages), (h2, xI X 6 v_kind), (h3, xI X 29 u.2.2.2), (h4, xI X 6 v_own)] A) (n := 0) md_X7_image.1 (Nat.le_of_ble_eq_true rfl) ?_
  intro p e s m args below meth c ls A hC hr hlk hH hl
  have hl : lv_has ls 1 [(0, .ref h0)] := hl
  have hx := hC.1
  have hb := hC.2.1
  refine lv_aload_n hx hb dX7_image_0 rfl (lv_at hl 0 rfl) ?_
  refine lv_iconst (v := (1 : Int32)) hx hb dX7_image_1 (by decide) ?_
  refine x_put (ws' := [(h0, xO 7 [.int v_laws, .ref h2, .ref h4, .int v_inForce, .int v_depth, .int v_miss, .long v_ring, .int v_size, .int v_people, .ref h1, .int v_seed, .int v_taped, .ref g0, .int v_from, .int v_to, .int v_token, .int v_value, .ref g1, .ref g2, .ref g3, .ref g4, .int (1 : Int32), .ref h3, .long v_oldRing, .ref g5, .long v_aheadRing, .ref g6]), (h1, xI X 10 v_ages), (h2, xI X 6 v_kind), (h3, xI X 29 v_old), (h4, xI X 6 v_own)]) hC fd_RX7_315 hH 0 rfl (Nat.le_of_ble_eq_true rfl) (by decide) rfl dX7_image_2 rfl (fun H locs hH => ?_)
  refine lv_aload_n hx hb dX7_image_5 rfl (lv_at hl 0 rfl) ?_
  refine lv_aload_n hx hb dX7_image_6 rfl (lv_at hl 0 rfl) ?_
  refine x_get hC fd_RX7_35 hH.1 0 rfl rfl dX7_image_7 ?_
  obtain ⟨u1, hf1, hf⟩ := xb hf
  refine x_ranw (ws' := [(h0, xO 7 [.int v_laws, .ref h2, .ref h4, .int v_inForce, .int v_depth, .int v_miss, .long v_ring, .int v_size, .int v_people, .ref h1, .int v_seed, .int v_taped, .ref g0, .int v_from, .int v_to, .int v_token, .int v_value, .ref g1, .ref g2, .ref g3, .ref g4, .int (1 : Int32), .ref h3, .long v_oldRing, .ref g5, .long v_aheadRing, .ref g6]), (h1, xI X 10 v_ages), (h2, xI X 6 v_kind), (h3, xI X 29 u1), (h4, xI X 6 v_own)]) (x_runV (q0 := 0) (rest := []) (As := [.ref h3]) hC mw_603 md_X7_keep (c_X7_keep (X := X) hf1) hH [0, 1, 2, 4, 3] rfl (by decide) rfl rfl rfl hl.1 rfl rfl (Nat.le_of_ble_eq_true rfl) dX7_image_10 ⟨Nat.le_of_ble_eq_true rfl, Nat.le_of_ble_eq_true rfl⟩ ⟨rfl, rfl⟩ ⟨Nat.le_refl _, Nat.le_refl _⟩) hH [0, 1, 2, 4, 3] rfl rfl rfl rfl rfl (fun hz1 H locs hH => ?_)
  refine lv_aload_n hx hb dX7_image_13 rfl (lv_at hl 0 rfl) ?_
  refine lv_aload_n hx hb dX7_image_14 rfl (lv_at hl 0 rfl) ?_
  refine x_get hC fd_RX7_90 hH.1 0 rfl rfl dX7_image_15 ?_
  refine x_put (ws' := [(h0, xO 7 [.int v_laws, .ref h2, .ref h4, .int v_inForce, .int v_depth, .int v_miss, .long v_ring, .int v_size, .int v_people, .ref h1, .int v_seed, .int v_taped, .ref g0, .int v_from, .int v_to, .int v_token, .int v_value, .ref g1, .ref g2, .ref g3, .ref g4, .int (1 : Int32), .ref h3, .long v_ring, .ref g5, .long v_aheadRing, .ref g6]), (h1, xI X 10 v_ages), (h2, xI X 6 v_kind), (h3, xI X 29 u1), (h4, xI X 6 v_own)]) hC fd_RX7_319 hH 0 rfl (Nat.le_of_ble_eq_true rfl) rfl rfl dX7_image_18 rfl (fun H locs hH => ?_)
  refine lv_iconst (v := (1 : Int32)) hx hb dX7_image_21 (by decide) ?_
  exact x_retiw (φ := fun _ => True) (f := fun u : Int32 × Int32 × Int64 × (Nat → Int32) => u.1) (wf := fun u : Int32 × Int32 × Int64 × (Nat → Int32) => [(h0, xO 7 [.int v_laws, .ref h2, .ref h4, .int v_inForce, .int v_depth, .int v_miss, .long v_ring, .int v_size, .int v_people, .ref h1, .int v_seed, .int v_taped, .ref g0, .int v_from, .int v_to, .int v_token, .int v_value, .ref g1, .ref g2, .ref g3, .ref g4, .int u.2.1, .ref h3, .long u.2.2.1, .ref g5, .long v_aheadRing, .ref g6]), (h1, xI X 10 v_ages), (h2, xI X 6 v_kind), (h3, xI X 29 u.2.2.2), (h4, xI X 6 v_own)]) hC hr hlk trivial hf hH rfl rfl dX7_image_22
def f_X7_back_L32 (v_refusals : (Nat → Int32)) (x32_v_laws : Int32) (x32_v_inForce : Int32) (x32_v_depth : Int32) (x32_v_miss : Int32) (x32_v_ring : Int64) (x32_v_size : Int32) (x32_v_people : Int32) (x32_v_seed : Int32) (x32_v_ages : (Nat → Int32)) (x32_v_kind : (Nat → Int32)) (x32_v_own : (Nat → Int32)) (s32 : Int32 × (Nat → Int32)) : Option ((Int32 × Int32 × Int32 × Int32 × Int32 × Int64 × Int32 × Int32 × Int32 × (Nat → Int32) × (Nat → Int32) × (Nat → Int32) × (Nat → Int32) × (Nat → Int32)) ⊕ (Int32 × (Nat → Int32))) :=
  if (8 : Int32) ≤ s32.1 then
    some (.inl ((1 : Int32), x32_v_laws, x32_v_inForce, x32_v_depth, x32_v_miss, x32_v_ring, x32_v_size, x32_v_people, x32_v_seed, x32_v_ages, s32.2, x32_v_kind, x32_v_own, v_refusals))
  else
  if xout s32.1 8 then none else
  if (s32.2 (xat s32.1)) < ((10 : Int32) + x32_v_laws) then
    some (.inr (s32.1 + (1 : Int32), s32.2))
  else
  if xout s32.1 8 then none else
  some (.inr (s32.1 + (1 : Int32), upd s32.2 (xat s32.1) (-1 : Int32)))
def f_X7_back (v_laws : Int32) (v_inForce : Int32) (v_depth : Int32) (v_miss : Int32) (v_ring : Int64) (v_size : Int32) (v_people : Int32) (v_seed : Int32) (v_imaged : Int32) (v_oldRing : Int64) (v_ages : (Nat → Int32)) (v_holding : (Nat → Int32)) (v_kind : (Nat → Int32)) (v_old : (Nat → Int32)) (v_own : (Nat → Int32)) (v_refusals : (Nat → Int32)) : Option (Int32 × Int32 × Int32 × Int32 × Int32 × Int64 × Int32 × Int32 × Int32 × (Nat → Int32) × (Nat → Int32) × (Nat → Int32) × (Nat → Int32) × (Nat → Int32)) :=
  if v_imaged = 0 then
    (f_X7_no v_refusals (-5 : Int32)).bind fun u7 =>
    some (u7.1, v_laws, v_inForce, v_depth, v_miss, v_ring, v_size, v_people, v_seed, v_ages, v_holding, v_kind, v_own, u7.2)
  else
  (f_X7_again v_laws v_inForce v_depth v_miss v_size v_people v_seed v_ages v_kind v_own v_old).bind fun u2 =>
  xloop (f_X7_back_L32 v_refusals u2.1 u2.2.1 u2.2.2.1 u2.2.2.2.1 v_oldRing u2.2.2.2.2.1 u2.2.2.2.2.2.1 u2.2.2.2.2.2.2.1 u2.2.2.2.2.2.2.2.1 u2.2.2.2.2.2.2.2.2.1 u2.2.2.2.2.2.2.2.2.2) xN ((0 : Int32), v_holding)
set_option maxHeartbeats 4000000 in
set_option maxRecDepth 100000 in
theorem c_X7_back {l : Launch} {X : xG} {h0 h1 h2 h3 h4 h5 h6 g0 g1 g2 g3 g4 : Nat} {v_laws : Int32} {v_inForce : Int32} {v_depth : Int32} {v_miss : Int32} {v_ring : Int64} {v_size : Int32} {v_people : Int32} {v_seed : Int32} {v_taped : Int32} {v_from : Int32} {v_to : Int32} {v_token : Int32} {v_value : Int32} {v_imaged : Int32} {v_oldRing : Int64} {v_aheadRing : Int64} {v_ages : (Nat → Int32)} {v_holding : (Nat → Int32)} {v_kind : (Nat → Int32)} {v_old : (Nat → Int32)} {v_own : (Nat → Int32)} {v_refusals : (Nat → Int32)} {u : Int32 × Int32 × Int32 × Int32 × Int32 × Int64 × Int32 × Int32 × Int32 × (Nat → Int32) × (Nat → Int32) × (Nat → Int32) × (Nat → Int32) × (Nat → Int32)} (hf : f_X7_back v_laws v_inForce v_depth v_miss v_ring v_size v_people v_seed v_imaged v_oldRing v_ages v_holding v_kind v_old v_own v_refusals = some u) : Met l yX7_back (xw yX7_back cX7_back 2 (some .int)) (xrm 1 22) (xPc [.ref h0] X [(h0, xO 7 [.int v_laws, .ref h3, .ref h5, .int v_inForce, .int v_depth, .int v_miss, .long v_ring, .int v_size, .int v_people, .ref h1, .int v_seed, .int v_taped, .ref g0, .int v_from, .int v_to, .int v_token, .int v_value, .ref h2, .ref g1, .ref g2, .ref h6, .int v_imaged, .ref h4, .long v_oldRing, .ref g3, .long v_aheadRing, .ref g4]), (h1, xI X 10 v_ages), (h2, xI X 8 v_holding), (h3, xI X 6 v_kind), (h4, xI X 29 v_old), (h5, xI X 6 v_own), (h6, xI X 7 v_refusals)]) (xQw True (.returned (some (.int u.1))) X [(h0, xO 7 [.int u.2.1, .ref h3, .ref h5, .int u.2.2.1, .int u.2.2.2.1, .int u.2.2.2.2.1, .long u.2.2.2.2.2.1, .int u.2.2.2.2.2.2.1, .int u.2.2.2.2.2.2.2.1, .ref h1, .int u.2.2.2.2.2.2.2.2.1, .int v_taped, .ref g0, .int v_from, .int v_to, .int v_token, .int v_value, .ref h2, .ref g1, .ref g2, .ref h6, .int v_imaged, .ref h4, .long v_oldRing, .ref g3, .long v_aheadRing, .ref g4]), (h1, xI X 10 u.2.2.2.2.2.2.2.2.2.1), (h2, xI X 8 u.2.2.2.2.2.2.2.2.2.2.1), (h3, xI X 6 u.2.2.2.2.2.2.2.2.2.2.2.1), (h4, xI X 29 v_old), (h5, xI X 6 u.2.2.2.2.2.2.2.2.2.2.2.2.1), (h6, xI X 7 u.2.2.2.2.2.2.2.2.2.2.2.2.2)] (xAs [(h0, xO 7 [.int v_laws, .ref h3, .ref h5, .int v_inForce, .int v_depth, .int v_miss, .long v_ring, .int v_size, .int v_people, .ref h1, .int v_seed, .int v_taped, .ref g0, .int v_from, .int v_to, .int v_token, .int v_value, .ref h2, .ref g1, .ref g2, .ref h6, .int v_imaged, .ref h4, .long v_oldRing, .ref g3, .long v_aheadRing, .ref g4]), (h1, xI X 10 v_ages), (h2, xI X 8 v_holding), (h3, xI X 6 v_kind), (h4, xI X 29 v_old), (h5, xI X 6 v_own), (h6, xI X 7 v_refusals)])) 0 0 (xAs [(h0, xO 7 [.int v_laws, .ref h3, .ref h5, .int v_inForce, .int v_depth, .int v_miss, .long v_ring, .int v_size, .int v_people, .ref h1, .int v_seed, .int v_taped, .ref g0, .int v_from, .int v_to, .int v_token, .int v_value, .ref h2, .ref g1, .ref g2, .ref h6, .int v_imaged, .ref h4, .long v_oldRing, .ref g3, .long v_aheadRing, .ref g4]), (h1, xI X 10 v_ages), (h2, xI X 8 v_holding), (h3, xI X 6 v_kind), (h4, xI X 29 v_old), (h5, xI X 6 v_own), (h6, xI X 7 v_refusals)]) := by
  refine xMetw (Qc := fun A => xQw True (.returned (some (.int u.1))) X [(h0, xO 7 [.int u.2.1, .ref h3, .ref h5, .int u.2.2.1, .int u.2.2.2.1, .int u.2.2.2.2.1, .long u.2.2.2.2.2.1, .int u.2.2.2.2.2.2.1, .int u.2.2.2.2.2.2.2.1, .ref h1, .int u.2.2.2.2.2.2.2.2.1, .int v_taped, .ref g0, .int v_from, .int v_to, .int v_token, .int v_value, .ref h2, .ref g1, .ref g2, .ref h6, .int v_imaged, .ref h4, .long v_oldRing, .ref g3, .long v_aheadRing, .ref g4]), (h1, xI X 10 u.2.2.2.2.2.2.2.2.2.1), (h2, xI X 8 u.2.2.2.2.2.2.2.2.2.2.1), (h3, xI X 6 u.2.2.2.2.2.2.2.2.2.2.2.1), (h4, xI X 29 v_old), (h5, xI X 6 u.2.2.2.2.2.2.2.2.2.2.2.2.1), (h6, xI X 7 u.2.2.2.2.2.2.2.2.2.2.2.2.2)] A) (n := 0) md_X7_back.1 (Nat.le_of_ble_eq_true rfl) ?_
  intro p e s m args below meth c ls A hC hr hlk hH hl
  have hl : lv_has ls 2 [(0, .ref h0)] := hl
  have hx := hC.1
  have hb := hC.2.1
  have L32 : ∀ (x32_v_laws : Int32) (x32_v_inForce : Int32) (x32_v_depth : Int32) (x32_v_miss : Int32) (x32_v_ring : Int64) (x32_v_size : Int32) (x32_v_people : Int32) (x32_v_seed : Int32) (x32_v_ages : (Nat → Int32)) (x32_v_kind : (Nat → Int32)) (x32_v_own : (Nat → Int32)) (n : Nat) (s32 : Int32 × (Nat → Int32)), xloop (f_X7_back_L32 v_refusals x32_v_laws x32_v_inForce x32_v_depth x32_v_miss x32_v_ring x32_v_size x32_v_people x32_v_seed x32_v_ages x32_v_kind x32_v_own) n s32 = some u → ∀ (H : Heap) (locs : List Loc), xH X A [(h0, xO 7 [.int x32_v_laws, .ref h3, .ref h5, .int x32_v_inForce, .int x32_v_depth, .int x32_v_miss, .long x32_v_ring, .int x32_v_size, .int x32_v_people, .ref h1, .int x32_v_seed, .int v_taped, .ref g0, .int v_from, .int v_to, .int v_token, .int v_value, .ref h2, .ref g1, .ref g2, .ref h6, .int v_imaged, .ref h4, .long v_oldRing, .ref g3, .long v_aheadRing, .ref g4]), (h1, xI X 10 x32_v_ages), (h2, xI X 8 s32.2), (h3, xI X 6 x32_v_kind), (h4, xI X 29 v_old), (h5, xI X 6 x32_v_own), (h6, xI X 7 v_refusals)] s.heap H locs → ∀ (ls : Array Slot), lv_has ls 2 [(0, .ref h0), (1, .int s32.1)] → W p l e (xrm 1 22) s m args below meth c H locs 0 0 (MQ below (xQw True (.returned (some (.int u.1))) X [(h0, xO 7 [.int u.2.1, .ref h3, .ref h5, .int u.2.2.1, .int u.2.2.2.1, .int u.2.2.2.2.1, .long u.2.2.2.2.2.1, .int u.2.2.2.2.2.2.1, .int u.2.2.2.2.2.2.2.1, .ref h1, .int u.2.2.2.2.2.2.2.2.1, .int v_taped, .ref g0, .int v_from, .int v_to, .int v_token, .int v_value, .ref h2, .ref g1, .ref g2, .ref h6, .int v_imaged, .ref h4, .long v_oldRing, .ref g3, .long v_aheadRing, .ref g4]), (h1, xI X 10 u.2.2.2.2.2.2.2.2.2.1), (h2, xI X 8 u.2.2.2.2.2.2.2.2.2.2.1), (h3, xI X 6 u.2.2.2.2.2.2.2.2.2.2.2.1), (h4, xI X 29 v_old), (h5, xI X 6 u.2.2.2.2.2.2.2.2.2.2.2.2.1), (h6, xI X 7 u.2.2.2.2.2.2.2.2.2.2.2.2.2)] A) args s 0 0 A) (F0 m 32 ls []) := by
    intro x32_v_laws x32_v_inForce x32_v_depth x32_v_miss x32_v_ring x32_v_size x32_v_people x32_v_seed x32_v_ages x32_v_kind x32_v_own n
    induction n with
    | zero => intro s32 hf; exact xloop_0 hf
    | succ n ih32 =>
      intro s32 hf H locs hH ls hl
      obtain ⟨o32, hf, ho32⟩ := xloop_s hf
      refine lv_iload_n hx hb dX7_back_32 rfl (lv_at hl 1 rfl) ?_
      refine lv_bipush (v := (8 : Int32)) hx hb dX7_back_33 (by decide) ?_
      refine lv_icmp_ge (tgt := 67) hx hb dX7_back_35 (by decide) (fun c3 => ?_) (fun c3 => ?_)
      · have hf := xt c3 hf
        refine lv_iconst (v := (1 : Int32)) hx hb dX7_back_67 (by decide) ?_
        have hf := xo_ret hf ho32
        exact x_retiw (φ := fun _ => True) (f := fun u : Int32 × Int32 × Int32 × Int32 × Int32 × Int64 × Int32 × Int32 × Int32 × (Nat → Int32) × (Nat → Int32) × (Nat → Int32) × (Nat → Int32) × (Nat → Int32) => u.1) (wf := fun u : Int32 × Int32 × Int32 × Int32 × Int32 × Int64 × Int32 × Int32 × Int32 × (Nat → Int32) × (Nat → Int32) × (Nat → Int32) × (Nat → Int32) × (Nat → Int32) => [(h0, xO 7 [.int u.2.1, .ref h3, .ref h5, .int u.2.2.1, .int u.2.2.2.1, .int u.2.2.2.2.1, .long u.2.2.2.2.2.1, .int u.2.2.2.2.2.2.1, .int u.2.2.2.2.2.2.2.1, .ref h1, .int u.2.2.2.2.2.2.2.2.1, .int v_taped, .ref g0, .int v_from, .int v_to, .int v_token, .int v_value, .ref h2, .ref g1, .ref g2, .ref h6, .int v_imaged, .ref h4, .long v_oldRing, .ref g3, .long v_aheadRing, .ref g4]), (h1, xI X 10 u.2.2.2.2.2.2.2.2.2.1), (h2, xI X 8 u.2.2.2.2.2.2.2.2.2.2.1), (h3, xI X 6 u.2.2.2.2.2.2.2.2.2.2.2.1), (h4, xI X 29 v_old), (h5, xI X 6 u.2.2.2.2.2.2.2.2.2.2.2.2.1), (h6, xI X 7 u.2.2.2.2.2.2.2.2.2.2.2.2.2)]) hC hr hlk trivial hf hH rfl rfl dX7_back_68
      · have hf := xe c3 hf
        refine lv_aload_n hx hb dX7_back_38 rfl (lv_at hl 0 rfl) ?_
        refine x_get hC fd_RX7_22 hH.1 0 rfl rfl dX7_back_39 ?_
        refine lv_iload_n hx hb dX7_back_42 rfl (lv_at hl 1 rfl) ?_
        obtain ⟨n4, hf⟩ := xok hf
        refine x_iald hC hH.1 2 rfl n4 dX7_back_43 ?_
        refine lv_bipush (v := (10 : Int32)) hx hb dX7_back_44 (by decide) ?_
        refine lv_aload_n hx hb dX7_back_46 rfl (lv_at hl 0 rfl) ?_
        refine x_get hC fd_RX7_52 hH.1 0 rfl rfl dX7_back_47 ?_
        refine lv_iadd hx hb dX7_back_50 ?_
        refine lv_icmp_lt (tgt := 61) hx hb dX7_back_51 (by decide) (fun c5 => ?_) (fun c5 => ?_)
        · have hf := xt c5 hf
          refine lv_iinc (v := s32.1 + (1 : Int32)) (lv' := [(1, .int (s32.1 + (1 : Int32))), (0, .ref h0)]) hx hb dX7_back_61 hl (k := 1) rfl rfl (by decide) rfl (fun ls hl => ?_)
          refine lv_goto (tgt := 32) hx hb dX7_back_64 (by decide) ?_
          have hf := xo_go hf ho32
          exact ih32 (s32.1 + (1 : Int32), s32.2) hf _ _ hH ls (lv_sub hl [1, 0] rfl)
        · have hf := xe c5 hf
          refine lv_aload_n hx hb dX7_back_54 rfl (lv_at hl 0 rfl) ?_
          refine x_get hC fd_RX7_22 hH.1 0 rfl rfl dX7_back_55 ?_
          refine lv_iload_n hx hb dX7_back_58 rfl (lv_at hl 1 rfl) ?_
          refine lv_iconst (v := (-1 : Int32)) hx hb dX7_back_59 (by decide) ?_
          obtain ⟨n6, hf⟩ := xok hf
          refine x_iast (ws' := [(h0, xO 7 [.int x32_v_laws, .ref h3, .ref h5, .int x32_v_inForce, .int x32_v_depth, .int x32_v_miss, .long x32_v_ring, .int x32_v_size, .int x32_v_people, .ref h1, .int x32_v_seed, .int v_taped, .ref g0, .int v_from, .int v_to, .int v_token, .int v_value, .ref h2, .ref g1, .ref g2, .ref h6, .int v_imaged, .ref h4, .long v_oldRing, .ref g3, .long v_aheadRing, .ref g4]), (h1, xI X 10 x32_v_ages), (h2, xI X 8 (upd s32.2 (xat s32.1) (-1 : Int32))), (h3, xI X 6 x32_v_kind), (h4, xI X 29 v_old), (h5, xI X 6 x32_v_own), (h6, xI X 7 v_refusals)]) hC hH 2 rfl n6 dX7_back_60 rfl (fun H locs hH => ?_)
          refine lv_iinc (v := s32.1 + (1 : Int32)) (lv' := [(1, .int (s32.1 + (1 : Int32))), (0, .ref h0)]) hx hb dX7_back_61 hl (k := 1) rfl rfl (by decide) rfl (fun ls hl => ?_)
          refine lv_goto (tgt := 32) hx hb dX7_back_64 (by decide) ?_
          have hf := xo_go hf ho32
          exact ih32 (s32.1 + (1 : Int32), upd s32.2 (xat s32.1) (-1 : Int32)) hf _ _ hH ls (lv_sub hl [1, 0] rfl)
  refine lv_aload_n hx hb dX7_back_0 rfl (lv_at hl 0 rfl) ?_
  refine x_get hC fd_RX7_315 hH.1 0 rfl rfl dX7_back_1 ?_
  refine lv_if_ne (tgt := 14) hx hb dX7_back_4 (by decide) (fun c1 => ?_) (fun c1 => ?_)
  · have hf := xe c1 hf
    refine lv_aload_n hx hb dX7_back_14 rfl (lv_at hl 0 rfl) ?_
    refine lv_aload_n hx hb dX7_back_15 rfl (lv_at hl 0 rfl) ?_
    refine x_get hC fd_RX7_35 hH.1 0 rfl rfl dX7_back_16 ?_
    obtain ⟨u2, hf2, hf⟩ := xb hf
    refine x_ranw (ws' := [(h0, xO 7 [.int u2.1, .ref h3, .ref h5, .int u2.2.1, .int u2.2.2.1, .int u2.2.2.2.1, .long v_ring, .int u2.2.2.2.2.1, .int u2.2.2.2.2.2.1, .ref h1, .int u2.2.2.2.2.2.2.1, .int v_taped, .ref g0, .int v_from, .int v_to, .int v_token, .int v_value, .ref h2, .ref g1, .ref g2, .ref h6, .int v_imaged, .ref h4, .long v_oldRing, .ref g3, .long v_aheadRing, .ref g4]), (h1, xI X 10 u2.2.2.2.2.2.2.2.1), (h2, xI X 8 v_holding), (h3, xI X 6 u2.2.2.2.2.2.2.2.2.1), (h4, xI X 29 v_old), (h5, xI X 6 u2.2.2.2.2.2.2.2.2.2), (h6, xI X 7 v_refusals)]) (x_runV (q0 := 0) (rest := []) (As := [.ref h4]) hC mw_640 md_X7_again (c_X7_again (X := X) hf2) hH [0, 1, 3, 5, 4] rfl (by decide) rfl rfl rfl hl.1 rfl rfl (Nat.le_of_ble_eq_true rfl) dX7_back_19 ⟨Nat.le_of_ble_eq_true rfl, Nat.le_of_ble_eq_true rfl⟩ ⟨rfl, rfl⟩ ⟨Nat.le_refl _, Nat.le_refl _⟩) hH [0, 1, 3, 5, 4] rfl rfl rfl rfl rfl (fun hz2 H locs hH => ?_)
    refine lv_aload_n hx hb dX7_back_22 rfl (lv_at hl 0 rfl) ?_
    refine lv_aload_n hx hb dX7_back_23 rfl (lv_at hl 0 rfl) ?_
    refine x_get hC fd_RX7_319 hH.1 0 rfl rfl dX7_back_24 ?_
    refine x_put (ws' := [(h0, xO 7 [.int u2.1, .ref h3, .ref h5, .int u2.2.1, .int u2.2.2.1, .int u2.2.2.2.1, .long v_oldRing, .int u2.2.2.2.2.1, .int u2.2.2.2.2.2.1, .ref h1, .int u2.2.2.2.2.2.2.1, .int v_taped, .ref g0, .int v_from, .int v_to, .int v_token, .int v_value, .ref h2, .ref g1, .ref g2, .ref h6, .int v_imaged, .ref h4, .long v_oldRing, .ref g3, .long v_aheadRing, .ref g4]), (h1, xI X 10 u2.2.2.2.2.2.2.2.1), (h2, xI X 8 v_holding), (h3, xI X 6 u2.2.2.2.2.2.2.2.2.1), (h4, xI X 29 v_old), (h5, xI X 6 u2.2.2.2.2.2.2.2.2.2), (h6, xI X 7 v_refusals)]) hC fd_RX7_90 hH 0 rfl (Nat.le_of_ble_eq_true rfl) rfl rfl dX7_back_27 rfl (fun H locs hH => ?_)
    refine lv_iconst (v := (0 : Int32)) hx hb dX7_back_30 (by decide) ?_
    refine lv_istore_n (lv' := [(1, .int (0 : Int32)), (0, .ref h0)]) hx hb dX7_back_31 rfl hl (by decide) rfl (fun ls hl => ?_)
    exact L32 u2.1 u2.2.1 u2.2.2.1 u2.2.2.2.1 v_oldRing u2.2.2.2.2.1 u2.2.2.2.2.2.1 u2.2.2.2.2.2.2.1 u2.2.2.2.2.2.2.2.1 u2.2.2.2.2.2.2.2.2.1 u2.2.2.2.2.2.2.2.2.2 xN ((0 : Int32), v_holding) hf _ _ hH ls (lv_sub hl [1, 0] rfl)
  · have hf := xt c1 hf
    refine lv_aload_n hx hb dX7_back_7 rfl (lv_at hl 0 rfl) ?_
    refine lv_bipush (v := (-5 : Int32)) hx hb dX7_back_8 (by decide) ?_
    obtain ⟨u7, hf7, hf⟩ := xb hf
    refine x_ranw (ws' := [(h0, xO 7 [.int v_laws, .ref h3, .ref h5, .int v_inForce, .int v_depth, .int v_miss, .long v_ring, .int v_size, .int v_people, .ref h1, .int v_seed, .int v_taped, .ref g0, .int v_from, .int v_to, .int v_token, .int v_value, .ref h2, .ref g1, .ref g2, .ref h6, .int v_imaged, .ref h4, .long v_oldRing, .ref g3, .long v_aheadRing, .ref g4]), (h1, xI X 10 v_ages), (h2, xI X 8 v_holding), (h3, xI X 6 v_kind), (h4, xI X 29 v_old), (h5, xI X 6 v_own), (h6, xI X 7 u7.2)]) (x_runV (q0 := 0) (rest := []) (As := [.int (-5 : Int32)]) hC mw_143 md_X7_no (c_X7_no (X := X) hf7) hH [0, 6] rfl (by decide) rfl rfl rfl hl.1 rfl rfl (Nat.le_of_ble_eq_true rfl) dX7_back_10 ⟨Nat.le_of_ble_eq_true rfl, Nat.le_of_ble_eq_true rfl⟩ ⟨rfl, rfl⟩ ⟨Nat.le_refl _, Nat.le_refl _⟩) hH [0, 6] rfl rfl rfl rfl rfl (fun hz7 H locs hH => ?_)
    exact x_retiw (φ := fun _ => True) (f := fun u : Int32 × Int32 × Int32 × Int32 × Int32 × Int64 × Int32 × Int32 × Int32 × (Nat → Int32) × (Nat → Int32) × (Nat → Int32) × (Nat → Int32) × (Nat → Int32) => u.1) (wf := fun u : Int32 × Int32 × Int32 × Int32 × Int32 × Int64 × Int32 × Int32 × Int32 × (Nat → Int32) × (Nat → Int32) × (Nat → Int32) × (Nat → Int32) × (Nat → Int32) => [(h0, xO 7 [.int u.2.1, .ref h3, .ref h5, .int u.2.2.1, .int u.2.2.2.1, .int u.2.2.2.2.1, .long u.2.2.2.2.2.1, .int u.2.2.2.2.2.2.1, .int u.2.2.2.2.2.2.2.1, .ref h1, .int u.2.2.2.2.2.2.2.2.1, .int v_taped, .ref g0, .int v_from, .int v_to, .int v_token, .int v_value, .ref h2, .ref g1, .ref g2, .ref h6, .int v_imaged, .ref h4, .long v_oldRing, .ref g3, .long v_aheadRing, .ref g4]), (h1, xI X 10 u.2.2.2.2.2.2.2.2.2.1), (h2, xI X 8 u.2.2.2.2.2.2.2.2.2.2.1), (h3, xI X 6 u.2.2.2.2.2.2.2.2.2.2.2.1), (h4, xI X 29 v_old), (h5, xI X 6 u.2.2.2.2.2.2.2.2.2.2.2.2.1), (h6, xI X 7 u.2.2.2.2.2.2.2.2.2.2.2.2.2)]) hC hr hlk trivial hf hH rfl rfl dX7_back_13
def f_X7_status_L123 (v_holding : (Nat → Int32)) (s123 : Int32 × Int32) : Option ((Int32) ⊕ (Int32 × Int32)) :=
  if (8 : Int32) ≤ s123.2 then
    some (.inl s123.1)
  else
  if xout s123.2 8 then none else
  if (v_holding (xat s123.2)) = (-1 : Int32) then
    some (.inr (s123.1, s123.2 + (1 : Int32)))
  else
  some (.inr (s123.1 + (1 : Int32), s123.2 + (1 : Int32)))
def f_X7_status (v_laws : Int32) (v_inForce : Int32) (v_depth : Int32) (v_miss : Int32) (v_ring : Int64) (v_size : Int32) (v_people : Int32) (v_seed : Int32) (v_taped : Int32) (v_ages : (Nat → Int32)) (v_holding : (Nat → Int32)) (v_refusals : (Nat → Int32)) (p1 : Int32) : Option (Int32) :=
  if p1 = (0 : Int32) then
    some v_laws
  else
  if p1 = (1 : Int32) then
    some v_inForce
  else
  if p1 = (2 : Int32) then
    some v_depth
  else
  if p1 = (3 : Int32) then
    some v_miss
  else
  if p1 = (4 : Int32) then
    some v_size
  else
  if p1 = (5 : Int32) then
    (f_J13_bitCount_95d88 v_ring).bind fun u7 =>
    some u7
  else
  if p1 = (6 : Int32) then
    some v_people
  else
  if p1 = (7 : Int32) then
    (f_X7_ageOf v_people v_ages ((xshl (1 : Int32) v_people) - (1 : Int32))).bind fun u10 =>
    some u10
  else
  if p1 = (8 : Int32) then
    some v_taped
  else
  if p1 = (9 : Int32) then
    some v_seed
  else
  if p1 = (10 : Int32) then
    xloop (f_X7_status_L123 v_holding) xN ((0 : Int32), (0 : Int32))
  else
  (f_X7_within p1 (12 : Int32) (16 : Int32)).bind fun u17 =>
  if u17 = 0 then
    some (-1 : Int32)
  else
  if xout (p1 - (10 : Int32)) 7 then none else
  some (v_refusals (xat (p1 - (10 : Int32))))
set_option maxHeartbeats 4000000 in
set_option maxRecDepth 100000 in
theorem c_X7_status {l : Launch} {X : xG} {h0 h1 h2 h3 g0 g1 g2 g3 g4 g5 g6 g7 : Nat} {v_laws : Int32} {v_inForce : Int32} {v_depth : Int32} {v_miss : Int32} {v_ring : Int64} {v_size : Int32} {v_people : Int32} {v_seed : Int32} {v_taped : Int32} {v_from : Int32} {v_to : Int32} {v_token : Int32} {v_value : Int32} {v_imaged : Int32} {v_oldRing : Int64} {v_aheadRing : Int64} {v_ages : (Nat → Int32)} {v_holding : (Nat → Int32)} {v_refusals : (Nat → Int32)} {p1 : Int32} {u : Int32} (hf : f_X7_status v_laws v_inForce v_depth v_miss v_ring v_size v_people v_seed v_taped v_ages v_holding v_refusals p1 = some u) : Met l yX7_status (xw yX7_status cX7_status 4 (some .int)) (xrm 2 45) (xPc [.ref h0, .int p1] X [(h0, xO 7 [.int v_laws, .ref g0, .ref g1, .int v_inForce, .int v_depth, .int v_miss, .long v_ring, .int v_size, .int v_people, .ref h1, .int v_seed, .int v_taped, .ref g2, .int v_from, .int v_to, .int v_token, .int v_value, .ref h2, .ref g3, .ref g4, .ref h3, .int v_imaged, .ref g5, .long v_oldRing, .ref g6, .long v_aheadRing, .ref g7]), (h1, xI X 10 v_ages), (h2, xI X 8 v_holding), (h3, xI X 7 v_refusals)]) (xQ True (.returned (some (.int u)))) 0 0 xNo := by
  refine xMet (n := 1) md_X7_status.1 (Nat.le_of_ble_eq_true rfl) ?_
  intro p e s m args below meth c ls A hC hr hlk hH hl
  have hl : lv_has ls 4 [(0, .ref h0), (1, .int p1)] := hl
  have hx := hC.1
  have hb := hC.2.1
  have L123 : ∀ (n : Nat) (s123 : Int32 × Int32), xloop (f_X7_status_L123 v_holding) n s123 = some u → ∀ (ls : Array Slot), lv_has ls 4 [(0, .ref h0), (2, .int s123.1), (3, .int s123.2)] → W p l e (xrm 2 45) s m args below meth c s.heap [] 0 0 (MQ below (xQ True (.returned (some (.int u)))) args s 0 0 xNo) (F0 m 123 ls []) := by
    intro  n
    induction n with
    | zero => intro s123 hf; exact xloop_0 hf
    | succ n ih123 =>
      intro s123 hf ls hl
      obtain ⟨o123, hf, ho123⟩ := xloop_s hf
      refine lv_iload_n hx hb dX7_status_123 rfl (lv_at hl 2 rfl) ?_
      refine lv_bipush (v := (8 : Int32)) hx hb dX7_status_124 (by decide) ?_
      refine lv_icmp_ge (tgt := 148) hx hb dX7_status_126 (by decide) (fun c14 => ?_) (fun c14 => ?_)
      · have hf := xt c14 hf
        refine lv_iload_n hx hb dX7_status_148 rfl (lv_at hl 1 rfl) ?_
        have hf := xo_ret hf ho123
        exact x_reti hC hr hlk trivial hf dX7_status_149
      · have hf := xe c14 hf
        refine lv_aload_n hx hb dX7_status_129 rfl (lv_at hl 0 rfl) ?_
        refine x_get hC fd_RX7_22 hH.1 0 rfl rfl dX7_status_130 ?_
        refine lv_iload_n hx hb dX7_status_133 rfl (lv_at hl 2 rfl) ?_
        obtain ⟨n15, hf⟩ := xok hf
        refine x_iald hC hH.1 2 rfl n15 dX7_status_134 ?_
        refine lv_iconst (v := (-1 : Int32)) hx hb dX7_status_135 (by decide) ?_
        refine lv_icmp_eq (tgt := 142) hx hb dX7_status_136 (by decide) (fun c16 => ?_) (fun c16 => ?_)
        · have hf := xt c16 hf
          refine lv_iinc (v := s123.2 + (1 : Int32)) (lv' := [(3, .int (s123.2 + (1 : Int32))), (0, .ref h0), (2, .int s123.1)]) hx hb dX7_status_142 hl (k := 2) rfl rfl (by decide) rfl (fun ls hl => ?_)
          refine lv_goto (tgt := 123) hx hb dX7_status_145 (by decide) ?_
          have hf := xo_go hf ho123
          exact ih123 (s123.1, s123.2 + (1 : Int32)) hf ls (lv_sub hl [1, 2, 0] rfl)
        · have hf := xe c16 hf
          refine lv_iinc (v := s123.1 + (1 : Int32)) (lv' := [(2, .int (s123.1 + (1 : Int32))), (0, .ref h0), (3, .int s123.2)]) hx hb dX7_status_139 hl (k := 1) rfl rfl (by decide) rfl (fun ls hl => ?_)
          refine lv_iinc (v := s123.2 + (1 : Int32)) (lv' := [(3, .int (s123.2 + (1 : Int32))), (2, .int (s123.1 + (1 : Int32))), (0, .ref h0)]) hx hb dX7_status_142 hl (k := 2) rfl rfl (by decide) rfl (fun ls hl => ?_)
          refine lv_goto (tgt := 123) hx hb dX7_status_145 (by decide) ?_
          have hf := xo_go hf ho123
          exact ih123 (s123.1 + (1 : Int32), s123.2 + (1 : Int32)) hf ls (lv_sub hl [2, 1, 0] rfl)
  refine lv_iconst (v := (0 : Int32)) hx hb dX7_status_0 (by decide) ?_
  refine lv_istore_n (lv' := [(2, .int (0 : Int32)), (0, .ref h0), (1, .int p1)]) hx hb dX7_status_1 rfl hl (by decide) rfl (fun ls hl => ?_)
  refine lv_iload_n hx hb dX7_status_2 rfl (lv_at hl 2 rfl) ?_
  by_cases c1 : p1 = (0 : Int32)
  · have hf := xt c1 hf
    refine x_tin (k := (0 : Int32)) (tgt := 60) hx hb dX7_status_3 c1 (by decide) (by decide) ?_
    refine lv_aload_n hx hb dX7_status_60 rfl (lv_at hl 1 rfl) ?_
    refine x_get hC fd_RX7_52 hH.1 0 rfl rfl dX7_status_61 ?_
    exact x_reti hC hr hlk trivial hf dX7_status_64
  · have hf := xe c1 hf
    by_cases c2 : p1 = (1 : Int32)
    · have hf := xt c2 hf
      refine x_tin (k := (1 : Int32)) (tgt := 65) hx hb dX7_status_3 c2 (by decide) (by decide) ?_
      refine lv_aload_n hx hb dX7_status_65 rfl (lv_at hl 1 rfl) ?_
      refine x_get hC fd_RX7_102 hH.1 0 rfl rfl dX7_status_66 ?_
      exact x_reti hC hr hlk trivial hf dX7_status_69
    · have hf := xe c2 hf
      by_cases c3 : p1 = (2 : Int32)
      · have hf := xt c3 hf
        refine x_tin (k := (2 : Int32)) (tgt := 70) hx hb dX7_status_3 c3 (by decide) (by decide) ?_
        refine lv_aload_n hx hb dX7_status_70 rfl (lv_at hl 1 rfl) ?_
        refine x_get hC fd_RX7_45 hH.1 0 rfl rfl dX7_status_71 ?_
        exact x_reti hC hr hlk trivial hf dX7_status_74
      · have hf := xe c3 hf
        by_cases c4 : p1 = (3 : Int32)
        · have hf := xt c4 hf
          refine x_tin (k := (3 : Int32)) (tgt := 75) hx hb dX7_status_3 c4 (by decide) (by decide) ?_
          refine lv_aload_n hx hb dX7_status_75 rfl (lv_at hl 1 rfl) ?_
          refine x_get hC fd_RX7_105 hH.1 0 rfl rfl dX7_status_76 ?_
          exact x_reti hC hr hlk trivial hf dX7_status_79
        · have hf := xe c4 hf
          by_cases c5 : p1 = (4 : Int32)
          · have hf := xt c5 hf
            refine x_tin (k := (4 : Int32)) (tgt := 80) hx hb dX7_status_3 c5 (by decide) (by decide) ?_
            refine lv_aload_n hx hb dX7_status_80 rfl (lv_at hl 1 rfl) ?_
            refine x_get hC fd_RX7_62 hH.1 0 rfl rfl dX7_status_81 ?_
            exact x_reti hC hr hlk trivial hf dX7_status_84
          · have hf := xe c5 hf
            by_cases c6 : p1 = (5 : Int32)
            · have hf := xt c6 hf
              refine x_tin (k := (5 : Int32)) (tgt := 85) hx hb dX7_status_3 c6 (by decide) (by decide) ?_
              refine lv_aload_n hx hb dX7_status_85 rfl (lv_at hl 1 rfl) ?_
              refine x_get hC fd_RX7_90 hH.1 0 rfl rfl dX7_status_86 ?_
              obtain ⟨u7, hf7, hf⟩ := xb hf
              refine x_ran (x_runS (rest := []) (As := [.long v_ring]) hC mw_342 md_J13_bitCount_95d88 (c_J13_bitCount_95d88 (X := X) hf7) hH [] rfl (by decide) hl.1 rfl rfl (Nat.le_of_ble_eq_true rfl) dX7_status_89 ⟨Nat.le_of_ble_eq_true rfl, Nat.le_of_ble_eq_true rfl⟩ ⟨rfl, rfl⟩ ⟨Nat.le_refl _, Nat.le_refl _⟩) rfl (fun hz7 => ?_)
              exact x_reti hC hr hlk trivial hf dX7_status_92
            · have hf := xe c6 hf
              by_cases c8 : p1 = (6 : Int32)
              · have hf := xt c8 hf
                refine x_tin (k := (6 : Int32)) (tgt := 93) hx hb dX7_status_3 c8 (by decide) (by decide) ?_
                refine lv_aload_n hx hb dX7_status_93 rfl (lv_at hl 1 rfl) ?_
                refine x_get hC fd_RX7_59 hH.1 0 rfl rfl dX7_status_94 ?_
                exact x_reti hC hr hlk trivial hf dX7_status_97
              · have hf := xe c8 hf
                by_cases c9 : p1 = (7 : Int32)
                · have hf := xt c9 hf
                  refine x_tin (k := (7 : Int32)) (tgt := 98) hx hb dX7_status_3 c9 (by decide) (by decide) ?_
                  refine lv_aload_n hx hb dX7_status_98 rfl (lv_at hl 1 rfl) ?_
                  refine lv_iconst (v := (1 : Int32)) hx hb dX7_status_99 (by decide) ?_
                  refine lv_aload_n hx hb dX7_status_100 rfl (lv_at hl 1 rfl) ?_
                  refine x_get hC fd_RX7_59 hH.1 0 rfl rfl dX7_status_101 ?_
                  refine x_ishl hx hb dX7_status_104 ?_
                  refine lv_iconst (v := (1 : Int32)) hx hb dX7_status_105 (by decide) ?_
                  refine lv_isub hx hb dX7_status_106 ?_
                  obtain ⟨u10, hf10, hf⟩ := xb hf
                  refine x_ran (x_runV (q0 := 0) (rest := []) (As := [.int ((xshl (1 : Int32) v_people) - (1 : Int32))]) hC mw_1145 md_X7_ageOf (c_X7_ageOf (X := X) hf10) hH [0, 1] rfl (by decide) rfl rfl rfl hl.1 rfl rfl (Nat.le_of_ble_eq_true rfl) dX7_status_107 ⟨Nat.le_of_ble_eq_true rfl, Nat.le_of_ble_eq_true rfl⟩ ⟨rfl, rfl⟩ ⟨Nat.le_refl _, Nat.le_refl _⟩) rfl (fun hz10 => ?_)
                  exact x_reti hC hr hlk trivial hf dX7_status_110
                · have hf := xe c9 hf
                  by_cases c11 : p1 = (8 : Int32)
                  · have hf := xt c11 hf
                    refine x_tin (k := (8 : Int32)) (tgt := 111) hx hb dX7_status_3 c11 (by decide) (by decide) ?_
                    refine lv_aload_n hx hb dX7_status_111 rfl (lv_at hl 1 rfl) ?_
                    refine x_get hC fd_RX7_111 hH.1 0 rfl rfl dX7_status_112 ?_
                    exact x_reti hC hr hlk trivial hf dX7_status_115
                  · have hf := xe c11 hf
                    by_cases c12 : p1 = (9 : Int32)
                    · have hf := xt c12 hf
                      refine x_tin (k := (9 : Int32)) (tgt := 116) hx hb dX7_status_3 c12 (by decide) (by decide) ?_
                      refine lv_aload_n hx hb dX7_status_116 rfl (lv_at hl 1 rfl) ?_
                      refine x_get hC fd_RX7_49 hH.1 0 rfl rfl dX7_status_117 ?_
                      exact x_reti hC hr hlk trivial hf dX7_status_120
                    · have hf := xe c12 hf
                      by_cases c13 : p1 = (10 : Int32)
                      · have hf := xt c13 hf
                        refine x_tin (k := (10 : Int32)) (tgt := 121) hx hb dX7_status_3 c13 (by decide) (by decide) ?_
                        refine lv_iconst (v := (0 : Int32)) hx hb dX7_status_121 (by decide) ?_
                        refine lv_istore_n (lv' := [(3, .int (0 : Int32)), (2, .int (0 : Int32)), (0, .ref h0), (1, .int p1)]) hx hb dX7_status_122 rfl hl (by decide) rfl (fun ls hl => ?_)
                        exact L123 xN ((0 : Int32), (0 : Int32)) hf ls (lv_sub hl [2, 1, 0] rfl)
                      · have hf := xe c13 hf
                        refine x_tout (tgt := 150) hx hb dX7_status_3 (fun j hj => match j, hj with | 0, _ => c1 | 1, _ => c2 | 2, _ => c3 | 3, _ => c4 | 4, _ => c5 | 5, _ => c6 | 6, _ => c8 | 7, _ => c9 | 8, _ => c11 | 9, _ => c12 | 10, _ => c13 | _ + 11, hj => absurd hj (by simp <;> omega)) (by decide) ?_
                        refine lv_iload_n hx hb dX7_status_150 rfl (lv_at hl 2 rfl) ?_
                        refine lv_bipush (v := (12 : Int32)) hx hb dX7_status_151 (by decide) ?_
                        refine lv_bipush (v := (16 : Int32)) hx hb dX7_status_153 (by decide) ?_
                        obtain ⟨u17, hf17, hf⟩ := xb hf
                        refine x_ran (x_runS (rest := []) (As := [.int p1, .int (12 : Int32), .int (16 : Int32)]) hC mw_140 md_X7_within (c_X7_within (X := X) hf17) hH [] rfl (by decide) hl.1 rfl rfl (Nat.le_of_ble_eq_true rfl) dX7_status_155 ⟨Nat.le_of_ble_eq_true rfl, Nat.le_of_ble_eq_true rfl⟩ ⟨rfl, rfl⟩ ⟨Nat.le_refl _, Nat.le_refl _⟩) rfl (fun hz17 => ?_)
                        refine lv_if_eq (tgt := 173) hx hb dX7_status_158 (by decide) (fun c18 => ?_) (fun c18 => ?_)
                        · have hf := xt c18 hf
                          refine lv_iconst (v := (-1 : Int32)) hx hb dX7_status_173 (by decide) ?_
                          exact x_reti hC hr hlk trivial hf dX7_status_174
                        · have hf := xe c18 hf
                          refine lv_aload_n hx hb dX7_status_161 rfl (lv_at hl 1 rfl) ?_
                          refine x_get hC fd_RX7_32 hH.1 0 rfl rfl dX7_status_162 ?_
                          refine lv_iload_n hx hb dX7_status_165 rfl (lv_at hl 2 rfl) ?_
                          refine lv_bipush (v := (10 : Int32)) hx hb dX7_status_166 (by decide) ?_
                          refine lv_isub hx hb dX7_status_168 ?_
                          obtain ⟨n19, hf⟩ := xok hf
                          refine x_iald hC hH.1 3 rfl n19 dX7_status_169 ?_
                          refine lv_goto (tgt := 174) hx hb dX7_status_170 (by decide) ?_
                          exact x_reti hC hr hlk trivial hf dX7_status_174
