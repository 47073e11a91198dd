def f_X6_rings (v_now_ring : Int64) (v_now_steps : Int32) (v_refusals : (Nat → Int32)) (v_shelves_elements : (Nat → Int64)) (v_shelves_held : (Nat → Int32)) (v_shelves_sizes : (Nat → Int32)) (p1 : Int32) (p2 : Int32) : Option (Int32 × Int64 × Int32 × (Nat → Int32)) :=
  (f_X6_refusalOfToldRing v_shelves_elements v_shelves_held v_shelves_sizes p1 p2).bind fun u1 =>
  if u1 = (nI 0) then
    (f_X4_elementsAsBits v_shelves_elements v_shelves_sizes p1 p2).bind fun u3 =>
    some (p2, u3, p2, v_refusals)
  else
  (f_X6_refuse v_refusals u1).bind fun u4 =>
  some (u4.1, v_now_ring, v_now_steps, u4.2)
set_option maxHeartbeats 4000000 in
set_option maxRecDepth 100000 in
theorem c_X6_rings {l : Launch} {X : xG} {h0 h1 h2 h3 h4 h5 h6 g0 g1 g2 g3 : Nat} {v_isKept : Int32} {v_now_inForce : Int32} {v_now_depth : Int32} {v_now_miss : Int32} {v_now_ring : Int64} {v_now_steps : Int32} {v_now_seed : Int32} {v_refusals : (Nat → Int32)} {v_shelves_elements : (Nat → Int64)} {v_shelves_held : (Nat → Int32)} {v_shelves_sizes : (Nat → Int32)} {p1 : Int32} {p2 : Int32} {u : Int32 × Int64 × Int32 × (Nat → Int32)} (hf : f_X6_rings v_now_ring v_now_steps v_refusals v_shelves_elements v_shelves_held v_shelves_sizes p1 p2 = some u) : Met l yX6_rings (xw yX6_rings cX6_rings 4 (some .int)) (xrm 6 134) (xPc [.ref h0, .int p1, .int p2] X [(h0, xO 6 [.ref h1, .ref g0, .ref g1, .ref h3, .ref h2, .int v_isKept]), (h1, xO 0 [.ref g2, .ref g3, .int v_now_inForce, .int v_now_depth, .int v_now_miss, .long v_now_ring, .int v_now_steps, .int v_now_seed]), (h2, xI X 5 v_refusals), (h3, xO 4 [.ref h5, .ref h6, .ref h4]), (h4, xJ X 320 v_shelves_elements), (h5, xI X 8 v_shelves_held), (h6, xI X 8 v_shelves_sizes)]) (xQw True (.returned (some (.int u.1))) X [(h0, xO 6 [.ref h1, .ref g0, .ref g1, .ref h3, .ref h2, .int v_isKept]), (h1, xO 0 [.ref g2, .ref g3, .int v_now_inForce, .int v_now_depth, .int v_now_miss, .long u.2.1, .int u.2.2.1, .int v_now_seed]), (h2, xI X 5 u.2.2.2), (h3, xO 4 [.ref h5, .ref h6, .ref h4]), (h4, xJ X 320 v_shelves_elements), (h5, xI X 8 v_shelves_held), (h6, xI X 8 v_shelves_sizes)] (xAs [(h0, xO 6 [.ref h1, .ref g0, .ref g1, .ref h3, .ref h2, .int v_isKept]), (h1, xO 0 [.ref g2, .ref g3, .int v_now_inForce, .int v_now_depth, .int v_now_miss, .long v_now_ring, .int v_now_steps, .int v_now_seed]), (h2, xI X 5 v_refusals), (h3, xO 4 [.ref h5, .ref h6, .ref h4]), (h4, xJ X 320 v_shelves_elements), (h5, xI X 8 v_shelves_held), (h6, xI X 8 v_shelves_sizes)])) 0 0 (xAs [(h0, xO 6 [.ref h1, .ref g0, .ref g1, .ref h3, .ref h2, .int v_isKept]), (h1, xO 0 [.ref g2, .ref g3, .int v_now_inForce, .int v_now_depth, .int v_now_miss, .long v_now_ring, .int v_now_steps, .int v_now_seed]), (h2, xI X 5 v_refusals), (h3, xO 4 [.ref h5, .ref h6, .ref h4]), (h4, xJ X 320 v_shelves_elements), (h5, xI X 8 v_shelves_held), (h6, xI X 8 v_shelves_sizes)]) := by
  refine xMetw (Qc := fun A => xQw True (.returned (some (.int u.1))) X [(h0, xO 6 [.ref h1, .ref g0, .ref g1, .ref h3, .ref h2, .int v_isKept]), (h1, xO 0 [.ref g2, .ref g3, .int v_now_inForce, .int v_now_depth, .int v_now_miss, .long u.2.1, .int u.2.2.1, .int v_now_seed]), (h2, xI X 5 u.2.2.2), (h3, xO 4 [.ref h5, .ref h6, .ref h4]), (h4, xJ X 320 v_shelves_elements), (h5, xI X 8 v_shelves_held), (h6, xI X 8 v_shelves_sizes)] A) (n := 2) md_X6_rings.1 (Nat.le_of_ble_eq_true rfl) ?_
  intro p e s m args below meth c ls A hC hr hlk hH hl
  have hl : lv_has ls 4 [(0, .ref h0), (1, .int p1), (2, .int p2)] := hl
  have hx := hC.1
  have hb := hC.2.1
  refine lv_aload_n hx hb dX6_rings_0 rfl (lv_at hl 0 rfl) ?_
  refine lv_iload_n hx hb dX6_rings_1 rfl (lv_at hl 1 rfl) ?_
  refine lv_iload_n hx hb dX6_rings_2 rfl (lv_at hl 2 rfl) ?_
  obtain ⟨u1, hf1, hf⟩ := xb hf
  refine x_ran (x_runV (q0 := 0) (rest := []) (As := [.int p1, .int p2]) hC mw_1263 md_X6_refusalOfToldRing (c_X6_refusalOfToldRing (X := X) hf1) hH [0, 3, 4, 5, 6] rfl (by decide) rfl rfl rfl hl.1 rfl rfl (Nat.le_of_ble_eq_true rfl) dX6_rings_3 ⟨Nat.le_of_ble_eq_true rfl, Nat.le_of_ble_eq_true rfl⟩ ⟨rfl, rfl⟩ ⟨Nat.le_refl _, Nat.le_refl _⟩) rfl (fun hz1 => ?_)
  refine lv_istore_n (lv' := [(3, .int u1), (0, .ref h0), (1, .int p1), (2, .int p2)]) hx hb dX6_rings_6 rfl hl (by decide) rfl (fun ls hl => ?_)
  refine lv_iload_n hx hb dX6_rings_7 rfl (lv_at hl 0 rfl) ?_
  refine lv_if_eq (tgt := 17) hx hb dX6_rings_8 (by decide) (fun c2 => ?_) (fun c2 => ?_)
  · have hf := xt c2 hf
    refine lv_aload_n hx hb dX6_rings_17 rfl (lv_at hl 1 rfl) ?_
    refine x_get hC fd_RX6_10 hH.1 0 rfl rfl dX6_rings_18 ?_
    refine lv_aload_n hx hb dX6_rings_21 rfl (lv_at hl 1 rfl) ?_
    refine x_get hC fd_RX6_29 hH.1 0 rfl rfl dX6_rings_22 ?_
    refine lv_iload_n hx hb dX6_rings_25 rfl (lv_at hl 2 rfl) ?_
    refine lv_iload_n hx hb dX6_rings_26 rfl (lv_at hl 3 rfl) ?_
    obtain ⟨u3, hf3, hf⟩ := xb hf
    refine x_ran (x_runV (q0 := 0) (rest := [.ref h1]) (As := [.int p1, .int p2]) hC mw_980 md_X4_elementsAsBits (c_X4_elementsAsBits (X := X) hf3) hH [3, 4, 6] rfl (by decide) rfl rfl rfl hl.1 rfl rfl (Nat.le_of_ble_eq_true rfl) dX6_rings_27 ⟨Nat.le_of_ble_eq_true rfl, Nat.le_of_ble_eq_true rfl⟩ ⟨rfl, rfl⟩ ⟨Nat.le_refl _, Nat.le_refl _⟩) rfl (fun hz3 => ?_)
    refine x_putN (ws' := [(h0, xO 6 [.ref h1, .ref g0, .ref g1, .ref h3, .ref h2, .int v_isKept]), (h1, xO 0 [.ref g2, .ref g3, .int v_now_inForce, .int v_now_depth, .int v_now_miss, .long u3, .int v_now_steps, .int v_now_seed]), (h2, xI X 5 v_refusals), (h3, xO 4 [.ref h5, .ref h6, .ref h4]), (h4, xJ X 320 v_shelves_elements), (h5, xI X 8 v_shelves_held), (h6, xI X 8 v_shelves_sizes)]) hC fd_RX6_120 hH 1 rfl (Nat.le_of_ble_eq_true rfl) rfl rfl dX6_rings_30 rfl (fun H locs hH => ?_)
    refine lv_aload_n hx hb dX6_rings_33 rfl (lv_at hl 1 rfl) ?_
    refine x_get hC fd_RX6_10 hH.1 0 rfl rfl dX6_rings_34 ?_
    refine lv_iload_n hx hb dX6_rings_37 rfl (lv_at hl 3 rfl) ?_
    refine x_putN (ws' := [(h0, xO 6 [.ref h1, .ref g0, .ref g1, .ref h3, .ref h2, .int v_isKept]), (h1, xO 0 [.ref g2, .ref g3, .int v_now_inForce, .int v_now_depth, .int v_now_miss, .long u3, .int p2, .int v_now_seed]), (h2, xI X 5 v_refusals), (h3, xO 4 [.ref h5, .ref h6, .ref h4]), (h4, xJ X 320 v_shelves_elements), (h5, xI X 8 v_shelves_held), (h6, xI X 8 v_shelves_sizes)]) hC fd_RX6_200 hH 1 rfl (Nat.le_of_ble_eq_true rfl) rfl rfl dX6_rings_38 rfl (fun H locs hH => ?_)
    refine lv_iload_n hx hb dX6_rings_41 rfl (lv_at hl 3 rfl) ?_
    exact x_retiw (φ := fun _ => True) (f := fun u : Int32 × Int64 × Int32 × (Nat → Int32) => u.1) (wf := fun u : Int32 × Int64 × Int32 × (Nat → Int32) => [(h0, xO 6 [.ref h1, .ref g0, .ref g1, .ref h3, .ref h2, .int v_isKept]), (h1, xO 0 [.ref g2, .ref g3, .int v_now_inForce, .int v_now_depth, .int v_now_miss, .long u.2.1, .int u.2.2.1, .int v_now_seed]), (h2, xI X 5 u.2.2.2), (h3, xO 4 [.ref h5, .ref h6, .ref h4]), (h4, xJ X 320 v_shelves_elements), (h5, xI X 8 v_shelves_held), (h6, xI X 8 v_shelves_sizes)]) hC hr hlk trivial hf hH rfl rfl dX6_rings_42
  · have hf := xe c2 hf
    refine lv_aload_n hx hb dX6_rings_11 rfl (lv_at hl 1 rfl) ?_
    refine lv_iload_n hx hb dX6_rings_12 rfl (lv_at hl 0 rfl) ?_
    obtain ⟨u4, hf4, hf⟩ := xb hf
    refine x_ranw (ws' := [(h0, xO 6 [.ref h1, .ref g0, .ref g1, .ref h3, .ref h2, .int v_isKept]), (h1, xO 0 [.ref g2, .ref g3, .int v_now_inForce, .int v_now_depth, .int v_now_miss, .long v_now_ring, .int v_now_steps, .int v_now_seed]), (h2, xI X 5 u4.2), (h3, xO 4 [.ref h5, .ref h6, .ref h4]), (h4, xJ X 320 v_shelves_elements), (h5, xI X 8 v_shelves_held), (h6, xI X 8 v_shelves_sizes)]) (x_runV (q0 := 0) (rest := []) (As := [.int u1]) hC mw_100 md_X6_refuse (c_X6_refuse (X := X) hf4) hH [0, 2] rfl (by decide) rfl rfl rfl hl.1 rfl rfl (Nat.le_of_ble_eq_true rfl) dX6_rings_13 ⟨Nat.le_of_ble_eq_true rfl, Nat.le_of_ble_eq_true rfl⟩ ⟨rfl, rfl⟩ ⟨Nat.le_refl _, Nat.le_refl _⟩) hH [0, 2] rfl rfl rfl rfl rfl (fun hz4 H locs hH => ?_)
    exact x_retiw (φ := fun _ => True) (f := fun u : Int32 × Int64 × Int32 × (Nat → Int32) => u.1) (wf := fun u : Int32 × Int64 × Int32 × (Nat → Int32) => [(h0, xO 6 [.ref h1, .ref g0, .ref g1, .ref h3, .ref h2, .int v_isKept]), (h1, xO 0 [.ref g2, .ref g3, .int v_now_inForce, .int v_now_depth, .int v_now_miss, .long u.2.1, .int u.2.2.1, .int v_now_seed]), (h2, xI X 5 u.2.2.2), (h3, xO 4 [.ref h5, .ref h6, .ref h4]), (h4, xJ X 320 v_shelves_elements), (h5, xI X 8 v_shelves_held), (h6, xI X 8 v_shelves_sizes)]) hC hr hlk trivial hf hH rfl rfl dX6_rings_16
def f_X6_ring (v_now_inForce : Int32) (v_now_miss : Int32) (v_now_ring : Int64) (v_now_steps : Int32) (v_now_seed : Int32) (v_now_laws_count : Int32) (v_now_laws_kinds : (Nat → Int32)) (v_now_laws_tunes : (Nat → Int32)) (v_refusals : (Nat → Int32)) (p1 : Int32) : Option (Int32 × Int64 × Int32 × Int32 × (Nat → Int32)) :=
  (f_X0_hasRoom v_now_steps).bind fun u1 =>
  if u1 = (nI 0) then
    (f_X6_refuse v_refusals (-6 : Int32)).bind fun u3 =>
    some (u3.1, v_now_ring, v_now_steps, v_now_seed, u3.2)
  else
  (f_X0_strikesInTruth v_now_inForce v_now_miss v_now_ring v_now_steps v_now_seed v_now_laws_count v_now_laws_kinds v_now_laws_tunes p1).bind fun u4 =>
  (f_X6_asNumber u4.1).bind fun u5 =>
  some (u5, u4.2.1, u4.2.2.1, u4.2.2.2, v_refusals)
set_option maxHeartbeats 4000000 in
set_option maxRecDepth 100000 in
theorem c_X6_ring {l : Launch} {X : xG} {h0 h1 h2 h3 h4 h5 g0 g1 g2 g3 : Nat} {v_isKept : Int32} {v_now_inForce : Int32} {v_now_depth : Int32} {v_now_miss : Int32} {v_now_ring : Int64} {v_now_steps : Int32} {v_now_seed : Int32} {v_now_laws_count : Int32} {v_now_laws_kinds : (Nat → Int32)} {v_now_laws_tunes : (Nat → Int32)} {v_refusals : (Nat → Int32)} {p1 : Int32} {u : Int32 × Int64 × Int32 × Int32 × (Nat → Int32)} (hf : f_X6_ring v_now_inForce v_now_miss v_now_ring v_now_steps v_now_seed v_now_laws_count v_now_laws_kinds v_now_laws_tunes v_refusals p1 = some u) : Met l yX6_ring (xw yX6_ring cX6_ring 2 (some .int)) (xrm 5 116) (xPc [.ref h0, .int p1] X [(h0, xO 6 [.ref h1, .ref g0, .ref g1, .ref g2, .ref h5, .int v_isKept]), (h1, xO 0 [.ref h2, .ref g3, .int v_now_inForce, .int v_now_depth, .int v_now_miss, .long v_now_ring, .int v_now_steps, .int v_now_seed]), (h2, xO 2 [.ref h3, .ref h4, .int v_now_laws_count]), (h3, xI X 6 v_now_laws_kinds), (h4, xI X 6 v_now_laws_tunes), (h5, xI X 5 v_refusals)]) (xQw True (.returned (some (.int u.1))) X [(h0, xO 6 [.ref h1, .ref g0, .ref g1, .ref g2, .ref h5, .int v_isKept]), (h1, xO 0 [.ref h2, .ref g3, .int v_now_inForce, .int v_now_depth, .int v_now_miss, .long u.2.1, .int u.2.2.1, .int u.2.2.2.1]), (h2, xO 2 [.ref h3, .ref h4, .int v_now_laws_count]), (h3, xI X 6 v_now_laws_kinds), (h4, xI X 6 v_now_laws_tunes), (h5, xI X 5 u.2.2.2.2)] (xAs [(h0, xO 6 [.ref h1, .ref g0, .ref g1, .ref g2, .ref h5, .int v_isKept]), (h1, xO 0 [.ref h2, .ref g3, .int v_now_inForce, .int v_now_depth, .int v_now_miss, .long v_now_ring, .int v_now_steps, .int v_now_seed]), (h2, xO 2 [.ref h3, .ref h4, .int v_now_laws_count]), (h3, xI X 6 v_now_laws_kinds), (h4, xI X 6 v_now_laws_tunes), (h5, xI X 5 v_refusals)])) 0 0 (xAs [(h0, xO 6 [.ref h1, .ref g0, .ref g1, .ref g2, .ref h5, .int v_isKept]), (h1, xO 0 [.ref h2, .ref g3, .int v_now_inForce, .int v_now_depth, .int v_now_miss, .long v_now_ring, .int v_now_steps, .int v_now_seed]), (h2, xO 2 [.ref h3, .ref h4, .int v_now_laws_count]), (h3, xI X 6 v_now_laws_kinds), (h4, xI X 6 v_now_laws_tunes), (h5, xI X 5 v_refusals)]) := by
  refine xMetw (Qc := fun A => xQw True (.returned (some (.int u.1))) X [(h0, xO 6 [.ref h1, .ref g0, .ref g1, .ref g2, .ref h5, .int v_isKept]), (h1, xO 0 [.ref h2, .ref g3, .int v_now_inForce, .int v_now_depth, .int v_now_miss, .long u.2.1, .int u.2.2.1, .int u.2.2.2.1]), (h2, xO 2 [.ref h3, .ref h4, .int v_now_laws_count]), (h3, xI X 6 v_now_laws_kinds), (h4, xI X 6 v_now_laws_tunes), (h5, xI X 5 u.2.2.2.2)] A) (n := 1) md_X6_ring.1 (Nat.le_of_ble_eq_true rfl) ?_
  intro p e s m args below meth c ls A hC hr hlk hH hl
  have hl : lv_has ls 2 [(0, .ref h0), (1, .int p1)] := hl
  have hx := hC.1
  have hb := hC.2.1
  refine lv_aload_n hx hb dX6_ring_0 rfl (lv_at hl 0 rfl) ?_
  refine x_get hC fd_RX6_10 hH.1 0 rfl rfl dX6_ring_1 ?_
  obtain ⟨u1, hf1, hf⟩ := xb hf
  refine x_ran (x_runV (q0 := 0) (rest := []) (As := []) hC mw_1046 md_X0_hasRoom (c_X0_hasRoom (X := X) hf1) hH [1] rfl (by decide) rfl rfl rfl hl.1 rfl rfl (Nat.le_of_ble_eq_true rfl) dX6_ring_4 ⟨Nat.le_of_ble_eq_true rfl, Nat.le_of_ble_eq_true rfl⟩ ⟨rfl, rfl⟩ ⟨Nat.le_refl _, Nat.le_refl _⟩) rfl (fun hz1 => ?_)
  refine lv_if_eq (tgt := 24) hx hb dX6_ring_7 (by decide) (fun c2 => ?_) (fun c2 => ?_)
  · have hf := xt c2 hf
    refine lv_aload_n hx hb dX6_ring_24 rfl (lv_at hl 0 rfl) ?_
    refine lv_bipush (v := (-6 : Int32)) hx hb dX6_ring_25 (by decide) ?_
    obtain ⟨u3, hf3, hf⟩ := xb hf
    refine x_ranw (ws' := [(h0, xO 6 [.ref h1, .ref g0, .ref g1, .ref g2, .ref h5, .int v_isKept]), (h1, xO 0 [.ref h2, .ref g3, .int v_now_inForce, .int v_now_depth, .int v_now_miss, .long v_now_ring, .int v_now_steps, .int v_now_seed]), (h2, xO 2 [.ref h3, .ref h4, .int v_now_laws_count]), (h3, xI X 6 v_now_laws_kinds), (h4, xI X 6 v_now_laws_tunes), (h5, xI X 5 u3.2)]) (x_runV (q0 := 0) (rest := []) (As := [.int (-6 : Int32)]) hC mw_100 md_X6_refuse (c_X6_refuse (X := X) hf3) hH [0, 5] rfl (by decide) rfl rfl rfl hl.1 rfl rfl (Nat.le_of_ble_eq_true rfl) dX6_ring_27 ⟨Nat.le_of_ble_eq_true rfl, Nat.le_of_ble_eq_true rfl⟩ ⟨rfl, rfl⟩ ⟨Nat.le_refl _, Nat.le_refl _⟩) hH [0, 5] rfl rfl rfl rfl rfl (fun hz3 H locs hH => ?_)
    exact x_retiw (φ := fun _ => True) (f := fun u : Int32 × Int64 × Int32 × Int32 × (Nat → Int32) => u.1) (wf := fun u : Int32 × Int64 × Int32 × Int32 × (Nat → Int32) => [(h0, xO 6 [.ref h1, .ref g0, .ref g1, .ref g2, .ref h5, .int v_isKept]), (h1, xO 0 [.ref h2, .ref g3, .int v_now_inForce, .int v_now_depth, .int v_now_miss, .long u.2.1, .int u.2.2.1, .int u.2.2.2.1]), (h2, xO 2 [.ref h3, .ref h4, .int v_now_laws_count]), (h3, xI X 6 v_now_laws_kinds), (h4, xI X 6 v_now_laws_tunes), (h5, xI X 5 u.2.2.2.2)]) hC hr hlk trivial hf hH rfl rfl dX6_ring_30
  · have hf := xe c2 hf
    refine lv_aload_n hx hb dX6_ring_10 rfl (lv_at hl 0 rfl) ?_
    refine x_get hC fd_RX6_10 hH.1 0 rfl rfl dX6_ring_11 ?_
    refine lv_iload_n hx hb dX6_ring_14 rfl (lv_at hl 1 rfl) ?_
    obtain ⟨u4, hf4, hf⟩ := xb hf
    refine x_ranw (ws' := [(h0, xO 6 [.ref h1, .ref g0, .ref g1, .ref g2, .ref h5, .int v_isKept]), (h1, xO 0 [.ref h2, .ref g3, .int v_now_inForce, .int v_now_depth, .int v_now_miss, .long u4.2.1, .int u4.2.2.1, .int u4.2.2.2]), (h2, xO 2 [.ref h3, .ref h4, .int v_now_laws_count]), (h3, xI X 6 v_now_laws_kinds), (h4, xI X 6 v_now_laws_tunes), (h5, xI X 5 v_refusals)]) (x_runV (q0 := 0) (rest := []) (As := [.int p1]) hC mw_1288 md_X0_strikesInTruth (c_X0_strikesInTruth (X := X) hf4) hH [1, 2, 3, 4] rfl (by decide) rfl rfl rfl hl.1 rfl rfl (Nat.le_of_ble_eq_true rfl) dX6_ring_15 ⟨Nat.le_of_ble_eq_true rfl, Nat.le_of_ble_eq_true rfl⟩ ⟨rfl, rfl⟩ ⟨Nat.le_refl _, Nat.le_refl _⟩) hH [1, 2, 3, 4] rfl rfl rfl rfl rfl (fun hz4 H locs hH => ?_)
    obtain ⟨u5, hf5, hf⟩ := xb hf
    refine x_ran (x_runS (rest := []) (As := [.int u4.1]) hC mw_678 md_X6_asNumber (c_X6_asNumber (X := X) hf5) hH [] rfl (by decide) hl.1 rfl rfl (Nat.le_of_ble_eq_true rfl) dX6_ring_18 ⟨Nat.le_of_ble_eq_true rfl, Nat.le_of_ble_eq_true rfl⟩ ⟨rfl, rfl⟩ ⟨Nat.le_refl _, Nat.le_refl _⟩) rfl (fun hz5 => ?_)
    refine lv_goto (tgt := 30) hx hb dX6_ring_21 (by decide) ?_
    exact x_retiw (φ := fun _ => True) (f := fun u : Int32 × Int64 × Int32 × Int32 × (Nat → Int32) => u.1) (wf := fun u : Int32 × Int64 × Int32 × Int32 × (Nat → Int32) => [(h0, xO 6 [.ref h1, .ref g0, .ref g1, .ref g2, .ref h5, .int v_isKept]), (h1, xO 0 [.ref h2, .ref g3, .int v_now_inForce, .int v_now_depth, .int v_now_miss, .long u.2.1, .int u.2.2.1, .int u.2.2.2.1]), (h2, xO 2 [.ref h3, .ref h4, .int v_now_laws_count]), (h3, xI X 6 v_now_laws_kinds), (h4, xI X 6 v_now_laws_tunes), (h5, xI X 5 u.2.2.2.2)]) hC hr hlk trivial hf hH rfl rfl dX6_ring_30
def f_X6_days_J53 (v_now_inForce : Int32) (v_now_miss : Int32) (v_now_laws_count : Int32) (v_now_laws_kinds : (Nat → Int32)) (v_now_laws_tunes : (Nat → Int32)) (s21 : Int32 × Int32 × Int64 × Int32 × Int32) (j53_v_now_seed : Int32) (j53_s0 : Int32) : Option ((Int32 × Int64 × Int32 × Int32 × (Nat → Int32)) ⊕ (Int32 × Int32 × Int64 × Int32 × Int32)) :=
  (f_X0_strikesInTruth v_now_inForce v_now_miss s21.2.2.1 s21.2.2.2.1 j53_v_now_seed v_now_laws_count v_now_laws_kinds v_now_laws_tunes j53_s0).bind fun u8 =>
  (f_X6_asNumber u8.1).bind fun u9 =>
  some (.inr (s21.1 + u9, s21.2.1 + (nI 1), u8.2.1, u8.2.2.1, u8.2.2.2))
def f_X6_days_L21 (v_now_inForce : Int32) (v_now_miss : Int32) (v_now_laws_count : Int32) (v_now_laws_kinds : (Nat → Int32)) (v_now_laws_tunes : (Nat → Int32)) (v_refusals : (Nat → Int32)) (p1 : Int32) (s21 : Int32 × Int32 × Int64 × Int32 × Int32) : Option ((Int32 × Int64 × Int32 × Int32 × (Nat → Int32)) ⊕ (Int32 × Int32 × Int64 × Int32 × Int32)) :=
  if p1 ≤ s21.2.1 then
    some (.inl (s21.1, s21.2.2.1, s21.2.2.2.1, s21.2.2.2.2, v_refusals))
  else
  (f_X0_hasRoom s21.2.2.2.1).bind fun u4 =>
  if u4 = (nI 0) then
    some (.inl (s21.1, s21.2.2.1, s21.2.2.2.1, s21.2.2.2.2, v_refusals))
  else
  (f_X0_draw s21.2.2.2.2 (nI 2)).bind fun u6 =>
  if u6.1 = (nI 1) then
    f_X6_days_J53 v_now_inForce v_now_miss v_now_laws_count v_now_laws_kinds v_now_laws_tunes s21 u6.2 (nI 1)
  else
  f_X6_days_J53 v_now_inForce v_now_miss v_now_laws_count v_now_laws_kinds v_now_laws_tunes s21 u6.2 (nI 0)
def f_X6_days (v_now_inForce : Int32) (v_now_miss : Int32) (v_now_ring : Int64) (v_now_steps : Int32) (v_now_seed : Int32) (v_now_laws_count : Int32) (v_now_laws_kinds : (Nat → Int32)) (v_now_laws_tunes : (Nat → Int32)) (v_refusals : (Nat → Int32)) (p1 : Int32) : Option (Int32 × Int64 × Int32 × Int32 × (Nat → Int32)) :=
  (f_X6_isWithin p1 (nI 1) (nI 40)).bind fun u1 =>
  if u1 = (nI 0) then
    (f_X6_refuse v_refusals (-2 : Int32)).bind fun u10 =>
    some (u10.1, v_now_ring, v_now_steps, v_now_seed, u10.2)
  else
  xloop (f_X6_days_L21 v_now_inForce v_now_miss v_now_laws_count v_now_laws_kinds v_now_laws_tunes v_refusals p1) xN ((nI 0), (nI 0), v_now_ring, v_now_steps, v_now_seed)
set_option maxHeartbeats 4000000 in
set_option maxRecDepth 100000 in
theorem c_X6_days {l : Launch} {X : xG} {h0 h1 h2 h3 h4 h5 g0 g1 g2 g3 : Nat} {v_isKept : Int32} {v_now_inForce : Int32} {v_now_depth : Int32} {v_now_miss : Int32} {v_now_ring : Int64} {v_now_steps : Int32} {v_now_seed : Int32} {v_now_laws_count : Int32} {v_now_laws_kinds : (Nat → Int32)} {v_now_laws_tunes : (Nat → Int32)} {v_refusals : (Nat → Int32)} {p1 : Int32} {u : Int32 × Int64 × Int32 × Int32 × (Nat → Int32)} (hf : f_X6_days v_now_inForce v_now_miss v_now_ring v_now_steps v_now_seed v_now_laws_count v_now_laws_kinds v_now_laws_tunes v_refusals p1 = some u) : Met l yX6_days (xw yX6_days cX6_days 5 (some .int)) (xrm 5 116) (xPc [.ref h0, .int p1] X [(h0, xO 6 [.ref h1, .ref g0, .ref g1, .ref g2, .ref h5, .int v_isKept]), (h1, xO 0 [.ref h2, .ref g3, .int v_now_inForce, .int v_now_depth, .int v_now_miss, .long v_now_ring, .int v_now_steps, .int v_now_seed]), (h2, xO 2 [.ref h3, .ref h4, .int v_now_laws_count]), (h3, xI X 6 v_now_laws_kinds), (h4, xI X 6 v_now_laws_tunes), (h5, xI X 5 v_refusals)]) (xQw True (.returned (some (.int u.1))) X [(h0, xO 6 [.ref h1, .ref g0, .ref g1, .ref g2, .ref h5, .int v_isKept]), (h1, xO 0 [.ref h2, .ref g3, .int v_now_inForce, .int v_now_depth, .int v_now_miss, .long u.2.1, .int u.2.2.1, .int u.2.2.2.1]), (h2, xO 2 [.ref h3, .ref h4, .int v_now_laws_count]), (h3, xI X 6 v_now_laws_kinds), (h4, xI X 6 v_now_laws_tunes), (h5, xI X 5 u.2.2.2.2)] (xAs [(h0, xO 6 [.ref h1, .ref g0, .ref g1, .ref g2, .ref h5, .int v_isKept]), (h1, xO 0 [.ref h2, .ref g3, .int v_now_inForce, .int v_now_depth, .int v_now_miss, .long v_now_ring, .int v_now_steps, .int v_now_seed]), (h2, xO 2 [.ref h3, .ref h4, .int v_now_laws_count]), (h3, xI X 6 v_now_laws_kinds), (h4, xI X 6 v_now_laws_tunes), (h5, xI X 5 v_refusals)])) 0 0 (xAs [(h0, xO 6 [.ref h1, .ref g0, .ref g1, .ref g2, .ref h5, .int v_isKept]), (h1, xO 0 [.ref h2, .ref g3, .int v_now_inForce, .int v_now_depth, .int v_now_miss, .long v_now_ring, .int v_now_steps, .int v_now_seed]), (h2, xO 2 [.ref h3, .ref h4, .int v_now_laws_count]), (h3, xI X 6 v_now_laws_kinds), (h4, xI X 6 v_now_laws_tunes), (h5, xI X 5 v_refusals)]) := by
  refine xMetw (Qc := fun A => xQw True (.returned (some (.int u.1))) X [(h0, xO 6 [.ref h1, .ref g0, .ref g1, .ref g2, .ref h5, .int v_isKept]), (h1, xO 0 [.ref h2, .ref g3, .int v_now_inForce, .int v_now_depth, .int v_now_miss, .long u.2.1, .int u.2.2.1, .int u.2.2.2.1]), (h2, xO 2 [.ref h3, .ref h4, .int v_now_laws_count]), (h3, xI X 6 v_now_laws_kinds), (h4, xI X 6 v_now_laws_tunes), (h5, xI X 5 u.2.2.2.2)] A) (n := 1) md_X6_days.1 (Nat.le_of_ble_eq_true rfl) ?_
  intro p e s m args below meth c ls A hC hr hlk hH hl
  have hl : lv_has ls 5 [(0, .ref h0), (1, .int p1)] := hl
  have hx := hC.1
  have hb := hC.2.1
  have L21 : ∀ (n : Nat) (s21 : Int32 × Int32 × Int64 × Int32 × Int32), xloop (f_X6_days_L21 v_now_inForce v_now_miss v_now_laws_count v_now_laws_kinds v_now_laws_tunes v_refusals p1) n s21 = some u → ∀ (H : Heap) (locs : List Loc), xH X A [(h0, xO 6 [.ref h1, .ref g0, .ref g1, .ref g2, .ref h5, .int v_isKept]), (h1, xO 0 [.ref h2, .ref g3, .int v_now_inForce, .int v_now_depth, .int v_now_miss, .long s21.2.2.1, .int s21.2.2.2.1, .int s21.2.2.2.2]), (h2, xO 2 [.ref h3, .ref h4, .int v_now_laws_count]), (h3, xI X 6 v_now_laws_kinds), (h4, xI X 6 v_now_laws_tunes), (h5, xI X 5 v_refusals)] s.heap H locs → ∀ (ls : Array Slot), lv_has ls 5 [(0, .ref h0), (1, .int p1), (2, .int s21.1), (3, .int s21.2.1)] → W p l e (xrm 5 116) s m args below meth c H locs 0 0 (MQ below (xQw True (.returned (some (.int u.1))) X [(h0, xO 6 [.ref h1, .ref g0, .ref g1, .ref g2, .ref h5, .int v_isKept]), (h1, xO 0 [.ref h2, .ref g3, .int v_now_inForce, .int v_now_depth, .int v_now_miss, .long u.2.1, .int u.2.2.1, .int u.2.2.2.1]), (h2, xO 2 [.ref h3, .ref h4, .int v_now_laws_count]), (h3, xI X 6 v_now_laws_kinds), (h4, xI X 6 v_now_laws_tunes), (h5, xI X 5 u.2.2.2.2)] A) args s 0 0 A) (F0 m 21 ls []) := by
    intro  n
    induction n with
    | zero => intro s21 hf; exact xloop_0 hf
    | succ n ih21 =>
      intro s21 hf H locs hH ls hl
      obtain ⟨o21, hf, ho21⟩ := xloop_s hf
      have J53 : ∀ (j53_v_now_seed : Int32) (j53_s0 : Int32), f_X6_days_J53 v_now_inForce v_now_miss v_now_laws_count v_now_laws_kinds v_now_laws_tunes s21 j53_v_now_seed j53_s0 = some o21 → ∀ (H : Heap) (locs : List Loc), xH X A [(h0, xO 6 [.ref h1, .ref g0, .ref g1, .ref g2, .ref h5, .int v_isKept]), (h1, xO 0 [.ref h2, .ref g3, .int v_now_inForce, .int v_now_depth, .int v_now_miss, .long s21.2.2.1, .int s21.2.2.2.1, .int j53_v_now_seed]), (h2, xO 2 [.ref h3, .ref h4, .int v_now_laws_count]), (h3, xI X 6 v_now_laws_kinds), (h4, xI X 6 v_now_laws_tunes), (h5, xI X 5 v_refusals)] s.heap H locs → ∀ (ls : Array Slot), lv_has ls 5 [(0, .ref h0), (1, .int p1), (2, .int s21.1), (3, .int s21.2.1)] → W p l e (xrm 5 116) s m args below meth c H locs 0 0 (MQ below (xQw True (.returned (some (.int u.1))) X [(h0, xO 6 [.ref h1, .ref g0, .ref g1, .ref g2, .ref h5, .int v_isKept]), (h1, xO 0 [.ref h2, .ref g3, .int v_now_inForce, .int v_now_depth, .int v_now_miss, .long u.2.1, .int u.2.2.1, .int u.2.2.2.1]), (h2, xO 2 [.ref h3, .ref h4, .int v_now_laws_count]), (h3, xI X 6 v_now_laws_kinds), (h4, xI X 6 v_now_laws_tunes), (h5, xI X 5 u.2.2.2.2)] A) args s 0 0 A) (F0 m 53 ls [.int j53_s0]) := by
        intro j53_v_now_seed j53_s0 hf H locs hH ls hl
        refine lv_istore (lv' := [(4, .int j53_s0), (0, .ref h0), (1, .int p1), (2, .int s21.1), (3, .int s21.2.1)]) hx hb dX6_days_53 hl (by decide) rfl (fun ls hl => ?_)
        refine lv_iload_n hx hb dX6_days_55 rfl (lv_at hl 3 rfl) ?_
        refine lv_aload_n hx hb dX6_days_56 rfl (lv_at hl 1 rfl) ?_
        refine x_get hC fd_RX6_10 hH.1 0 rfl rfl dX6_days_57 ?_
        refine lv_iload hx hb dX6_days_60 (lv_at hl 0 rfl) ?_
        obtain ⟨u8, hf8, hf⟩ := xb hf
        refine x_ranw (ws' := [(h0, xO 6 [.ref h1, .ref g0, .ref g1, .ref g2, .ref h5, .int v_isKept]), (h1, xO 0 [.ref h2, .ref g3, .int v_now_inForce, .int v_now_depth, .int v_now_miss, .long u8.2.1, .int u8.2.2.1, .int u8.2.2.2]), (h2, xO 2 [.ref h3, .ref h4, .int v_now_laws_count]), (h3, xI X 6 v_now_laws_kinds), (h4, xI X 6 v_now_laws_tunes), (h5, xI X 5 v_refusals)]) (x_runV (q0 := 0) (rest := [.int s21.1]) (As := [.int j53_s0]) hC mw_1288 md_X0_strikesInTruth (c_X0_strikesInTruth (X := X) hf8) hH [1, 2, 3, 4] rfl (by decide) rfl rfl rfl hl.1 rfl rfl (Nat.le_of_ble_eq_true rfl) dX6_days_62 ⟨Nat.le_of_ble_eq_true rfl, Nat.le_of_ble_eq_true rfl⟩ ⟨rfl, rfl⟩ ⟨Nat.le_refl _, Nat.le_refl _⟩) hH [1, 2, 3, 4] rfl rfl rfl rfl rfl (fun hz8 H locs hH => ?_)
        obtain ⟨u9, hf9, hf⟩ := xb hf
        refine x_ran (x_runS (rest := [.int s21.1]) (As := [.int u8.1]) hC mw_678 md_X6_asNumber (c_X6_asNumber (X := X) hf9) hH [] rfl (by decide) hl.1 rfl rfl (Nat.le_of_ble_eq_true rfl) dX6_days_65 ⟨Nat.le_of_ble_eq_true rfl, Nat.le_of_ble_eq_true rfl⟩ ⟨rfl, rfl⟩ ⟨Nat.le_refl _, Nat.le_refl _⟩) rfl (fun hz9 => ?_)
        refine lv_iadd hx hb dX6_days_68 ?_
        refine lv_istore_n (lv' := [(2, .int (s21.1 + u9)), (4, .int j53_s0), (0, .ref h0), (1, .int p1), (3, .int s21.2.1)]) hx hb dX6_days_69 rfl hl (by decide) rfl (fun ls hl => ?_)
        refine lv_iinc (v := s21.2.1 + (nI 1)) (lv' := [(3, .int (s21.2.1 + (nI 1))), (2, .int (s21.1 + u9)), (4, .int j53_s0), (0, .ref h0), (1, .int p1)]) hx hb dX6_days_70 hl (k := 4) rfl rfl (by decide) rfl (fun ls hl => ?_)
        refine lv_goto (tgt := 21) hx hb dX6_days_73 (by decide) ?_
        have hf := xo_go hf ho21
        exact ih21 (s21.1 + u9, s21.2.1 + (nI 1), u8.2.1, u8.2.2.1, u8.2.2.2) hf _ _ hH ls (lv_sub hl [3, 4, 1, 0] rfl)
      refine lv_iload_n hx hb dX6_days_21 rfl (lv_at hl 3 rfl) ?_
      refine lv_iload_n hx hb dX6_days_22 rfl (lv_at hl 1 rfl) ?_
      refine lv_icmp_ge (tgt := 76) hx hb dX6_days_23 (by decide) (fun c3 => ?_) (fun c3 => ?_)
      · have hf := xt c3 hf
        refine lv_iload_n hx hb dX6_days_76 rfl (lv_at hl 2 rfl) ?_
        have hf := xo_ret hf ho21
        exact x_retiw (φ := fun _ => True) (f := fun u : Int32 × Int64 × Int32 × Int32 × (Nat → Int32) => u.1) (wf := fun u : Int32 × Int64 × Int32 × Int32 × (Nat → Int32) => [(h0, xO 6 [.ref h1, .ref g0, .ref g1, .ref g2, .ref h5, .int v_isKept]), (h1, xO 0 [.ref h2, .ref g3, .int v_now_inForce, .int v_now_depth, .int v_now_miss, .long u.2.1, .int u.2.2.1, .int u.2.2.2.1]), (h2, xO 2 [.ref h3, .ref h4, .int v_now_laws_count]), (h3, xI X 6 v_now_laws_kinds), (h4, xI X 6 v_now_laws_tunes), (h5, xI X 5 u.2.2.2.2)]) hC hr hlk trivial hf hH rfl rfl dX6_days_77
      · have hf := xe c3 hf
        refine lv_aload_n hx hb dX6_days_26 rfl (lv_at hl 0 rfl) ?_
        refine x_get hC fd_RX6_10 hH.1 0 rfl rfl dX6_days_27 ?_
        obtain ⟨u4, hf4, hf⟩ := xb hf
        refine x_ran (x_runV (q0 := 0) (rest := []) (As := []) hC mw_1046 md_X0_hasRoom (c_X0_hasRoom (X := X) hf4) hH [1] rfl (by decide) rfl rfl rfl hl.1 rfl rfl (Nat.le_of_ble_eq_true rfl) dX6_days_30 ⟨Nat.le_of_ble_eq_true rfl, Nat.le_of_ble_eq_true rfl⟩ ⟨rfl, rfl⟩ ⟨Nat.le_refl _, Nat.le_refl _⟩) rfl (fun hz4 => ?_)
        refine lv_if_eq (tgt := 76) hx hb dX6_days_33 (by decide) (fun c5 => ?_) (fun c5 => ?_)
        · have hf := xt c5 hf
          refine lv_iload_n hx hb dX6_days_76 rfl (lv_at hl 2 rfl) ?_
          have hf := xo_ret hf ho21
          exact x_retiw (φ := fun _ => True) (f := fun u : Int32 × Int64 × Int32 × Int32 × (Nat → Int32) => u.1) (wf := fun u : Int32 × Int64 × Int32 × Int32 × (Nat → Int32) => [(h0, xO 6 [.ref h1, .ref g0, .ref g1, .ref g2, .ref h5, .int v_isKept]), (h1, xO 0 [.ref h2, .ref g3, .int v_now_inForce, .int v_now_depth, .int v_now_miss, .long u.2.1, .int u.2.2.1, .int u.2.2.2.1]), (h2, xO 2 [.ref h3, .ref h4, .int v_now_laws_count]), (h3, xI X 6 v_now_laws_kinds), (h4, xI X 6 v_now_laws_tunes), (h5, xI X 5 u.2.2.2.2)]) hC hr hlk trivial hf hH rfl rfl dX6_days_77
        · have hf := xe c5 hf
          refine lv_aload_n hx hb dX6_days_36 rfl (lv_at hl 0 rfl) ?_
          refine x_get hC fd_RX6_10 hH.1 0 rfl rfl dX6_days_37 ?_
          refine lv_iconst (v := (nI 2)) hx hb dX6_days_40 (by decide) ?_
          obtain ⟨u6, hf6, hf⟩ := xb hf
          refine x_ranw (ws' := [(h0, xO 6 [.ref h1, .ref g0, .ref g1, .ref g2, .ref h5, .int v_isKept]), (h1, xO 0 [.ref h2, .ref g3, .int v_now_inForce, .int v_now_depth, .int v_now_miss, .long s21.2.2.1, .int s21.2.2.2.1, .int u6.2]), (h2, xO 2 [.ref h3, .ref h4, .int v_now_laws_count]), (h3, xI X 6 v_now_laws_kinds), (h4, xI X 6 v_now_laws_tunes), (h5, xI X 5 v_refusals)]) (x_runV (q0 := 0) (rest := []) (As := [.int (nI 2)]) hC mw_1316 md_X0_draw (c_X0_draw (X := X) hf6) hH [1] rfl (by decide) rfl rfl rfl hl.1 rfl rfl (Nat.le_of_ble_eq_true rfl) dX6_days_41 ⟨Nat.le_of_ble_eq_true rfl, Nat.le_of_ble_eq_true rfl⟩ ⟨rfl, rfl⟩ ⟨Nat.le_refl _, Nat.le_refl _⟩) hH [1] rfl rfl rfl rfl rfl (fun hz6 H locs hH => ?_)
          refine lv_iconst (v := (nI 1)) hx hb dX6_days_44 (by decide) ?_
          refine lv_icmp_ne (tgt := 52) hx hb dX6_days_45 (by decide) (fun c7 => ?_) (fun c7 => ?_)
          · have hf := xe c7 hf
            refine lv_iconst (v := (nI 0)) hx hb dX6_days_52 (by decide) ?_
            exact J53 u6.2 (nI 0) hf _ _ hH ls (lv_sub hl [0, 1, 2, 3] rfl)
          · have hf := xt c7 hf
            refine lv_iconst (v := (nI 1)) hx hb dX6_days_48 (by decide) ?_
            refine lv_goto (tgt := 53) hx hb dX6_days_49 (by decide) ?_
            exact J53 u6.2 (nI 1) hf _ _ hH ls (lv_sub hl [0, 1, 2, 3] rfl)
  refine lv_iload_n hx hb dX6_days_0 rfl (lv_at hl 1 rfl) ?_
  refine lv_iconst (v := (nI 1)) hx hb dX6_days_1 (by decide) ?_
  refine lv_bipush (v := (nI 40)) hx hb dX6_days_2 (by decide) ?_
  obtain ⟨u1, hf1, hf⟩ := xb hf
  refine x_ran (x_runS (rest := []) (As := [.int p1, .int (nI 1), .int (nI 40)]) hC mw_99 md_X6_isWithin (c_X6_isWithin (X := X) hf1) hH [] rfl (by decide) hl.1 rfl rfl (Nat.le_of_ble_eq_true rfl) dX6_days_4 ⟨Nat.le_of_ble_eq_true rfl, Nat.le_of_ble_eq_true rfl⟩ ⟨rfl, rfl⟩ ⟨Nat.le_refl _, Nat.le_refl _⟩) rfl (fun hz1 => ?_)
  refine lv_if_ne (tgt := 17) hx hb dX6_days_7 (by decide) (fun c2 => ?_) (fun c2 => ?_)
  · have hf := xe c2 hf
    refine lv_iconst (v := (nI 0)) hx hb dX6_days_17 (by decide) ?_
    refine lv_istore_n (lv' := [(2, .int (nI 0)), (0, .ref h0), (1, .int p1)]) hx hb dX6_days_18 rfl hl (by decide) rfl (fun ls hl => ?_)
    refine lv_iconst (v := (nI 0)) hx hb dX6_days_19 (by decide) ?_
    refine lv_istore_n (lv' := [(3, .int (nI 0)), (2, .int (nI 0)), (0, .ref h0), (1, .int p1)]) hx hb dX6_days_20 rfl hl (by decide) rfl (fun ls hl => ?_)
    exact L21 xN ((nI 0), (nI 0), v_now_ring, v_now_steps, v_now_seed) hf _ _ hH ls (lv_sub hl [2, 3, 1, 0] rfl)
  · have hf := xt c2 hf
    refine lv_aload_n hx hb dX6_days_10 rfl (lv_at hl 0 rfl) ?_
    refine lv_bipush (v := (-2 : Int32)) hx hb dX6_days_11 (by decide) ?_
    obtain ⟨u10, hf10, hf⟩ := xb hf
    refine x_ranw (ws' := [(h0, xO 6 [.ref h1, .ref g0, .ref g1, .ref g2, .ref h5, .int v_isKept]), (h1, xO 0 [.ref h2, .ref g3, .int v_now_inForce, .int v_now_depth, .int v_now_miss, .long v_now_ring, .int v_now_steps, .int v_now_seed]), (h2, xO 2 [.ref h3, .ref h4, .int v_now_laws_count]), (h3, xI X 6 v_now_laws_kinds), (h4, xI X 6 v_now_laws_tunes), (h5, xI X 5 u10.2)]) (x_runV (q0 := 0) (rest := []) (As := [.int (-2 : Int32)]) hC mw_100 md_X6_refuse (c_X6_refuse (X := X) hf10) hH [0, 5] rfl (by decide) rfl rfl rfl hl.1 rfl rfl (Nat.le_of_ble_eq_true rfl) dX6_days_13 ⟨Nat.le_of_ble_eq_true rfl, Nat.le_of_ble_eq_true rfl⟩ ⟨rfl, rfl⟩ ⟨Nat.le_refl _, Nat.le_refl _⟩) hH [0, 5] rfl rfl rfl rfl rfl (fun hz10 H locs hH => ?_)
    exact x_retiw (φ := fun _ => True) (f := fun u : Int32 × Int64 × Int32 × Int32 × (Nat → Int32) => u.1) (wf := fun u : Int32 × Int64 × Int32 × Int32 × (Nat → Int32) => [(h0, xO 6 [.ref h1, .ref g0, .ref g1, .ref g2, .ref h5, .int v_isKept]), (h1, xO 0 [.ref h2, .ref g3, .int v_now_inForce, .int v_now_depth, .int v_now_miss, .long u.2.1, .int u.2.2.1, .int u.2.2.2.1]), (h2, xO 2 [.ref h3, .ref h4, .int v_now_laws_count]), (h3, xI X 6 v_now_laws_kinds), (h4, xI X 6 v_now_laws_tunes), (h5, xI X 5 u.2.2.2.2)]) hC hr hlk trivial hf hH rfl rfl dX6_days_16
def f_X6_turn (v_now_inForce : Int32) (v_now_ring : Int64) (v_now_steps : Int32) (v_now_laws_count : Int32) (v_now_laws_kinds : (Nat → Int32)) (v_now_laws_tunes : (Nat → Int32)) : Option (Int32 × Int64) :=
  (f_X0_turnedAbout v_now_ring v_now_steps).bind fun u1 =>
  (f_X0_timesStruck v_now_steps v_now_laws_count v_now_laws_kinds v_now_laws_tunes v_now_inForce u1).bind fun u2 =>
  some (u2, u1)
set_option maxHeartbeats 4000000 in
set_option maxRecDepth 100000 in
theorem c_X6_turn {l : Launch} {X : xG} {h0 h1 h2 h3 h4 g0 g1 g2 g3 g4 : Nat} {v_isKept : Int32} {v_now_inForce : Int32} {v_now_depth : Int32} {v_now_miss : Int32} {v_now_ring : Int64} {v_now_steps : Int32} {v_now_seed : Int32} {v_now_laws_count : Int32} {v_now_laws_kinds : (Nat → Int32)} {v_now_laws_tunes : (Nat → Int32)} {u : Int32 × Int64} (hf : f_X6_turn v_now_inForce v_now_ring v_now_steps v_now_laws_count v_now_laws_kinds v_now_laws_tunes = some u) : Met l yX6_turn (xw yX6_turn cX6_turn 1 (some .int)) (xrm 6 148) (xPc [.ref h0] X [(h0, xO 6 [.ref h1, .ref g0, .ref g1, .ref g2, .ref g3, .int v_isKept]), (h1, xO 0 [.ref h2, .ref g4, .int v_now_inForce, .int v_now_depth, .int v_now_miss, .long v_now_ring, .int v_now_steps, .int v_now_seed]), (h2, xO 2 [.ref h3, .ref h4, .int v_now_laws_count]), (h3, xI X 6 v_now_laws_kinds), (h4, xI X 6 v_now_laws_tunes)]) (xQw True (.returned (some (.int u.1))) X [(h0, xO 6 [.ref h1, .ref g0, .ref g1, .ref g2, .ref g3, .int v_isKept]), (h1, xO 0 [.ref h2, .ref g4, .int v_now_inForce, .int v_now_depth, .int v_now_miss, .long u.2, .int v_now_steps, .int v_now_seed]), (h2, xO 2 [.ref h3, .ref h4, .int v_now_laws_count]), (h3, xI X 6 v_now_laws_kinds), (h4, xI X 6 v_now_laws_tunes)] (xAs [(h0, xO 6 [.ref h1, .ref g0, .ref g1, .ref g2, .ref g3, .int v_isKept]), (h1, xO 0 [.ref h2, .ref g4, .int v_now_inForce, .int v_now_depth, .int v_now_miss, .long v_now_ring, .int v_now_steps, .int v_now_seed]), (h2, xO 2 [.ref h3, .ref h4, .int v_now_laws_count]), (h3, xI X 6 v_now_laws_kinds), (h4, xI X 6 v_now_laws_tunes)])) 0 0 (xAs [(h0, xO 6 [.ref h1, .ref g0, .ref g1, .ref g2, .ref g3, .int v_isKept]), (h1, xO 0 [.ref h2, .ref g4, .int v_now_inForce, .int v_now_depth, .int v_now_miss, .long v_now_ring, .int v_now_steps, .int v_now_seed]), (h2, xO 2 [.ref h3, .ref h4, .int v_now_laws_count]), (h3, xI X 6 v_now_laws_kinds), (h4, xI X 6 v_now_laws_tunes)]) := by
  refine xMetw (Qc := fun A => xQw True (.returned (some (.int u.1))) X [(h0, xO 6 [.ref h1, .ref g0, .ref g1, .ref g2, .ref g3, .int v_isKept]), (h1, xO 0 [.ref h2, .ref g4, .int v_now_inForce, .int v_now_depth, .int v_now_miss, .long u.2, .int v_now_steps, .int v_now_seed]), (h2, xO 2 [.ref h3, .ref h4, .int v_now_laws_count]), (h3, xI X 6 v_now_laws_kinds), (h4, xI X 6 v_now_laws_tunes)] A) (n := 0) md_X6_turn.1 (Nat.le_of_ble_eq_true rfl) ?_
  intro p e s m args below meth c ls A hC hr hlk hH hl
  have hl : lv_has ls 1 [(0, .ref h0)] := hl
  have hx := hC.1
  have hb := hC.2.1
  refine lv_aload_n hx hb dX6_turn_0 rfl (lv_at hl 0 rfl) ?_
  refine x_get hC fd_RX6_10 hH.1 0 rfl rfl dX6_turn_1 ?_
  refine lv_aload_n hx hb dX6_turn_4 rfl (lv_at hl 0 rfl) ?_
  refine x_get hC fd_RX6_10 hH.1 0 rfl rfl dX6_turn_5 ?_
  obtain ⟨u1, hf1, hf⟩ := xb hf
  refine x_ran (x_runV (q0 := 0) (rest := [.ref h1]) (As := []) hC mw_809 md_X0_turnedAbout (c_X0_turnedAbout (X := X) hf1) hH [1] rfl (by decide) rfl rfl rfl hl.1 rfl rfl (Nat.le_of_ble_eq_true rfl) dX6_turn_8 ⟨Nat.le_of_ble_eq_true rfl, Nat.le_of_ble_eq_true rfl⟩ ⟨rfl, rfl⟩ ⟨Nat.le_refl _, Nat.le_refl _⟩) rfl (fun hz1 => ?_)
  refine x_putN (ws' := [(h0, xO 6 [.ref h1, .ref g0, .ref g1, .ref g2, .ref g3, .int v_isKept]), (h1, xO 0 [.ref h2, .ref g4, .int v_now_inForce, .int v_now_depth, .int v_now_miss, .long u1, .int v_now_steps, .int v_now_seed]), (h2, xO 2 [.ref h3, .ref h4, .int v_now_laws_count]), (h3, xI X 6 v_now_laws_kinds), (h4, xI X 6 v_now_laws_tunes)]) hC fd_RX6_120 hH 1 rfl (Nat.le_of_ble_eq_true rfl) rfl rfl dX6_turn_11 rfl (fun H locs hH => ?_)
  refine lv_aload_n hx hb dX6_turn_14 rfl (lv_at hl 0 rfl) ?_
  refine x_get hC fd_RX6_10 hH.1 0 rfl rfl dX6_turn_15 ?_
  refine lv_aload_n hx hb dX6_turn_18 rfl (lv_at hl 0 rfl) ?_
  refine x_get hC fd_RX6_10 hH.1 0 rfl rfl dX6_turn_19 ?_
  refine x_getN hC fd_RX6_135 hH.1 1 rfl rfl dX6_turn_22 ?_
  refine lv_aload_n hx hb dX6_turn_25 rfl (lv_at hl 0 rfl) ?_
  refine x_get hC fd_RX6_10 hH.1 0 rfl rfl dX6_turn_26 ?_
  refine x_getN hC fd_RX6_120 hH.1 1 rfl rfl dX6_turn_29 ?_
  obtain ⟨u2, hf2, hf⟩ := xb hf
  refine x_ran (x_runV (q0 := 0) (rest := []) (As := [.int v_now_inForce, .long u1]) hC mw_269 md_X0_timesStruck (c_X0_timesStruck (X := X) hf2) hH [1, 2, 3, 4] rfl (by decide) rfl rfl rfl hl.1 rfl rfl (Nat.le_of_ble_eq_true rfl) dX6_turn_32 ⟨Nat.le_of_ble_eq_true rfl, Nat.le_of_ble_eq_true rfl⟩ ⟨rfl, rfl⟩ ⟨Nat.le_refl _, Nat.le_refl _⟩) rfl (fun hz2 => ?_)
  exact x_retiw (φ := fun _ => True) (f := fun u : Int32 × Int64 => u.1) (wf := fun u : Int32 × Int64 => [(h0, xO 6 [.ref h1, .ref g0, .ref g1, .ref g2, .ref g3, .int v_isKept]), (h1, xO 0 [.ref h2, .ref g4, .int v_now_inForce, .int v_now_depth, .int v_now_miss, .long u.2, .int v_now_steps, .int v_now_seed]), (h2, xO 2 [.ref h3, .ref h4, .int v_now_laws_count]), (h3, xI X 6 v_now_laws_kinds), (h4, xI X 6 v_now_laws_tunes)]) hC hr hlk trivial hf hH rfl rfl dX6_turn_35
def f_X6_change (v_now_ring : Int64) (v_now_steps : Int32) (v_refusals : (Nat → Int32)) (p1 : Int32) : Option (Int32 × Int64 × (Nat → Int32)) :=
  (f_X6_isStep v_now_steps p1).bind fun u1 =>
  if u1 = (nI 0) then
    (f_X6_refuse v_refusals (-2 : Int32)).bind fun u5 =>
    some (u5.1, v_now_ring, u5.2)
  else
  (f_X6_isIn (v_now_ring ^^^ (xlshl (lN 1) p1)) p1).bind fun u3 =>
  (f_X6_asNumber u3).bind fun u4 =>
  some (u4, v_now_ring ^^^ (xlshl (lN 1) p1), v_refusals)
set_option maxHeartbeats 4000000 in
set_option maxRecDepth 100000 in
theorem c_X6_change {l : Launch} {X : xG} {h0 h1 h2 g0 g1 g2 g3 g4 : Nat} {v_isKept : Int32} {v_now_inForce : Int32} {v_now_depth : Int32} {v_now_miss : Int32} {v_now_ring : Int64} {v_now_steps : Int32} {v_now_seed : Int32} {v_refusals : (Nat → Int32)} {p1 : Int32} {u : Int32 × Int64 × (Nat → Int32)} (hf : f_X6_change v_now_ring v_now_steps v_refusals p1 = some u) : Met l yX6_change (xw yX6_change cX6_change 2 (some .int)) (xrm 2 43) (xPc [.ref h0, .int p1] X [(h0, xO 6 [.ref h1, .ref g0, .ref g1, .ref g2, .ref h2, .int v_isKept]), (h1, xO 0 [.ref g3, .ref g4, .int v_now_inForce, .int v_now_depth, .int v_now_miss, .long v_now_ring, .int v_now_steps, .int v_now_seed]), (h2, xI X 5 v_refusals)]) (xQw True (.returned (some (.int u.1))) X [(h0, xO 6 [.ref h1, .ref g0, .ref g1, .ref g2, .ref h2, .int v_isKept]), (h1, xO 0 [.ref g3, .ref g4, .int v_now_inForce, .int v_now_depth, .int v_now_miss, .long u.2.1, .int v_now_steps, .int v_now_seed]), (h2, xI X 5 u.2.2)] (xAs [(h0, xO 6 [.ref h1, .ref g0, .ref g1, .ref g2, .ref h2, .int v_isKept]), (h1, xO 0 [.ref g3, .ref g4, .int v_now_inForce, .int v_now_depth, .int v_now_miss, .long v_now_ring, .int v_now_steps, .int v_now_seed]), (h2, xI X 5 v_refusals)])) 0 0 (xAs [(h0, xO 6 [.ref h1, .ref g0, .ref g1, .ref g2, .ref h2, .int v_isKept]), (h1, xO 0 [.ref g3, .ref g4, .int v_now_inForce, .int v_now_depth, .int v_now_miss, .long v_now_ring, .int v_now_steps, .int v_now_seed]), (h2, xI X 5 v_refusals)]) := by
  refine xMetw (Qc := fun A => xQw True (.returned (some (.int u.1))) X [(h0, xO 6 [.ref h1, .ref g0, .ref g1, .ref g2, .ref h2, .int v_isKept]), (h1, xO 0 [.ref g3, .ref g4, .int v_now_inForce, .int v_now_depth, .int v_now_miss, .long u.2.1, .int v_now_steps, .int v_now_seed]), (h2, xI X 5 u.2.2)] A) (n := 1) md_X6_change.1 (Nat.le_of_ble_eq_true rfl) ?_
  intro p e s m args below meth c ls A hC hr hlk hH hl
  have hl : lv_has ls 2 [(0, .ref h0), (1, .int p1)] := hl
  have hx := hC.1
  have hb := hC.2.1
  refine lv_aload_n hx hb dX6_change_0 rfl (lv_at hl 0 rfl) ?_
  refine lv_iload_n hx hb dX6_change_1 rfl (lv_at hl 1 rfl) ?_
  obtain ⟨u1, hf1, hf⟩ := xb hf
  refine x_ran (x_runV (q0 := 0) (rest := []) (As := [.int p1]) hC mw_673 md_X6_isStep (c_X6_isStep (X := X) hf1) hH [0, 1] rfl (by decide) rfl rfl rfl hl.1 rfl rfl (Nat.le_of_ble_eq_true rfl) dX6_change_2 ⟨Nat.le_of_ble_eq_true rfl, Nat.le_of_ble_eq_true rfl⟩ ⟨rfl, rfl⟩ ⟨Nat.le_refl _, Nat.le_refl _⟩) rfl (fun hz1 => ?_)
  refine lv_if_ne (tgt := 15) hx hb dX6_change_5 (by decide) (fun c2 => ?_) (fun c2 => ?_)
  · have hf := xe c2 hf
    refine lv_aload_n hx hb dX6_change_15 rfl (lv_at hl 0 rfl) ?_
    refine x_get hC fd_RX6_10 hH.1 0 rfl rfl dX6_change_16 ?_
    refine lv_dup hx hb dX6_change_19 rfl ?_
    refine x_getN hC fd_RX6_120 hH.1 1 rfl rfl dX6_change_20 ?_
    refine lv_lconst (v := (lN 1)) hx hb dX6_change_23 (by decide) ?_
    refine lv_iload_n hx hb dX6_change_24 rfl (lv_at hl 1 rfl) ?_
    refine x_lshl hx hb dX6_change_25 ?_
    refine lv_lxor hx hb dX6_change_26 ?_
    refine x_putN (ws' := [(h0, xO 6 [.ref h1, .ref g0, .ref g1, .ref g2, .ref h2, .int v_isKept]), (h1, xO 0 [.ref g3, .ref g4, .int v_now_inForce, .int v_now_depth, .int v_now_miss, .long (v_now_ring ^^^ (xlshl (lN 1) p1)), .int v_now_steps, .int v_now_seed]), (h2, xI X 5 v_refusals)]) hC fd_RX6_120 hH 1 rfl (Nat.le_of_ble_eq_true rfl) rfl rfl dX6_change_27 rfl (fun H locs hH => ?_)
    refine lv_aload_n hx hb dX6_change_30 rfl (lv_at hl 0 rfl) ?_
    refine x_get hC fd_RX6_10 hH.1 0 rfl rfl dX6_change_31 ?_
    refine x_getN hC fd_RX6_120 hH.1 1 rfl rfl dX6_change_34 ?_
    refine lv_iload_n hx hb dX6_change_37 rfl (lv_at hl 1 rfl) ?_
    obtain ⟨u3, hf3, hf⟩ := xb hf
    refine x_ran (x_runS (rest := []) (As := [.long (v_now_ring ^^^ (xlshl (lN 1) p1)), .int p1]) hC mw_677 md_X6_isIn (c_X6_isIn (X := X) hf3) hH [] rfl (by decide) hl.1 rfl rfl (Nat.le_of_ble_eq_true rfl) dX6_change_38 ⟨Nat.le_of_ble_eq_true rfl, Nat.le_of_ble_eq_true rfl⟩ ⟨rfl, rfl⟩ ⟨Nat.le_refl _, Nat.le_refl _⟩) rfl (fun hz3 => ?_)
    obtain ⟨u4, hf4, hf⟩ := xb hf
    refine x_ran (x_runS (rest := []) (As := [.int u3]) hC mw_678 md_X6_asNumber (c_X6_asNumber (X := X) hf4) hH [] rfl (by decide) hl.1 rfl rfl (Nat.le_of_ble_eq_true rfl) dX6_change_41 ⟨Nat.le_of_ble_eq_true rfl, Nat.le_of_ble_eq_true rfl⟩ ⟨rfl, rfl⟩ ⟨Nat.le_refl _, Nat.le_refl _⟩) rfl (fun hz4 => ?_)
    exact x_retiw (φ := fun _ => True) (f := fun u : Int32 × Int64 × (Nat → Int32) => u.1) (wf := fun u : Int32 × Int64 × (Nat → Int32) => [(h0, xO 6 [.ref h1, .ref g0, .ref g1, .ref g2, .ref h2, .int v_isKept]), (h1, xO 0 [.ref g3, .ref g4, .int v_now_inForce, .int v_now_depth, .int v_now_miss, .long u.2.1, .int v_now_steps, .int v_now_seed]), (h2, xI X 5 u.2.2)]) hC hr hlk trivial hf hH rfl rfl dX6_change_44
  · have hf := xt c2 hf
    refine lv_aload_n hx hb dX6_change_8 rfl (lv_at hl 0 rfl) ?_
    refine lv_bipush (v := (-2 : Int32)) hx hb dX6_change_9 (by decide) ?_
    obtain ⟨u5, hf5, hf⟩ := xb hf
    refine x_ranw (ws' := [(h0, xO 6 [.ref h1, .ref g0, .ref g1, .ref g2, .ref h2, .int v_isKept]), (h1, xO 0 [.ref g3, .ref g4, .int v_now_inForce, .int v_now_depth, .int v_now_miss, .long v_now_ring, .int v_now_steps, .int v_now_seed]), (h2, xI X 5 u5.2)]) (x_runV (q0 := 0) (rest := []) (As := [.int (-2 : Int32)]) hC mw_100 md_X6_refuse (c_X6_refuse (X := X) hf5) hH [0, 2] rfl (by decide) rfl rfl rfl hl.1 rfl rfl (Nat.le_of_ble_eq_true rfl) dX6_change_11 ⟨Nat.le_of_ble_eq_true rfl, Nat.le_of_ble_eq_true rfl⟩ ⟨rfl, rfl⟩ ⟨Nat.le_refl _, Nat.le_refl _⟩) hH [0, 2] rfl rfl rfl rfl rfl (fun hz5 H locs hH => ?_)
    exact x_retiw (φ := fun _ => True) (f := fun u : Int32 × Int64 × (Nat → Int32) => u.1) (wf := fun u : Int32 × Int64 × (Nat → Int32) => [(h0, xO 6 [.ref h1, .ref g0, .ref g1, .ref g2, .ref h2, .int v_isKept]), (h1, xO 0 [.ref g3, .ref g4, .int v_now_inForce, .int v_now_depth, .int v_now_miss, .long u.2.1, .int v_now_steps, .int v_now_seed]), (h2, xI X 5 u.2.2)]) hC hr hlk trivial hf hH rfl rfl dX6_change_14
def f_X6_cut (v_now_ring : Int64) (v_now_steps : Int32) (v_refusals : (Nat → Int32)) (p1 : Int32) : Option (Int32 × Int64 × Int32 × (Nat → Int32)) :=
  (f_X6_isWithin p1 (nI 1) (nI 40)).bind fun u1 =>
  if u1 = (nI 0) then
    (f_X6_refuse v_refusals (-2 : Int32)).bind fun u6 =>
    some (u6.1, v_now_ring, v_now_steps, u6.2)
  else
  if p1 ≤ v_now_steps then
    (f_X6_firstBits (v_now_steps - p1)).bind fun u4 =>
    some (v_now_steps - p1, v_now_ring &&& u4, v_now_steps - p1, v_refusals)
  else
  (f_X6_refuse v_refusals (-5 : Int32)).bind fun u5 =>
  some (u5.1, v_now_ring, v_now_steps, u5.2)
set_option maxHeartbeats 4000000 in
set_option maxRecDepth 100000 in
theorem c_X6_cut {l : Launch} {X : xG} {h0 h1 h2 g0 g1 g2 g3 g4 : Nat} {v_isKept : Int32} {v_now_inForce : Int32} {v_now_depth : Int32} {v_now_miss : Int32} {v_now_ring : Int64} {v_now_steps : Int32} {v_now_seed : Int32} {v_refusals : (Nat → Int32)} {p1 : Int32} {u : Int32 × Int64 × Int32 × (Nat → Int32)} (hf : f_X6_cut v_now_ring v_now_steps v_refusals p1 = some u) : Met l yX6_cut (xw yX6_cut cX6_cut 2 (some .int)) (xrm 1 22) (xPc [.ref h0, .int p1] X [(h0, xO 6 [.ref h1, .ref g0, .ref g1, .ref g2, .ref h2, .int v_isKept]), (h1, xO 0 [.ref g3, .ref g4, .int v_now_inForce, .int v_now_depth, .int v_now_miss, .long v_now_ring, .int v_now_steps, .int v_now_seed]), (h2, xI X 5 v_refusals)]) (xQw True (.returned (some (.int u.1))) X [(h0, xO 6 [.ref h1, .ref g0, .ref g1, .ref g2, .ref h2, .int v_isKept]), (h1, xO 0 [.ref g3, .ref g4, .int v_now_inForce, .int v_now_depth, .int v_now_miss, .long u.2.1, .int u.2.2.1, .int v_now_seed]), (h2, xI X 5 u.2.2.2)] (xAs [(h0, xO 6 [.ref h1, .ref g0, .ref g1, .ref g2, .ref h2, .int v_isKept]), (h1, xO 0 [.ref g3, .ref g4, .int v_now_inForce, .int v_now_depth, .int v_now_miss, .long v_now_ring, .int v_now_steps, .int v_now_seed]), (h2, xI X 5 v_refusals)])) 0 0 (xAs [(h0, xO 6 [.ref h1, .ref g0, .ref g1, .ref g2, .ref h2, .int v_isKept]), (h1, xO 0 [.ref g3, .ref g4, .int v_now_inForce, .int v_now_depth, .int v_now_miss, .long v_now_ring, .int v_now_steps, .int v_now_seed]), (h2, xI X 5 v_refusals)]) := by
  refine xMetw (Qc := fun A => xQw True (.returned (some (.int u.1))) X [(h0, xO 6 [.ref h1, .ref g0, .ref g1, .ref g2, .ref h2, .int v_isKept]), (h1, xO 0 [.ref g3, .ref g4, .int v_now_inForce, .int v_now_depth, .int v_now_miss, .long u.2.1, .int u.2.2.1, .int v_now_seed]), (h2, xI X 5 u.2.2.2)] A) (n := 1) md_X6_cut.1 (Nat.le_of_ble_eq_true rfl) ?_
  intro p e s m args below meth c ls A hC hr hlk hH hl
  have hl : lv_has ls 2 [(0, .ref h0), (1, .int p1)] := hl
  have hx := hC.1
  have hb := hC.2.1
  refine lv_iload_n hx hb dX6_cut_0 rfl (lv_at hl 1 rfl) ?_
  refine lv_iconst (v := (nI 1)) hx hb dX6_cut_1 (by decide) ?_
  refine lv_bipush (v := (nI 40)) hx hb dX6_cut_2 (by decide) ?_
  obtain ⟨u1, hf1, hf⟩ := xb hf
  refine x_ran (x_runS (rest := []) (As := [.int p1, .int (nI 1), .int (nI 40)]) hC mw_99 md_X6_isWithin (c_X6_isWithin (X := X) hf1) hH [] rfl (by decide) hl.1 rfl rfl (Nat.le_of_ble_eq_true rfl) dX6_cut_4 ⟨Nat.le_of_ble_eq_true rfl, Nat.le_of_ble_eq_true rfl⟩ ⟨rfl, rfl⟩ ⟨Nat.le_refl _, Nat.le_refl _⟩) rfl (fun hz1 => ?_)
  refine lv_if_ne (tgt := 17) hx hb dX6_cut_7 (by decide) (fun c2 => ?_) (fun c2 => ?_)
  · have hf := xe c2 hf
    refine lv_aload_n hx hb dX6_cut_17 rfl (lv_at hl 0 rfl) ?_
    refine x_get hC fd_RX6_10 hH.1 0 rfl rfl dX6_cut_18 ?_
    refine x_getN hC fd_RX6_200 hH.1 1 rfl rfl dX6_cut_21 ?_
    refine lv_iload_n hx hb dX6_cut_24 rfl (lv_at hl 1 rfl) ?_
    refine lv_icmp_ge (tgt := 35) hx hb dX6_cut_25 (by decide) (fun c3 => ?_) (fun c3 => ?_)
    · have hf := xt c3 hf
      refine lv_aload_n hx hb dX6_cut_35 rfl (lv_at hl 0 rfl) ?_
      refine x_get hC fd_RX6_10 hH.1 0 rfl rfl dX6_cut_36 ?_
      refine lv_dup hx hb dX6_cut_39 rfl ?_
      refine x_getN hC fd_RX6_200 hH.1 1 rfl rfl dX6_cut_40 ?_
      refine lv_iload_n hx hb dX6_cut_43 rfl (lv_at hl 1 rfl) ?_
      refine lv_isub hx hb dX6_cut_44 ?_
      refine x_putN (ws' := [(h0, xO 6 [.ref h1, .ref g0, .ref g1, .ref g2, .ref h2, .int v_isKept]), (h1, xO 0 [.ref g3, .ref g4, .int v_now_inForce, .int v_now_depth, .int v_now_miss, .long v_now_ring, .int (v_now_steps - p1), .int v_now_seed]), (h2, xI X 5 v_refusals)]) hC fd_RX6_200 hH 1 rfl (Nat.le_of_ble_eq_true rfl) rfl rfl dX6_cut_45 rfl (fun H locs hH => ?_)
      refine lv_aload_n hx hb dX6_cut_48 rfl (lv_at hl 0 rfl) ?_
      refine x_get hC fd_RX6_10 hH.1 0 rfl rfl dX6_cut_49 ?_
      refine lv_dup hx hb dX6_cut_52 rfl ?_
      refine x_getN hC fd_RX6_120 hH.1 1 rfl rfl dX6_cut_53 ?_
      refine lv_aload_n hx hb dX6_cut_56 rfl (lv_at hl 0 rfl) ?_
      refine x_get hC fd_RX6_10 hH.1 0 rfl rfl dX6_cut_57 ?_
      refine x_getN hC fd_RX6_200 hH.1 1 rfl rfl dX6_cut_60 ?_
      obtain ⟨u4, hf4, hf⟩ := xb hf
      refine x_ran (x_runS (rest := [.long v_now_ring, .ref h1]) (As := [.int (v_now_steps - p1)]) hC mw_800 md_X6_firstBits (c_X6_firstBits (X := X) hf4) hH [] rfl (by decide) hl.1 rfl rfl (Nat.le_of_ble_eq_true rfl) dX6_cut_63 ⟨Nat.le_of_ble_eq_true rfl, Nat.le_of_ble_eq_true rfl⟩ ⟨rfl, rfl⟩ ⟨Nat.le_refl _, Nat.le_refl _⟩) rfl (fun hz4 => ?_)
      refine lv_land hx hb dX6_cut_66 ?_
      refine x_putN (ws' := [(h0, xO 6 [.ref h1, .ref g0, .ref g1, .ref g2, .ref h2, .int v_isKept]), (h1, xO 0 [.ref g3, .ref g4, .int v_now_inForce, .int v_now_depth, .int v_now_miss, .long (v_now_ring &&& u4), .int (v_now_steps - p1), .int v_now_seed]), (h2, xI X 5 v_refusals)]) hC fd_RX6_120 hH 1 rfl (Nat.le_of_ble_eq_true rfl) rfl rfl dX6_cut_67 rfl (fun H locs hH => ?_)
      refine lv_aload_n hx hb dX6_cut_70 rfl (lv_at hl 0 rfl) ?_
      refine x_get hC fd_RX6_10 hH.1 0 rfl rfl dX6_cut_71 ?_
      refine x_getN hC fd_RX6_200 hH.1 1 rfl rfl dX6_cut_74 ?_
      exact x_retiw (φ := fun _ => True) (f := fun u : Int32 × Int64 × Int32 × (Nat → Int32) => u.1) (wf := fun u : Int32 × Int64 × Int32 × (Nat → Int32) => [(h0, xO 6 [.ref h1, .ref g0, .ref g1, .ref g2, .ref h2, .int v_isKept]), (h1, xO 0 [.ref g3, .ref g4, .int v_now_inForce, .int v_now_depth, .int v_now_miss, .long u.2.1, .int u.2.2.1, .int v_now_seed]), (h2, xI X 5 u.2.2.2)]) hC hr hlk trivial hf hH rfl rfl dX6_cut_77
    · have hf := xe c3 hf
      refine lv_aload_n hx hb dX6_cut_28 rfl (lv_at hl 0 rfl) ?_
      refine lv_bipush (v := (-5 : Int32)) hx hb dX6_cut_29 (by decide) ?_
      obtain ⟨u5, hf5, hf⟩ := xb hf
      refine x_ranw (ws' := [(h0, xO 6 [.ref h1, .ref g0, .ref g1, .ref g2, .ref h2, .int v_isKept]), (h1, xO 0 [.ref g3, .ref g4, .int v_now_inForce, .int v_now_depth, .int v_now_miss, .long v_now_ring, .int v_now_steps, .int v_now_seed]), (h2, xI X 5 u5.2)]) (x_runV (q0 := 0) (rest := []) (As := [.int (-5 : Int32)]) hC mw_100 md_X6_refuse (c_X6_refuse (X := X) hf5) hH [0, 2] rfl (by decide) rfl rfl rfl hl.1 rfl rfl (Nat.le_of_ble_eq_true rfl) dX6_cut_31 ⟨Nat.le_of_ble_eq_true rfl, Nat.le_of_ble_eq_true rfl⟩ ⟨rfl, rfl⟩ ⟨Nat.le_refl _, Nat.le_refl _⟩) hH [0, 2] rfl rfl rfl rfl rfl (fun hz5 H locs hH => ?_)
      exact x_retiw (φ := fun _ => True) (f := fun u : Int32 × Int64 × Int32 × (Nat → Int32) => u.1) (wf := fun u : Int32 × Int64 × Int32 × (Nat → Int32) => [(h0, xO 6 [.ref h1, .ref g0, .ref g1, .ref g2, .ref h2, .int v_isKept]), (h1, xO 0 [.ref g3, .ref g4, .int v_now_inForce, .int v_now_depth, .int v_now_miss, .long u.2.1, .int u.2.2.1, .int v_now_seed]), (h2, xI X 5 u.2.2.2)]) hC hr hlk trivial hf hH rfl rfl dX6_cut_34
  · have hf := xt c2 hf
    refine lv_aload_n hx hb dX6_cut_10 rfl (lv_at hl 0 rfl) ?_
    refine lv_bipush (v := (-2 : Int32)) hx hb dX6_cut_11 (by decide) ?_
    obtain ⟨u6, hf6, hf⟩ := xb hf
    refine x_ranw (ws' := [(h0, xO 6 [.ref h1, .ref g0, .ref g1, .ref g2, .ref h2, .int v_isKept]), (h1, xO 0 [.ref g3, .ref g4, .int v_now_inForce, .int v_now_depth, .int v_now_miss, .long v_now_ring, .int v_now_steps, .int v_now_seed]), (h2, xI X 5 u6.2)]) (x_runV (q0 := 0) (rest := []) (As := [.int (-2 : Int32)]) hC mw_100 md_X6_refuse (c_X6_refuse (X := X) hf6) hH [0, 2] rfl (by decide) rfl rfl rfl hl.1 rfl rfl (Nat.le_of_ble_eq_true rfl) dX6_cut_13 ⟨Nat.le_of_ble_eq_true rfl, Nat.le_of_ble_eq_true rfl⟩ ⟨rfl, rfl⟩ ⟨Nat.le_refl _, Nat.le_refl _⟩) hH [0, 2] rfl rfl rfl rfl rfl (fun hz6 H locs hH => ?_)
    exact x_retiw (φ := fun _ => True) (f := fun u : Int32 × Int64 × Int32 × (Nat → Int32) => u.1) (wf := fun u : Int32 × Int64 × Int32 × (Nat → Int32) => [(h0, xO 6 [.ref h1, .ref g0, .ref g1, .ref g2, .ref h2, .int v_isKept]), (h1, xO 0 [.ref g3, .ref g4, .int v_now_inForce, .int v_now_depth, .int v_now_miss, .long u.2.1, .int u.2.2.1, .int v_now_seed]), (h2, xI X 5 u.2.2.2)]) hC hr hlk trivial hf hH rfl rfl dX6_cut_16
def f_X6_still (v_now_ring : Int64) (v_now_steps : Int32) : Option (Int32 × Int64 × Int32) :=
  (f_X0_clearRing v_now_ring v_now_steps).bind fun u1 =>
  some (v_now_steps, u1.1, u1.2)
set_option maxHeartbeats 4000000 in
set_option maxRecDepth 100000 in
theorem c_X6_still {l : Launch} {X : xG} {h0 h1 g0 g1 g2 g3 g4 g5 : Nat} {v_isKept : Int32} {v_now_inForce : Int32} {v_now_depth : Int32} {v_now_miss : Int32} {v_now_ring : Int64} {v_now_steps : Int32} {v_now_seed : Int32} {u : Int32 × Int64 × Int32} (hf : f_X6_still v_now_ring v_now_steps = some u) : Met l yX6_still (xw yX6_still cX6_still 2 (some .int)) (xrm 1 20) (xPc [.ref h0] X [(h0, xO 6 [.ref h1, .ref g0, .ref g1, .ref g2, .ref g3, .int v_isKept]), (h1, xO 0 [.ref g4, .ref g5, .int v_now_inForce, .int v_now_depth, .int v_now_miss, .long v_now_ring, .int v_now_steps, .int v_now_seed])]) (xQw True (.returned (some (.int u.1))) X [(h0, xO 6 [.ref h1, .ref g0, .ref g1, .ref g2, .ref g3, .int v_isKept]), (h1, xO 0 [.ref g4, .ref g5, .int v_now_inForce, .int v_now_depth, .int v_now_miss, .long u.2.1, .int u.2.2, .int v_now_seed])] (xAs [(h0, xO 6 [.ref h1, .ref g0, .ref g1, .ref g2, .ref g3, .int v_isKept]), (h1, xO 0 [.ref g4, .ref g5, .int v_now_inForce, .int v_now_depth, .int v_now_miss, .long v_now_ring, .int v_now_steps, .int v_now_seed])])) 0 0 (xAs [(h0, xO 6 [.ref h1, .ref g0, .ref g1, .ref g2, .ref g3, .int v_isKept]), (h1, xO 0 [.ref g4, .ref g5, .int v_now_inForce, .int v_now_depth, .int v_now_miss, .long v_now_ring, .int v_now_steps, .int v_now_seed])]) := by
  refine xMetw (Qc := fun A => xQw True (.returned (some (.int u.1))) X [(h0, xO 6 [.ref h1, .ref g0, .ref g1, .ref g2, .ref g3, .int v_isKept]), (h1, xO 0 [.ref g4, .ref g5, .int v_now_inForce, .int v_now_depth, .int v_now_miss, .long u.2.1, .int u.2.2, .int v_now_seed])] A) (n := 0) md_X6_still.1 (Nat.le_of_ble_eq_true rfl) ?_
  intro p e s m args below meth c ls A hC hr hlk hH hl
  have hl : lv_has ls 2 [(0, .ref h0)] := hl
  have hx := hC.1
  have hb := hC.2.1
  refine lv_aload_n hx hb dX6_still_0 rfl (lv_at hl 0 rfl) ?_
  refine x_get hC fd_RX6_10 hH.1 0 rfl rfl dX6_still_1 ?_
  refine x_getN hC fd_RX6_200 hH.1 1 rfl rfl dX6_still_4 ?_
  refine lv_istore_n (lv' := [(1, .int v_now_steps), (0, .ref h0)]) hx hb dX6_still_7 rfl hl (by decide) rfl (fun ls hl => ?_)
  refine lv_aload_n hx hb dX6_still_8 rfl (lv_at hl 1 rfl) ?_
  refine x_get hC fd_RX6_10 hH.1 0 rfl rfl dX6_still_9 ?_
  obtain ⟨u1, hf1, hf⟩ := xb hf
  refine x_ranw (ws' := [(h0, xO 6 [.ref h1, .ref g0, .ref g1, .ref g2, .ref g3, .int v_isKept]), (h1, xO 0 [.ref g4, .ref g5, .int v_now_inForce, .int v_now_depth, .int v_now_miss, .long u1.1, .int u1.2, .int v_now_seed])]) (x_runV (q0 := 0) (rest := []) (As := []) hC mw_1349 md_X0_clearRing (c_X0_clearRing (X := X) hf1) hH [1] rfl (by decide) rfl rfl rfl hl.1 rfl rfl (Nat.le_of_ble_eq_true rfl) dX6_still_12 ⟨Nat.le_of_ble_eq_true rfl, Nat.le_of_ble_eq_true rfl⟩ ⟨rfl, rfl⟩ ⟨Nat.le_refl _, Nat.le_refl _⟩) hH [1] rfl rfl rfl rfl rfl (fun hz1 H locs hH => ?_)
  refine lv_iload_n hx hb dX6_still_15 rfl (lv_at hl 0 rfl) ?_
  exact x_retiw (φ := fun _ => True) (f := fun u : Int32 × Int64 × Int32 => u.1) (wf := fun u : Int32 × Int64 × Int32 => [(h0, xO 6 [.ref h1, .ref g0, .ref g1, .ref g2, .ref g3, .int v_isKept]), (h1, xO 0 [.ref g4, .ref g5, .int v_now_inForce, .int v_now_depth, .int v_now_miss, .long u.2.1, .int u.2.2, .int v_now_seed])]) hC hr hlk trivial hf hH rfl rfl dX6_still_16
def f_X6_seed (v_now_seed : Int32) (p1 : Int32) : Option (Int32 × Int32) :=
  some (v_now_seed, p1)
set_option maxHeartbeats 4000000 in
set_option maxRecDepth 100000 in
theorem c_X6_seed {l : Launch} {X : xG} {h0 h1 g0 g1 g2 g3 g4 g5 : Nat} {v_isKept : Int32} {v_now_inForce : Int32} {v_now_depth : Int32} {v_now_miss : Int32} {v_now_ring : Int64} {v_now_steps : Int32} {v_now_seed : Int32} {p1 : Int32} {u : Int32 × Int32} (hf : f_X6_seed v_now_seed p1 = some u) : Met l yX6_seed (xw yX6_seed cX6_seed 3 (some .int)) (xrm 0 0) (xPc [.ref h0, .int p1] X [(h0, xO 6 [.ref h1, .ref g0, .ref g1, .ref g2, .ref g3, .int v_isKept]), (h1, xO 0 [.ref g4, .ref g5, .int v_now_inForce, .int v_now_depth, .int v_now_miss, .long v_now_ring, .int v_now_steps, .int v_now_seed])]) (xQw True (.returned (some (.int u.1))) X [(h0, xO 6 [.ref h1, .ref g0, .ref g1, .ref g2, .ref g3, .int v_isKept]), (h1, xO 0 [.ref g4, .ref g5, .int v_now_inForce, .int v_now_depth, .int v_now_miss, .long v_now_ring, .int v_now_steps, .int u.2])] (xAs [(h0, xO 6 [.ref h1, .ref g0, .ref g1, .ref g2, .ref g3, .int v_isKept]), (h1, xO 0 [.ref g4, .ref g5, .int v_now_inForce, .int v_now_depth, .int v_now_miss, .long v_now_ring, .int v_now_steps, .int v_now_seed])])) 0 0 (xAs [(h0, xO 6 [.ref h1, .ref g0, .ref g1, .ref g2, .ref g3, .int v_isKept]), (h1, xO 0 [.ref g4, .ref g5, .int v_now_inForce, .int v_now_depth, .int v_now_miss, .long v_now_ring, .int v_now_steps, .int v_now_seed])]) := by
  refine xMetw (Qc := fun A => xQw True (.returned (some (.int u.1))) X [(h0, xO 6 [.ref h1, .ref g0, .ref g1, .ref g2, .ref g3, .int v_isKept]), (h1, xO 0 [.ref g4, .ref g5, .int v_now_inForce, .int v_now_depth, .int v_now_miss, .long v_now_ring, .int v_now_steps, .int u.2])] A) (n := 1) md_X6_seed.1 (Nat.le_of_ble_eq_true rfl) ?_
  intro p e s m args below meth c ls A hC hr hlk hH hl
  have hl : lv_has ls 3 [(0, .ref h0), (1, .int p1)] := hl
  have hx := hC.1
  have hb := hC.2.1
  refine lv_aload_n hx hb dX6_seed_0 rfl (lv_at hl 0 rfl) ?_
  refine x_get hC fd_RX6_10 hH.1 0 rfl rfl dX6_seed_1 ?_
  refine x_getN hC fd_RX6_339 hH.1 1 rfl rfl dX6_seed_4 ?_
  refine lv_istore_n (lv' := [(2, .int v_now_seed), (0, .ref h0), (1, .int p1)]) hx hb dX6_seed_7 rfl hl (by decide) rfl (fun ls hl => ?_)
  refine lv_aload_n hx hb dX6_seed_8 rfl (lv_at hl 1 rfl) ?_
  refine x_get hC fd_RX6_10 hH.1 0 rfl rfl dX6_seed_9 ?_
  refine lv_iload_n hx hb dX6_seed_12 rfl (lv_at hl 2 rfl) ?_
  refine x_putN (ws' := [(h0, xO 6 [.ref h1, .ref g0, .ref g1, .ref g2, .ref g3, .int v_isKept]), (h1, xO 0 [.ref g4, .ref g5, .int v_now_inForce, .int v_now_depth, .int v_now_miss, .long v_now_ring, .int v_now_steps, .int p1])]) hC fd_RX6_339 hH 1 rfl (Nat.le_of_ble_eq_true rfl) rfl rfl dX6_seed_13 rfl (fun H locs hH => ?_)
  refine lv_iload_n hx hb dX6_seed_16 rfl (lv_at hl 0 rfl) ?_
  exact x_retiw (φ := fun _ => True) (f := fun u : Int32 × Int32 => u.1) (wf := fun u : Int32 × Int32 => [(h0, xO 6 [.ref h1, .ref g0, .ref g1, .ref g2, .ref g3, .int v_isKept]), (h1, xO 0 [.ref g4, .ref g5, .int v_now_inForce, .int v_now_depth, .int v_now_miss, .long v_now_ring, .int v_now_steps, .int u.2])]) hC hr hlk trivial hf hH rfl rfl dX6_seed_17
def f_X6_image (v_isKept : Int32) (v_kept_inForce : Int32) (v_kept_depth : Int32) (v_kept_miss : Int32) (v_kept_ring : Int64) (v_kept_steps : Int32) (v_kept_seed : Int32) (v_kept_laws_count : Int32) (v_kept_laws_kinds : (Nat → Int32)) (v_kept_laws_tunes : (Nat → Int32)) (v_kept_people_count : Int32) (v_kept_people_ages : (Nat → Int32)) (v_now_inForce : Int32) (v_now_depth : Int32) (v_now_miss : Int32) (v_now_ring : Int64) (v_now_steps : Int32) (v_now_seed : Int32) (v_now_laws_count : Int32) (v_now_laws_kinds : (Nat → Int32)) (v_now_laws_tunes : (Nat → Int32)) (v_now_people_count : Int32) (v_now_people_ages : (Nat → Int32)) : Option (Int32 × Int32 × Int32 × Int32 × Int32 × Int64 × Int32 × Int32 × Int32 × (Nat → Int32) × (Nat → Int32) × Int32 × (Nat → Int32)) :=
  (f_X0_takeFrom v_kept_inForce v_kept_depth v_kept_miss v_kept_ring v_kept_steps v_kept_seed v_kept_laws_count v_kept_laws_kinds v_kept_laws_tunes v_kept_people_count v_kept_people_ages v_now_inForce v_now_depth v_now_miss v_now_ring v_now_steps v_now_seed v_now_laws_count v_now_laws_kinds v_now_laws_tunes v_now_people_count v_now_people_ages).bind fun u1 =>
  some ((nI 1), (nI 1), u1.1, u1.2.1, u1.2.2.1, u1.2.2.2.1, u1.2.2.2.2.1, u1.2.2.2.2.2.1, u1.2.2.2.2.2.2.1, u1.2.2.2.2.2.2.2.1, u1.2.2.2.2.2.2.2.2.1, u1.2.2.2.2.2.2.2.2.2.1, u1.2.2.2.2.2.2.2.2.2.2)
set_option maxHeartbeats 4000000 in
set_option maxRecDepth 100000 in
theorem c_X6_image {l : Launch} {X : xG} {h0 h1 h2 h3 h4 h5 h6 h7 h8 h9 h10 h11 h12 g0 g1 g2 g3 g4 : Nat} {v_isKept : Int32} {v_kept_inForce : Int32} {v_kept_depth : Int32} {v_kept_miss : Int32} {v_kept_ring : Int64} {v_kept_steps : Int32} {v_kept_seed : Int32} {v_kept_laws_count : Int32} {v_kept_laws_kinds : (Nat → Int32)} {v_kept_laws_tunes : (Nat → Int32)} {v_kept_people_count : Int32} {v_kept_people_ages : (Nat → Int32)} {v_now_inForce : Int32} {v_now_depth : Int32} {v_now_miss : Int32} {v_now_ring : Int64} {v_now_steps : Int32} {v_now_seed : Int32} {v_now_laws_count : Int32} {v_now_laws_kinds : (Nat → Int32)} {v_now_laws_tunes : (Nat → Int32)} {v_now_people_count : Int32} {v_now_people_ages : (Nat → Int32)} {u : Int32 × Int32 × Int32 × Int32 × Int32 × Int64 × Int32 × Int32 × Int32 × (Nat → Int32) × (Nat → Int32) × Int32 × (Nat → Int32)} (hf : f_X6_image v_isKept v_kept_inForce v_kept_depth v_kept_miss v_kept_ring v_kept_steps v_kept_seed v_kept_laws_count v_kept_laws_kinds v_kept_laws_tunes v_kept_people_count v_kept_people_ages v_now_inForce v_now_depth v_now_miss v_now_ring v_now_steps v_now_seed v_now_laws_count v_now_laws_kinds v_now_laws_tunes v_now_people_count v_now_people_ages = some u) : Met l yX6_image (xw yX6_image cX6_image 1 (some .int)) (xrm 4 86) (xPc [.ref h0] X [(h0, xO 6 [.ref h7, .ref h1, .ref g0, .ref g1, .ref g2, .int v_isKept]), (h1, xO 0 [.ref h2, .ref h5, .int v_kept_inForce, .int v_kept_depth, .int v_kept_miss, .long v_kept_ring, .int v_kept_steps, .int v_kept_seed]), (h2, xO 2 [.ref h3, .ref h4, .int v_kept_laws_count]), (h3, xI X 6 v_kept_laws_kinds), (h4, xI X 6 v_kept_laws_tunes), (h5, xO 3 [.ref h6, .ref g3, .int v_kept_people_count]), (h6, xI X 10 v_kept_people_ages), (h7, xO 0 [.ref h8, .ref h11, .int v_now_inForce, .int v_now_depth, .int v_now_miss, .long v_now_ring, .int v_now_steps, .int v_now_seed]), (h8, xO 2 [.ref h9, .ref h10, .int v_now_laws_count]), (h9, xI X 6 v_now_laws_kinds), (h10, xI X 6 v_now_laws_tunes), (h11, xO 3 [.ref h12, .ref g4, .int v_now_people_count]), (h12, xI X 10 v_now_people_ages)]) (xQw True (.returned (some (.int u.1))) X [(h0, xO 6 [.ref h7, .ref h1, .ref g0, .ref g1, .ref g2, .int u.2.1]), (h1, xO 0 [.ref h2, .ref h5, .int u.2.2.1, .int u.2.2.2.1, .int u.2.2.2.2.1, .long u.2.2.2.2.2.1, .int u.2.2.2.2.2.2.1, .int u.2.2.2.2.2.2.2.1]), (h2, xO 2 [.ref h3, .ref h4, .int u.2.2.2.2.2.2.2.2.1]), (h3, xI X 6 u.2.2.2.2.2.2.2.2.2.1), (h4, xI X 6 u.2.2.2.2.2.2.2.2.2.2.1), (h5, xO 3 [.ref h6, .ref g3, .int u.2.2.2.2.2.2.2.2.2.2.2.1]), (h6, xI X 10 u.2.2.2.2.2.2.2.2.2.2.2.2), (h7, xO 0 [.ref h8, .ref h11, .int v_now_inForce, .int v_now_depth, .int v_now_miss, .long v_now_ring, .int v_now_steps, .int v_now_seed]), (h8, xO 2 [.ref h9, .ref h10, .int v_now_laws_count]), (h9, xI X 6 v_now_laws_kinds), (h10, xI X 6 v_now_laws_tunes), (h11, xO 3 [.ref h12, .ref g4, .int v_now_people_count]), (h12, xI X 10 v_now_people_ages)] (xAs [(h0, xO 6 [.ref h7, .ref h1, .ref g0, .ref g1, .ref g2, .int v_isKept]), (h1, xO 0 [.ref h2, .ref h5, .int v_kept_inForce, .int v_kept_depth, .int v_kept_miss, .long v_kept_ring, .int v_kept_steps, .int v_kept_seed]), (h2, xO 2 [.ref h3, .ref h4, .int v_kept_laws_count]), (h3, xI X 6 v_kept_laws_kinds), (h4, xI X 6 v_kept_laws_tunes), (h5, xO 3 [.ref h6, .ref g3, .int v_kept_people_count]), (h6, xI X 10 v_kept_people_ages), (h7, xO 0 [.ref h8, .ref h11, .int v_now_inForce, .int v_now_depth, .int v_now_miss, .long v_now_ring, .int v_now_steps, .int v_now_seed]), (h8, xO 2 [.ref h9, .ref h10, .int v_now_laws_count]), (h9, xI X 6 v_now_laws_kinds), (h10, xI X 6 v_now_laws_tunes), (h11, xO 3 [.ref h12, .ref g4, .int v_now_people_count]), (h12, xI X 10 v_now_people_ages)])) 0 0 (xAs [(h0, xO 6 [.ref h7, .ref h1, .ref g0, .ref g1, .ref g2, .int v_isKept]), (h1, xO 0 [.ref h2, .ref h5, .int v_kept_inForce, .int v_kept_depth, .int v_kept_miss, .long v_kept_ring, .int v_kept_steps, .int v_kept_seed]), (h2, xO 2 [.ref h3, .ref h4, .int v_kept_laws_count]), (h3, xI X 6 v_kept_laws_kinds), (h4, xI X 6 v_kept_laws_tunes), (h5, xO 3 [.ref h6, .ref g3, .int v_kept_people_count]), (h6, xI X 10 v_kept_people_ages), (h7, xO 0 [.ref h8, .ref h11, .int v_now_inForce, .int v_now_depth, .int v_now_miss, .long v_now_ring, .int v_now_steps, .int v_now_seed]), (h8, xO 2 [.ref h9, .ref h10, .int v_now_laws_count]), (h9, xI X 6 v_now_laws_kinds), (h10, xI X 6 v_now_laws_tunes), (h11, xO 3 [.ref h12, .ref g4, .int v_now_people_count]), (h12, xI X 10 v_now_people_ages)]) := by
  refine xMetw (Qc := fun A => xQw True (.returned (some (.int u.1))) X [(h0, xO 6 [.ref h7, .ref h1, .ref g0, .ref g1, .ref g2, .int u.2.1]), (h1, xO 0 [.ref h2, .ref h5, .int u.2.2.1, .int u.2.2.2.1, .int u.2.2.2.2.1, .long u.2.2.2.2.2.1, .int u.2.2.2.2.2.2.1, .int u.2.2.2.2.2.2.2.1]), (h2, xO 2 [.ref h3, .ref h4, .int u.2.2.2.2.2.2.2.2.1]), (h3, xI X 6 u.2.2.2.2.2.2.2.2.2.1), (h4, xI X 6 u.2.2.2.2.2.2.2.2.2.2.1), (h5, xO 3 [.ref h6, .ref g3, .int u.2.2.2.2.2.2.2.2.2.2.2.1]), (h6, xI X 10 u.2.2.2.2.2.2.2.2.2.2.2.2), (h7, xO 0 [.ref h8, .ref h11, .int v_now_inForce, .int v_now_depth, .int v_now_miss, .long v_now_ring, .int v_now_steps, .int v_now_seed]), (h8, xO 2 [.ref h9, .ref h10, .int v_now_laws_count]), (h9, xI X 6 v_now_laws_kinds), (h10, xI X 6 v_now_laws_tunes), (h11, xO 3 [.ref h12, .ref g4, .int v_now_people_count]), (h12, xI X 10 v_now_people_ages)] A) (n := 0) md_X6_image.1 (Nat.le_of_ble_eq_true rfl) ?_
  intro p e s m args below meth c ls A hC hr hlk hH hl
  have hl : lv_has ls 1 [(0, .ref h0)] := hl
  have hx := hC.1
  have hb := hC.2.1
  refine lv_aload_n hx hb dX6_image_0 rfl (lv_at hl 0 rfl) ?_
  refine x_get hC fd_RX6_16 hH.1 0 rfl rfl dX6_image_1 ?_
  refine lv_aload_n hx hb dX6_image_4 rfl (lv_at hl 0 rfl) ?_
  refine x_get hC fd_RX6_10 hH.1 0 rfl rfl dX6_image_5 ?_
  obtain ⟨u1, hf1, hf⟩ := xb hf
  refine x_ranw (ws' := [(h0, xO 6 [.ref h7, .ref h1, .ref g0, .ref g1, .ref g2, .int v_isKept]), (h1, xO 0 [.ref h2, .ref h5, .int u1.1, .int u1.2.1, .int u1.2.2.1, .long u1.2.2.2.1, .int u1.2.2.2.2.1, .int u1.2.2.2.2.2.1]), (h2, xO 2 [.ref h3, .ref h4, .int u1.2.2.2.2.2.2.1]), (h3, xI X 6 u1.2.2.2.2.2.2.2.1), (h4, xI X 6 u1.2.2.2.2.2.2.2.2.1), (h5, xO 3 [.ref h6, .ref g3, .int u1.2.2.2.2.2.2.2.2.2.1]), (h6, xI X 10 u1.2.2.2.2.2.2.2.2.2.2), (h7, xO 0 [.ref h8, .ref h11, .int v_now_inForce, .int v_now_depth, .int v_now_miss, .long v_now_ring, .int v_now_steps, .int v_now_seed]), (h8, xO 2 [.ref h9, .ref h10, .int v_now_laws_count]), (h9, xI X 6 v_now_laws_kinds), (h10, xI X 6 v_now_laws_tunes), (h11, xO 3 [.ref h12, .ref g4, .int v_now_people_count]), (h12, xI X 10 v_now_people_ages)]) (x_runV (q0 := 0) (rest := []) (As := [.ref h7]) hC mw_441 md_X0_takeFrom (c_X0_takeFrom (X := X) hf1) hH [1, 2, 3, 4, 5, 6, 7, 8, 9, 10, 11, 12] rfl (by decide) rfl rfl rfl hl.1 rfl rfl (Nat.le_of_ble_eq_true rfl) dX6_image_8 ⟨Nat.le_of_ble_eq_true rfl, Nat.le_of_ble_eq_true rfl⟩ ⟨rfl, rfl⟩ ⟨Nat.le_refl _, Nat.le_refl _⟩) hH [1, 2, 3, 4, 5, 6, 7, 8, 9, 10, 11, 12] rfl rfl rfl rfl rfl (fun hz1 H locs hH => ?_)
  refine lv_aload_n hx hb dX6_image_11 rfl (lv_at hl 0 rfl) ?_
  refine lv_iconst (v := (nI 1)) hx hb dX6_image_12 (by decide) ?_
  refine x_put (ws' := [(h0, xO 6 [.ref h7, .ref h1, .ref g0, .ref g1, .ref g2, .int (nI 1)]), (h1, xO 0 [.ref h2, .ref h5, .int u1.1, .int u1.2.1, .int u1.2.2.1, .long u1.2.2.2.1, .int u1.2.2.2.2.1, .int u1.2.2.2.2.2.1]), (h2, xO 2 [.ref h3, .ref h4, .int u1.2.2.2.2.2.2.1]), (h3, xI X 6 u1.2.2.2.2.2.2.2.1), (h4, xI X 6 u1.2.2.2.2.2.2.2.2.1), (h5, xO 3 [.ref h6, .ref g3, .int u1.2.2.2.2.2.2.2.2.2.1]), (h6, xI X 10 u1.2.2.2.2.2.2.2.2.2.2), (h7, xO 0 [.ref h8, .ref h11, .int v_now_inForce, .int v_now_depth, .int v_now_miss, .long v_now_ring, .int v_now_steps, .int v_now_seed]), (h8, xO 2 [.ref h9, .ref h10, .int v_now_laws_count]), (h9, xI X 6 v_now_laws_kinds), (h10, xI X 6 v_now_laws_tunes), (h11, xO 3 [.ref h12, .ref g4, .int v_now_people_count]), (h12, xI X 10 v_now_people_ages)]) hC fd_RX6_342 hH 0 rfl (Nat.le_of_ble_eq_true rfl) (by decide) rfl dX6_image_13 rfl (fun H locs hH => ?_)
  refine lv_iconst (v := (nI 1)) hx hb dX6_image_16 (by decide) ?_
  exact x_retiw (φ := fun _ => True) (f := fun u : Int32 × Int32 × Int32 × Int32 × Int32 × Int64 × Int32 × Int32 × Int32 × (Nat → Int32) × (Nat → Int32) × Int32 × (Nat → Int32) => u.1) (wf := fun u : Int32 × Int32 × Int32 × Int32 × Int32 × Int64 × Int32 × Int32 × Int32 × (Nat → Int32) × (Nat → Int32) × Int32 × (Nat → Int32) => [(h0, xO 6 [.ref h7, .ref h1, .ref g0, .ref g1, .ref g2, .int u.2.1]), (h1, xO 0 [.ref h2, .ref h5, .int u.2.2.1, .int u.2.2.2.1, .int u.2.2.2.2.1, .long u.2.2.2.2.2.1, .int u.2.2.2.2.2.2.1, .int u.2.2.2.2.2.2.2.1]), (h2, xO 2 [.ref h3, .ref h4, .int u.2.2.2.2.2.2.2.2.1]), (h3, xI X 6 u.2.2.2.2.2.2.2.2.2.1), (h4, xI X 6 u.2.2.2.2.2.2.2.2.2.2.1), (h5, xO 3 [.ref h6, .ref g3, .int u.2.2.2.2.2.2.2.2.2.2.2.1]), (h6, xI X 10 u.2.2.2.2.2.2.2.2.2.2.2.2), (h7, xO 0 [.ref h8, .ref h11, .int v_now_inForce, .int v_now_depth, .int v_now_miss, .long v_now_ring, .int v_now_steps, .int v_now_seed]), (h8, xO 2 [.ref h9, .ref h10, .int v_now_laws_count]), (h9, xI X 6 v_now_laws_kinds), (h10, xI X 6 v_now_laws_tunes), (h11, xO 3 [.ref h12, .ref g4, .int v_now_people_count]), (h12, xI X 10 v_now_people_ages)]) hC hr hlk trivial hf hH rfl rfl dX6_image_17
def f_X6_back (v_isKept : Int32) (v_kept_inForce : Int32) (v_kept_depth : Int32) (v_kept_miss : Int32) (v_kept_ring : Int64) (v_kept_steps : Int32) (v_kept_seed : Int32) (v_kept_laws_count : Int32) (v_kept_laws_kinds : (Nat → Int32)) (v_kept_laws_tunes : (Nat → Int32)) (v_kept_people_count : Int32) (v_kept_people_ages : (Nat → Int32)) (v_now_inForce : Int32) (v_now_depth : Int32) (v_now_miss : Int32) (v_now_ring : Int64) (v_now_steps : Int32) (v_now_seed : Int32) (v_now_laws_count : Int32) (v_now_laws_kinds : (Nat → Int32)) (v_now_laws_tunes : (Nat → Int32)) (v_now_people_count : Int32) (v_now_people_ages : (Nat → Int32)) (v_refusals : (Nat → Int32)) (v_shelves_held : (Nat → Int32)) (v_shelves_sizes : (Nat → Int32)) : Option (Int32 × Int32 × Int32 × Int32 × Int64 × Int32 × Int32 × Int32 × (Nat → Int32) × (Nat → Int32) × Int32 × (Nat → Int32) × (Nat → Int32) × (Nat → Int32) × (Nat → Int32)) :=
  if v_isKept = (nI 0) then
    (f_X6_refuse v_refusals (-5 : Int32)).bind fun u4 =>
    some (u4.1, v_now_inForce, v_now_depth, v_now_miss, v_now_ring, v_now_steps, v_now_seed, v_now_laws_count, v_now_laws_kinds, v_now_laws_tunes, v_now_people_count, v_now_people_ages, u4.2, v_shelves_held, v_shelves_sizes)
  else
  (f_X0_takeFrom v_now_inForce v_now_depth v_now_miss v_now_ring v_now_steps v_now_seed v_now_laws_count v_now_laws_kinds v_now_laws_tunes v_now_people_count v_now_people_ages v_kept_inForce v_kept_depth v_kept_miss v_kept_ring v_kept_steps v_kept_seed v_kept_laws_count v_kept_laws_kinds v_kept_laws_tunes v_kept_people_count v_kept_people_ages).bind fun u2 =>
  (f_X4_clearLawsFrom v_shelves_held v_shelves_sizes u2.2.2.2.2.2.2.1).bind fun u3 =>
  some ((nI 1), u2.1, u2.2.1, u2.2.2.1, u2.2.2.2.1, u2.2.2.2.2.1, u2.2.2.2.2.2.1, u2.2.2.2.2.2.2.1, u2.2.2.2.2.2.2.2.1, u2.2.2.2.2.2.2.2.2.1, u2.2.2.2.2.2.2.2.2.2.1, u2.2.2.2.2.2.2.2.2.2.2, v_refusals, u3.1, u3.2)
set_option maxHeartbeats 4000000 in
set_option maxRecDepth 100000 in
theorem c_X6_back {l : Launch} {X : xG} {h0 h1 h2 h3 h4 h5 h6 h7 h8 h9 h10 h11 h12 h13 h14 h15 h16 g0 g1 g2 g3 : Nat} {v_isKept : Int32} {v_kept_inForce : Int32} {v_kept_depth : Int32} {v_kept_miss : Int32} {v_kept_ring : Int64} {v_kept_steps : Int32} {v_kept_seed : Int32} {v_kept_laws_count : Int32} {v_kept_laws_kinds : (Nat → Int32)} {v_kept_laws_tunes : (Nat → Int32)} {v_kept_people_count : Int32} {v_kept_people_ages : (Nat → Int32)} {v_now_inForce : Int32} {v_now_depth : Int32} {v_now_miss : Int32} {v_now_ring : Int64} {v_now_steps : Int32} {v_now_seed : Int32} {v_now_laws_count : Int32} {v_now_laws_kinds : (Nat → Int32)} {v_now_laws_tunes : (Nat → Int32)} {v_now_people_count : Int32} {v_now_people_ages : (Nat → Int32)} {v_refusals : (Nat → Int32)} {v_shelves_held : (Nat → Int32)} {v_shelves_sizes : (Nat → Int32)} {u : Int32 × Int32 × Int32 × Int32 × Int64 × Int32 × Int32 × Int32 × (Nat → Int32) × (Nat → Int32) × Int32 × (Nat → Int32) × (Nat → Int32) × (Nat → Int32) × (Nat → Int32)} (hf : f_X6_back v_isKept v_kept_inForce v_kept_depth v_kept_miss v_kept_ring v_kept_steps v_kept_seed v_kept_laws_count v_kept_laws_kinds v_kept_laws_tunes v_kept_people_count v_kept_people_ages v_now_inForce v_now_depth v_now_miss v_now_ring v_now_steps v_now_seed v_now_laws_count v_now_laws_kinds v_now_laws_tunes v_now_people_count v_now_people_ages v_refusals v_shelves_held v_shelves_sizes = some u) : Met l yX6_back (xw yX6_back cX6_back 1 (some .int)) (xrm 4 86) (xPc [.ref h0] X [(h0, xO 6 [.ref h7, .ref h1, .ref g0, .ref h14, .ref h13, .int v_isKept]), (h1, xO 0 [.ref h2, .ref h5, .int v_kept_inForce, .int v_kept_depth, .int v_kept_miss, .long v_kept_ring, .int v_kept_steps, .int v_kept_seed]), (h2, xO 2 [.ref h3, .ref h4, .int v_kept_laws_count]), (h3, xI X 6 v_kept_laws_kinds), (h4, xI X 6 v_kept_laws_tunes), (h5, xO 3 [.ref h6, .ref g1, .int v_kept_people_count]), (h6, xI X 10 v_kept_people_ages), (h7, xO 0 [.ref h8, .ref h11, .int v_now_inForce, .int v_now_depth, .int v_now_miss, .long v_now_ring, .int v_now_steps, .int v_now_seed]), (h8, xO 2 [.ref h9, .ref h10, .int v_now_laws_count]), (h9, xI X 6 v_now_laws_kinds), (h10, xI X 6 v_now_laws_tunes), (h11, xO 3 [.ref h12, .ref g2, .int v_now_people_count]), (h12, xI X 10 v_now_people_ages), (h13, xI X 5 v_refusals), (h14, xO 4 [.ref h15, .ref h16, .ref g3]), (h15, xI X 8 v_shelves_held), (h16, xI X 8 v_shelves_sizes)]) (xQw True (.returned (some (.int u.1))) X [(h0, xO 6 [.ref h7, .ref h1, .ref g0, .ref h14, .ref h13, .int v_isKept]), (h1, xO 0 [.ref h2, .ref h5, .int v_kept_inForce, .int v_kept_depth, .int v_kept_miss, .long v_kept_ring, .int v_kept_steps, .int v_kept_seed]), (h2, xO 2 [.ref h3, .ref h4, .int v_kept_laws_count]), (h3, xI X 6 v_kept_laws_kinds), (h4, xI X 6 v_kept_laws_tunes), (h5, xO 3 [.ref h6, .ref g1, .int v_kept_people_count]), (h6, xI X 10 v_kept_people_ages), (h7, xO 0 [.ref h8, .ref h11, .int u.2.1, .int u.2.2.1, .int u.2.2.2.1, .long u.2.2.2.2.1, .int u.2.2.2.2.2.1, .int u.2.2.2.2.2.2.1]), (h8, xO 2 [.ref h9, .ref h10, .int u.2.2.2.2.2.2.2.1]), (h9, xI X 6 u.2.2.2.2.2.2.2.2.1), (h10, xI X 6 u.2.2.2.2.2.2.2.2.2.1), (h11, xO 3 [.ref h12, .ref g2, .int u.2.2.2.2.2.2.2.2.2.2.1]), (h12, xI X 10 u.2.2.2.2.2.2.2.2.2.2.2.1), (h13, xI X 5 u.2.2.2.2.2.2.2.2.2.2.2.2.1), (h14, xO 4 [.ref h15, .ref h16, .ref g3]), (h15, xI X 8 u.2.2.2.2.2.2.2.2.2.2.2.2.2.1), (h16, xI X 8 u.2.2.2.2.2.2.2.2.2.2.2.2.2.2)] (xAs [(h0, xO 6 [.ref h7, .ref h1, .ref g0, .ref h14, .ref h13, .int v_isKept]), (h1, xO 0 [.ref h2, .ref h5, .int v_kept_inForce, .int v_kept_depth, .int v_kept_miss, .long v_kept_ring, .int v_kept_steps, .int v_kept_seed]), (h2, xO 2 [.ref h3, .ref h4, .int v_kept_laws_count]), (h3, xI X 6 v_kept_laws_kinds), (h4, xI X 6 v_kept_laws_tunes), (h5, xO 3 [.ref h6, .ref g1, .int v_kept_people_count]), (h6, xI X 10 v_kept_people_ages), (h7, xO 0 [.ref h8, .ref h11, .int v_now_inForce, .int v_now_depth, .int v_now_miss, .long v_now_ring, .int v_now_steps, .int v_now_seed]), (h8, xO 2 [.ref h9, .ref h10, .int v_now_laws_count]), (h9, xI X 6 v_now_laws_kinds), (h10, xI X 6 v_now_laws_tunes), (h11, xO 3 [.ref h12, .ref g2, .int v_now_people_count]), (h12, xI X 10 v_now_people_ages), (h13, xI X 5 v_refusals), (h14, xO 4 [.ref h15, .ref h16, .ref g3]), (h15, xI X 8 v_shelves_held), (h16, xI X 8 v_shelves_sizes)])) 0 0 (xAs [(h0, xO 6 [.ref h7, .ref h1, .ref g0, .ref h14, .ref h13, .int v_isKept]), (h1, xO 0 [.ref h2, .ref h5, .int v_kept_inForce, .int v_kept_depth, .int v_kept_miss, .long v_kept_ring, .int v_kept_steps, .int v_kept_seed]), (h2, xO 2 [.ref h3, .ref h4, .int v_kept_laws_count]), (h3, xI X 6 v_kept_laws_kinds), (h4, xI X 6 v_kept_laws_tunes), (h5, xO 3 [.ref h6, .ref g1, .int v_kept_people_count]), (h6, xI X 10 v_kept_people_ages), (h7, xO 0 [.ref h8, .ref h11, .int v_now_inForce, .int v_now_depth, .int v_now_miss, .long v_now_ring, .int v_now_steps, .int v_now_seed]), (h8, xO 2 [.ref h9, .ref h10, .int v_now_laws_count]), (h9, xI X 6 v_now_laws_kinds), (h10, xI X 6 v_now_laws_tunes), (h11, xO 3 [.ref h12, .ref g2, .int v_now_people_count]), (h12, xI X 10 v_now_people_ages), (h13, xI X 5 v_refusals), (h14, xO 4 [.ref h15, .ref h16, .ref g3]), (h15, xI X 8 v_shelves_held), (h16, xI X 8 v_shelves_sizes)]) := by
  refine xMetw (Qc := fun A => xQw True (.returned (some (.int u.1))) X [(h0, xO 6 [.ref h7, .ref h1, .ref g0, .ref h14, .ref h13, .int v_isKept]), (h1, xO 0 [.ref h2, .ref h5, .int v_kept_inForce, .int v_kept_depth, .int v_kept_miss, .long v_kept_ring, .int v_kept_steps, .int v_kept_seed]), (h2, xO 2 [.ref h3, .ref h4, .int v_kept_laws_count]), (h3, xI X 6 v_kept_laws_kinds), (h4, xI X 6 v_kept_laws_tunes), (h5, xO 3 [.ref h6, .ref g1, .int v_kept_people_count]), (h6, xI X 10 v_kept_people_ages), (h7, xO 0 [.ref h8, .ref h11, .int u.2.1, .int u.2.2.1, .int u.2.2.2.1, .long u.2.2.2.2.1, .int u.2.2.2.2.2.1, .int u.2.2.2.2.2.2.1]), (h8, xO 2 [.ref h9, .ref h10, .int u.2.2.2.2.2.2.2.1]), (h9, xI X 6 u.2.2.2.2.2.2.2.2.1), (h10, xI X 6 u.2.2.2.2.2.2.2.2.2.1), (h11, xO 3 [.ref h12, .ref g2, .int u.2.2.2.2.2.2.2.2.2.2.1]), (h12, xI X 10 u.2.2.2.2.2.2.2.2.2.2.2.1), (h13, xI X 5 u.2.2.2.2.2.2.2.2.2.2.2.2.1), (h14, xO 4 [.ref h15, .ref h16, .ref g3]), (h15, xI X 8 u.2.2.2.2.2.2.2.2.2.2.2.2.2.1), (h16, xI X 8 u.2.2.2.2.2.2.2.2.2.2.2.2.2.2)] A) (n := 0) md_X6_back.1 (Nat.le_of_ble_eq_true rfl) ?_
  intro p e s m args below meth c ls A hC hr hlk hH hl
  have hl : lv_has ls 1 [(0, .ref h0)] := hl
  have hx := hC.1
  have hb := hC.2.1
  refine lv_aload_n hx hb dX6_back_0 rfl (lv_at hl 0 rfl) ?_
  refine x_get hC fd_RX6_342 hH.1 0 rfl rfl dX6_back_1 ?_
  refine lv_if_ne (tgt := 14) hx hb dX6_back_4 (by decide) (fun c1 => ?_) (fun c1 => ?_)
  · have hf := xe c1 hf
    refine lv_aload_n hx hb dX6_back_14 rfl (lv_at hl 0 rfl) ?_
    refine x_get hC fd_RX6_10 hH.1 0 rfl rfl dX6_back_15 ?_
    refine lv_aload_n hx hb dX6_back_18 rfl (lv_at hl 0 rfl) ?_
    refine x_get hC fd_RX6_16 hH.1 0 rfl rfl dX6_back_19 ?_
    obtain ⟨u2, hf2, hf⟩ := xb hf
    refine x_ranw (ws' := [(h0, xO 6 [.ref h7, .ref h1, .ref g0, .ref h14, .ref h13, .int v_isKept]), (h1, xO 0 [.ref h2, .ref h5, .int v_kept_inForce, .int v_kept_depth, .int v_kept_miss, .long v_kept_ring, .int v_kept_steps, .int v_kept_seed]), (h2, xO 2 [.ref h3, .ref h4, .int v_kept_laws_count]), (h3, xI X 6 v_kept_laws_kinds), (h4, xI X 6 v_kept_laws_tunes), (h5, xO 3 [.ref h6, .ref g1, .int v_kept_people_count]), (h6, xI X 10 v_kept_people_ages), (h7, xO 0 [.ref h8, .ref h11, .int u2.1, .int u2.2.1, .int u2.2.2.1, .long u2.2.2.2.1, .int u2.2.2.2.2.1, .int u2.2.2.2.2.2.1]), (h8, xO 2 [.ref h9, .ref h10, .int u2.2.2.2.2.2.2.1]), (h9, xI X 6 u2.2.2.2.2.2.2.2.1), (h10, xI X 6 u2.2.2.2.2.2.2.2.2.1), (h11, xO 3 [.ref h12, .ref g2, .int u2.2.2.2.2.2.2.2.2.2.1]), (h12, xI X 10 u2.2.2.2.2.2.2.2.2.2.2), (h13, xI X 5 v_refusals), (h14, xO 4 [.ref h15, .ref h16, .ref g3]), (h15, xI X 8 v_shelves_held), (h16, xI X 8 v_shelves_sizes)]) (x_runV (q0 := 0) (rest := []) (As := [.ref h1]) hC mw_441 md_X0_takeFrom (c_X0_takeFrom (X := X) hf2) hH [7, 8, 9, 10, 11, 12, 1, 2, 3, 4, 5, 6] rfl (by decide) rfl rfl rfl hl.1 rfl rfl (Nat.le_of_ble_eq_true rfl) dX6_back_22 ⟨Nat.le_of_ble_eq_true rfl, Nat.le_of_ble_eq_true rfl⟩ ⟨rfl, rfl⟩ ⟨Nat.le_refl _, Nat.le_refl _⟩) hH [7, 8, 9, 10, 11, 12, 1, 2, 3, 4, 5, 6] rfl rfl rfl rfl rfl (fun hz2 H locs hH => ?_)
    refine lv_aload_n hx hb dX6_back_25 rfl (lv_at hl 0 rfl) ?_
    refine x_get hC fd_RX6_29 hH.1 0 rfl rfl dX6_back_26 ?_
    refine lv_aload_n hx hb dX6_back_29 rfl (lv_at hl 0 rfl) ?_
    refine x_get hC fd_RX6_10 hH.1 0 rfl rfl dX6_back_30 ?_
    refine x_getN hC fd_RX6_81 hH.1 7 rfl rfl dX6_back_33 ?_
    refine x_getN hC fd_RX6_194 hH.1 8 rfl rfl dX6_back_36 ?_
    obtain ⟨u3, hf3, hf⟩ := xb hf
    refine x_ranw (ws' := [(h0, xO 6 [.ref h7, .ref h1, .ref g0, .ref h14, .ref h13, .int v_isKept]), (h1, xO 0 [.ref h2, .ref h5, .int v_kept_inForce, .int v_kept_depth, .int v_kept_miss, .long v_kept_ring, .int v_kept_steps, .int v_kept_seed]), (h2, xO 2 [.ref h3, .ref h4, .int v_kept_laws_count]), (h3, xI X 6 v_kept_laws_kinds), (h4, xI X 6 v_kept_laws_tunes), (h5, xO 3 [.ref h6, .ref g1, .int v_kept_people_count]), (h6, xI X 10 v_kept_people_ages), (h7, xO 0 [.ref h8, .ref h11, .int u2.1, .int u2.2.1, .int u2.2.2.1, .long u2.2.2.2.1, .int u2.2.2.2.2.1, .int u2.2.2.2.2.2.1]), (h8, xO 2 [.ref h9, .ref h10, .int u2.2.2.2.2.2.2.1]), (h9, xI X 6 u2.2.2.2.2.2.2.2.1), (h10, xI X 6 u2.2.2.2.2.2.2.2.2.1), (h11, xO 3 [.ref h12, .ref g2, .int u2.2.2.2.2.2.2.2.2.2.1]), (h12, xI X 10 u2.2.2.2.2.2.2.2.2.2.2), (h13, xI X 5 v_refusals), (h14, xO 4 [.ref h15, .ref h16, .ref g3]), (h15, xI X 8 u3.1), (h16, xI X 8 u3.2)]) (x_runV (q0 := 0) (rest := []) (As := [.int u2.2.2.2.2.2.2.1]) hC mw_1377 md_X4_clearLawsFrom (c_X4_clearLawsFrom (X := X) hf3) hH [14, 15, 16] rfl (by decide) rfl rfl rfl hl.1 rfl rfl (Nat.le_of_ble_eq_true rfl) dX6_back_39 ⟨Nat.le_of_ble_eq_true rfl, Nat.le_of_ble_eq_true rfl⟩ ⟨rfl, rfl⟩ ⟨Nat.le_refl _, Nat.le_refl _⟩) hH [14, 15, 16] rfl rfl rfl rfl rfl (fun hz3 H locs hH => ?_)
    refine lv_iconst (v := (nI 1)) hx hb dX6_back_42 (by decide) ?_
    exact x_retiw (φ := fun _ => True) (f := fun u : Int32 × Int32 × Int32 × Int32 × Int64 × Int32 × Int32 × Int32 × (Nat → Int32) × (Nat → Int32) × Int32 × (Nat → Int32) × (Nat → Int32) × (Nat → Int32) × (Nat → Int32) => u.1) (wf := fun u : Int32 × Int32 × Int32 × Int32 × Int64 × Int32 × Int32 × Int32 × (Nat → Int32) × (Nat → Int32) × Int32 × (Nat → Int32) × (Nat → Int32) × (Nat → Int32) × (Nat → Int32) => [(h0, xO 6 [.ref h7, .ref h1, .ref g0, .ref h14, .ref h13, .int v_isKept]), (h1, xO 0 [.ref h2, .ref h5, .int v_kept_inForce, .int v_kept_depth, .int v_kept_miss, .long v_kept_ring, .int v_kept_steps, .int v_kept_seed]), (h2, xO 2 [.ref h3, .ref h4, .int v_kept_laws_count]), (h3, xI X 6 v_kept_laws_kinds), (h4, xI X 6 v_kept_laws_tunes), (h5, xO 3 [.ref h6, .ref g1, .int v_kept_people_count]), (h6, xI X 10 v_kept_people_ages), (h7, xO 0 [.ref h8, .ref h11, .int u.2.1, .int u.2.2.1, .int u.2.2.2.1, .long u.2.2.2.2.1, .int u.2.2.2.2.2.1, .int u.2.2.2.2.2.2.1]), (h8, xO 2 [.ref h9, .ref h10, .int u.2.2.2.2.2.2.2.1]), (h9, xI X 6 u.2.2.2.2.2.2.2.2.1), (h10, xI X 6 u.2.2.2.2.2.2.2.2.2.1), (h11, xO 3 [.ref h12, .ref g2, .int u.2.2.2.2.2.2.2.2.2.2.1]), (h12, xI X 10 u.2.2.2.2.2.2.2.2.2.2.2.1), (h13, xI X 5 u.2.2.2.2.2.2.2.2.2.2.2.2.1), (h14, xO 4 [.ref h15, .ref h16, .ref g3]), (h15, xI X 8 u.2.2.2.2.2.2.2.2.2.2.2.2.2.1), (h16, xI X 8 u.2.2.2.2.2.2.2.2.2.2.2.2.2.2)]) hC hr hlk trivial hf hH rfl rfl dX6_back_43
  · have hf := xt c1 hf
    refine lv_aload_n hx hb dX6_back_7 rfl (lv_at hl 0 rfl) ?_
    refine lv_bipush (v := (-5 : Int32)) hx hb dX6_back_8 (by decide) ?_
    obtain ⟨u4, hf4, hf⟩ := xb hf
    refine x_ranw (ws' := [(h0, xO 6 [.ref h7, .ref h1, .ref g0, .ref h14, .ref h13, .int v_isKept]), (h1, xO 0 [.ref h2, .ref h5, .int v_kept_inForce, .int v_kept_depth, .int v_kept_miss, .long v_kept_ring, .int v_kept_steps, .int v_kept_seed]), (h2, xO 2 [.ref h3, .ref h4, .int v_kept_laws_count]), (h3, xI X 6 v_kept_laws_kinds), (h4, xI X 6 v_kept_laws_tunes), (h5, xO 3 [.ref h6, .ref g1, .int v_kept_people_count]), (h6, xI X 10 v_kept_people_ages), (h7, xO 0 [.ref h8, .ref h11, .int v_now_inForce, .int v_now_depth, .int v_now_miss, .long v_now_ring, .int v_now_steps, .int v_now_seed]), (h8, xO 2 [.ref h9, .ref h10, .int v_now_laws_count]), (h9, xI X 6 v_now_laws_kinds), (h10, xI X 6 v_now_laws_tunes), (h11, xO 3 [.ref h12, .ref g2, .int v_now_people_count]), (h12, xI X 10 v_now_people_ages), (h13, xI X 5 u4.2), (h14, xO 4 [.ref h15, .ref h16, .ref g3]), (h15, xI X 8 v_shelves_held), (h16, xI X 8 v_shelves_sizes)]) (x_runV (q0 := 0) (rest := []) (As := [.int (-5 : Int32)]) hC mw_100 md_X6_refuse (c_X6_refuse (X := X) hf4) hH [0, 13] rfl (by decide) rfl rfl rfl hl.1 rfl rfl (Nat.le_of_ble_eq_true rfl) dX6_back_10 ⟨Nat.le_of_ble_eq_true rfl, Nat.le_of_ble_eq_true rfl⟩ ⟨rfl, rfl⟩ ⟨Nat.le_refl _, Nat.le_refl _⟩) hH [0, 13] rfl rfl rfl rfl rfl (fun hz4 H locs hH => ?_)
    exact x_retiw (φ := fun _ => True) (f := fun u : Int32 × Int32 × Int32 × Int32 × Int64 × Int32 × Int32 × Int32 × (Nat → Int32) × (Nat → Int32) × Int32 × (Nat → Int32) × (Nat → Int32) × (Nat → Int32) × (Nat → Int32) => u.1) (wf := fun u : Int32 × Int32 × Int32 × Int32 × Int64 × Int32 × Int32 × Int32 × (Nat → Int32) × (Nat → Int32) × Int32 × (Nat → Int32) × (Nat → Int32) × (Nat → Int32) × (Nat → Int32) => [(h0, xO 6 [.ref h7, .ref h1, .ref g0, .ref h14, .ref h13, .int v_isKept]), (h1, xO 0 [.ref h2, .ref h5, .int v_kept_inForce, .int v_kept_depth, .int v_kept_miss, .long v_kept_ring, .int v_kept_steps, .int v_kept_seed]), (h2, xO 2 [.ref h3, .ref h4, .int v_kept_laws_count]), (h3, xI X 6 v_kept_laws_kinds), (h4, xI X 6 v_kept_laws_tunes), (h5, xO 3 [.ref h6, .ref g1, .int v_kept_people_count]), (h6, xI X 10 v_kept_people_ages), (h7, xO 0 [.ref h8, .ref h11, .int u.2.1, .int u.2.2.1, .int u.2.2.2.1, .long u.2.2.2.2.1, .int u.2.2.2.2.2.1, .int u.2.2.2.2.2.2.1]), (h8, xO 2 [.ref h9, .ref h10, .int u.2.2.2.2.2.2.2.1]), (h9, xI X 6 u.2.2.2.2.2.2.2.2.1), (h10, xI X 6 u.2.2.2.2.2.2.2.2.2.1), (h11, xO 3 [.ref h12, .ref g2, .int u.2.2.2.2.2.2.2.2.2.2.1]), (h12, xI X 10 u.2.2.2.2.2.2.2.2.2.2.2.1), (h13, xI X 5 u.2.2.2.2.2.2.2.2.2.2.2.2.1), (h14, xO 4 [.ref h15, .ref h16, .ref g3]), (h15, xI X 8 u.2.2.2.2.2.2.2.2.2.2.2.2.2.1), (h16, xI X 8 u.2.2.2.2.2.2.2.2.2.2.2.2.2.2)]) hC hr hlk trivial hf hH rfl rfl dX6_back_13
def f_X6_status (v_now_inForce : Int32) (v_now_depth : Int32) (v_now_miss : Int32) (v_now_ring : Int64) (v_now_steps : Int32) (v_now_seed : Int32) (v_now_laws_count : Int32) (v_now_people_count : Int32) (v_now_people_ages : (Nat → Int32)) (v_reader_tape_size : Int32) (v_refusals : (Nat → Int32)) (v_shelves_held : (Nat → Int32)) (p1 : Int32) : Option (Int32) :=
  if p1 = (nI 0) then
    some v_now_laws_count
  else
  if p1 = (nI 1) then
    some v_now_inForce
  else
  if p1 = (nI 2) then
    some v_now_depth
  else
  if p1 = (nI 3) then
    some v_now_miss
  else
  if p1 = (nI 4) then
    some v_now_steps
  else
  if p1 = (nI 5) then
    (f_J13_bitCount_95d88 v_now_ring).bind fun u7 =>
    some u7
  else
  if p1 = (nI 6) then
    some v_now_people_count
  else
  if p1 = (nI 7) then
    (f_X3_agesOfAll v_now_people_count v_now_people_ages).bind fun u10 =>
    some u10
  else
  if p1 = (nI 8) then
    some v_reader_tape_size
  else
  if p1 = (nI 9) then
    some v_now_seed
  else
  if p1 = (nI 10) then
    (f_X4_howManyHold v_shelves_held).bind fun u14 =>
    some u14
  else
  (f_X6_elementOf 5 v_refusals (p1 - (nI 12)) (-1 : Int32)).bind fun u15 =>
  some u15
set_option maxHeartbeats 4000000 in
set_option maxRecDepth 100000 in
theorem c_X6_status {l : Launch} {X : xG} {h0 h1 h2 h3 h4 h5 h6 h7 h8 h9 g0 g1 g2 g3 g4 g5 g6 g7 : Nat} {v_isKept : Int32} {v_now_inForce : Int32} {v_now_depth : Int32} {v_now_miss : Int32} {v_now_ring : Int64} {v_now_steps : Int32} {v_now_seed : Int32} {v_now_laws_count : Int32} {v_now_people_count : Int32} {v_now_people_ages : (Nat → Int32)} {v_reader_number : Int32} {v_reader_tape_size : Int32} {v_reader_tape_token : Int32} {v_reader_tape_tokenStart : Int32} {v_reader_tape_tokenEnd : Int32} {v_refusals : (Nat → Int32)} {v_shelves_held : (Nat → Int32)} {p1 : Int32} {u : Int32} (hf : f_X6_status v_now_inForce v_now_depth v_now_miss v_now_ring v_now_steps v_now_seed v_now_laws_count v_now_people_count v_now_people_ages v_reader_tape_size v_refusals v_shelves_held p1 = some u) : Met l yX6_status (xw yX6_status cX6_status 2 (some .int)) (xrm 4 86) (xPc [.ref h0, .int p1] X [(h0, xO 6 [.ref h1, .ref g0, .ref h5, .ref h8, .ref h7, .int v_isKept]), (h1, xO 0 [.ref h2, .ref h3, .int v_now_inForce, .int v_now_depth, .int v_now_miss, .long v_now_ring, .int v_now_steps, .int v_now_seed]), (h2, xO 2 [.ref g1, .ref g2, .int v_now_laws_count]), (h3, xO 3 [.ref h4, .ref g3, .int v_now_people_count]), (h4, xI X 10 v_now_people_ages), (h5, xO 1 [.ref h6, .ref g4, .int v_reader_number]), (h6, xO 5 [.ref g5, .int v_reader_tape_size, .int v_reader_tape_token, .int v_reader_tape_tokenStart, .int v_reader_tape_tokenEnd]), (h7, xI X 5 v_refusals), (h8, xO 4 [.ref h9, .ref g6, .ref g7]), (h9, xI X 8 v_shelves_held)]) (xQ True (.returned (some (.int u)))) 0 0 xNo := by
  refine xMet (n := 1) md_X6_status.1 (Nat.le_of_ble_eq_true rfl) ?_
  intro p e s m args below meth c ls A hC hr hlk hH hl
  have hl : lv_has ls 2 [(0, .ref h0), (1, .int p1)] := hl
  have hx := hC.1
  have hb := hC.2.1
  refine lv_iload_n hx hb dX6_status_0 rfl (lv_at hl 1 rfl) ?_
  by_cases c1 : p1 = (nI 0)
  · have hf := xt c1 hf
    refine x_tin (k := (nI 0)) (tgt := 60) hx hb dX6_status_1 c1 (by decide) (by decide) ?_
    refine lv_aload_n hx hb dX6_status_60 rfl (lv_at hl 0 rfl) ?_
    refine x_get hC fd_RX6_10 hH.1 0 rfl rfl dX6_status_61 ?_
    refine x_getN hC fd_RX6_81 hH.1 1 rfl rfl dX6_status_64 ?_
    refine x_getN hC fd_RX6_194 hH.1 2 rfl rfl dX6_status_67 ?_
    exact x_reti hC hr hlk trivial hf dX6_status_70
  · have hf := xe c1 hf
    by_cases c2 : p1 = (nI 1)
    · have hf := xt c2 hf
      refine x_tin (k := (nI 1)) (tgt := 71) hx hb dX6_status_1 c2 (by decide) (by decide) ?_
      refine lv_aload_n hx hb dX6_status_71 rfl (lv_at hl 0 rfl) ?_
      refine x_get hC fd_RX6_10 hH.1 0 rfl rfl dX6_status_72 ?_
      refine x_getN hC fd_RX6_135 hH.1 1 rfl rfl dX6_status_75 ?_
      exact x_reti hC hr hlk trivial hf dX6_status_78
    · have hf := xe c2 hf
      by_cases c3 : p1 = (nI 2)
      · have hf := xt c3 hf
        refine x_tin (k := (nI 2)) (tgt := 79) hx hb dX6_status_1 c3 (by decide) (by decide) ?_
        refine lv_aload_n hx hb dX6_status_79 rfl (lv_at hl 0 rfl) ?_
        refine x_get hC fd_RX6_10 hH.1 0 rfl rfl dX6_status_80 ?_
        refine x_getN hC fd_RX6_139 hH.1 1 rfl rfl dX6_status_83 ?_
        exact x_reti hC hr hlk trivial hf dX6_status_86
      · have hf := xe c3 hf
        by_cases c4 : p1 = (nI 3)
        · have hf := xt c4 hf
          refine x_tin (k := (nI 3)) (tgt := 87) hx hb dX6_status_1 c4 (by decide) (by decide) ?_
          refine lv_aload_n hx hb dX6_status_87 rfl (lv_at hl 0 rfl) ?_
          refine x_get hC fd_RX6_10 hH.1 0 rfl rfl dX6_status_88 ?_
          refine x_getN hC fd_RX6_142 hH.1 1 rfl rfl dX6_status_91 ?_
          exact x_reti hC hr hlk trivial hf dX6_status_94
        · have hf := xe c4 hf
          by_cases c5 : p1 = (nI 4)
          · have hf := xt c5 hf
            refine x_tin (k := (nI 4)) (tgt := 95) hx hb dX6_status_1 c5 (by decide) (by decide) ?_
            refine lv_aload_n hx hb dX6_status_95 rfl (lv_at hl 0 rfl) ?_
            refine x_get hC fd_RX6_10 hH.1 0 rfl rfl dX6_status_96 ?_
            refine x_getN hC fd_RX6_200 hH.1 1 rfl rfl dX6_status_99 ?_
            exact x_reti hC hr hlk trivial hf dX6_status_102
          · have hf := xe c5 hf
            by_cases c6 : p1 = (nI 5)
            · have hf := xt c6 hf
              refine x_tin (k := (nI 5)) (tgt := 103) hx hb dX6_status_1 c6 (by decide) (by decide) ?_
              refine lv_aload_n hx hb dX6_status_103 rfl (lv_at hl 0 rfl) ?_
              refine x_get hC fd_RX6_10 hH.1 0 rfl rfl dX6_status_104 ?_
              refine x_getN hC fd_RX6_120 hH.1 1 rfl rfl dX6_status_107 ?_
              obtain ⟨u7, hf7, hf⟩ := xb hf
              refine x_ran (x_runS (rest := []) (As := [.long v_now_ring]) hC mw_744 md_J13_bitCount_95d88 (c_J13_bitCount_95d88 (X := X) hf7) hH [] rfl (by decide) hl.1 rfl rfl (Nat.le_of_ble_eq_true rfl) dX6_status_110 ⟨Nat.le_of_ble_eq_true rfl, Nat.le_of_ble_eq_true rfl⟩ ⟨rfl, rfl⟩ ⟨Nat.le_refl _, Nat.le_refl _⟩) rfl (fun hz7 => ?_)
              exact x_reti hC hr hlk trivial hf dX6_status_113
            · have hf := xe c6 hf
              by_cases c8 : p1 = (nI 6)
              · have hf := xt c8 hf
                refine x_tin (k := (nI 6)) (tgt := 114) hx hb dX6_status_1 c8 (by decide) (by decide) ?_
                refine lv_aload_n hx hb dX6_status_114 rfl (lv_at hl 0 rfl) ?_
                refine x_get hC fd_RX6_10 hH.1 0 rfl rfl dX6_status_115 ?_
                refine x_getN hC fd_RX6_145 hH.1 1 rfl rfl dX6_status_118 ?_
                refine x_getN hC fd_RX6_301 hH.1 3 rfl rfl dX6_status_121 ?_
                exact x_reti hC hr hlk trivial hf dX6_status_124
              · have hf := xe c8 hf
                by_cases c9 : p1 = (nI 7)
                · have hf := xt c9 hf
                  refine x_tin (k := (nI 7)) (tgt := 125) hx hb dX6_status_1 c9 (by decide) (by decide) ?_
                  refine lv_aload_n hx hb dX6_status_125 rfl (lv_at hl 0 rfl) ?_
                  refine x_get hC fd_RX6_10 hH.1 0 rfl rfl dX6_status_126 ?_
                  refine x_getN hC fd_RX6_145 hH.1 1 rfl rfl dX6_status_129 ?_
                  obtain ⟨u10, hf10, hf⟩ := xb hf
                  refine x_ran (x_runV (q0 := 0) (rest := []) (As := []) hC mw_1391 md_X3_agesOfAll (c_X3_agesOfAll (X := X) hf10) hH [3, 4] rfl (by decide) rfl rfl rfl hl.1 rfl rfl (Nat.le_of_ble_eq_true rfl) dX6_status_132 ⟨Nat.le_of_ble_eq_true rfl, Nat.le_of_ble_eq_true rfl⟩ ⟨rfl, rfl⟩ ⟨Nat.le_refl _, Nat.le_refl _⟩) rfl (fun hz10 => ?_)
                  exact x_reti hC hr hlk trivial hf dX6_status_135
                · have hf := xe c9 hf
                  by_cases c11 : p1 = (nI 8)
                  · have hf := xt c11 hf
                    refine x_tin (k := (nI 8)) (tgt := 136) hx hb dX6_status_1 c11 (by decide) (by decide) ?_
                    refine lv_aload_n hx hb dX6_status_136 rfl (lv_at hl 0 rfl) ?_
                    refine x_get hC fd_RX6_22 hH.1 0 rfl rfl dX6_status_137 ?_
                    refine x_getN hC fd_RX6_154 hH.1 5 rfl rfl dX6_status_140 ?_
                    refine x_getN hC fd_RX6_162 hH.1 6 rfl rfl dX6_status_143 ?_
                    exact x_reti hC hr hlk trivial hf dX6_status_146
                  · have hf := xe c11 hf
                    by_cases c12 : p1 = (nI 9)
                    · have hf := xt c12 hf
                      refine x_tin (k := (nI 9)) (tgt := 147) hx hb dX6_status_1 c12 (by decide) (by decide) ?_
                      refine lv_aload_n hx hb dX6_status_147 rfl (lv_at hl 0 rfl) ?_
                      refine x_get hC fd_RX6_10 hH.1 0 rfl rfl dX6_status_148 ?_
                      refine x_getN hC fd_RX6_339 hH.1 1 rfl rfl dX6_status_151 ?_
                      exact x_reti hC hr hlk trivial hf dX6_status_154
                    · have hf := xe c12 hf
                      by_cases c13 : p1 = (nI 10)
                      · have hf := xt c13 hf
                        refine x_tin (k := (nI 10)) (tgt := 155) hx hb dX6_status_1 c13 (by decide) (by decide) ?_
                        refine lv_aload_n hx hb dX6_status_155 rfl (lv_at hl 0 rfl) ?_
                        refine x_get hC fd_RX6_29 hH.1 0 rfl rfl dX6_status_156 ?_
                        obtain ⟨u14, hf14, hf⟩ := xb hf
                        refine x_ran (x_runV (q0 := 0) (rest := []) (As := []) hC mw_1392 md_X4_howManyHold (c_X4_howManyHold (X := X) hf14) hH [8, 9] rfl (by decide) rfl rfl rfl hl.1 rfl rfl (Nat.le_of_ble_eq_true rfl) dX6_status_159 ⟨Nat.le_of_ble_eq_true rfl, Nat.le_of_ble_eq_true rfl⟩ ⟨rfl, rfl⟩ ⟨Nat.le_refl _, Nat.le_refl _⟩) rfl (fun hz14 => ?_)
                        exact x_reti hC hr hlk trivial hf dX6_status_162
                      · have hf := xe c13 hf
                        refine x_tout (tgt := 163) hx hb dX6_status_1 (fun j hj => match j, hj with | 0, _ => c1 | 1, _ => c2 | 2, _ => c3 | 3, _ => c4 | 4, _ => c5 | 5, _ => c6 | 6, _ => c8 | 7, _ => c9 | 8, _ => c11 | 9, _ => c12 | 10, _ => c13 | _ + 11, hj => absurd hj (by simp <;> omega)) (by decide) ?_
                        refine lv_aload_n hx hb dX6_status_163 rfl (lv_at hl 0 rfl) ?_
                        refine x_get hC fd_RX6_33 hH.1 0 rfl rfl dX6_status_164 ?_
                        refine lv_iload_n hx hb dX6_status_167 rfl (lv_at hl 1 rfl) ?_
                        refine lv_bipush (v := (nI 12)) hx hb dX6_status_168 (by decide) ?_
                        refine lv_isub hx hb dX6_status_170 ?_
                        refine lv_iconst (v := (-1 : Int32)) hx hb dX6_status_171 (by decide) ?_
                        obtain ⟨u15, hf15, hf⟩ := xb hf
                        refine x_ran (x_runS (rest := []) (As := [.ref h7, .int (p1 - (nI 12)), .int (-1 : Int32)]) hC mw_1396 md_X6_elementOf (c_X6_elementOf (X := X) hf15) hH [7] rfl (by decide) hl.1 rfl rfl (Nat.le_of_ble_eq_true rfl) dX6_status_172 ⟨Nat.le_of_ble_eq_true rfl, Nat.le_of_ble_eq_true rfl⟩ ⟨rfl, rfl⟩ ⟨Nat.le_refl _, Nat.le_refl _⟩) rfl (fun hz15 => ?_)
                        exact x_reti hC hr hlk trivial hf dX6_status_175
def f_X7_no (v_refusals : (Nat → Int32)) (p1 : Int32) : Option (Int32 × (Nat → Int32)) :=
  if xout (-p1) 7 then none else
  if xout (-p1) 7 then none else
  some (p1, upd v_refusals (xat (-p1)) ((v_refusals (xat (-p1))) + (nI 1)))
set_option maxHeartbeats 4000000 in
set_option maxRecDepth 100000 in
theorem c_X7_no {l : Launch} {X : xG} {h0 h1 g0 g1 g2 g3 g4 g5 g6 g7 g8 g9 : Nat} {v_laws : Int32} {v_inForce : Int32} {v_depth : Int32} {v_miss : Int32} {v_ring : Int64} {v_size : Int32} {v_people : Int32} {v_seed : Int32} {v_taped : Int32} {v_from : Int32} {v_to : Int32} {v_token : Int32} {v_value : Int32} {v_imaged : Int32} {v_oldRing : Int64} {v_aheadRing : Int64} {v_refusals : (Nat → Int32)} {p1 : Int32} {u : Int32 × (Nat → Int32)} (hf : f_X7_no v_refusals p1 = some u) : Met l yX7_no (xw yX7_no cX7_no 2 (some .int)) (xrm 0 0) (xPc [.ref h0, .int p1] X [(h0, xO 7 [.int v_laws, .ref g0, .ref g1, .int v_inForce, .int v_depth, .int v_miss, .long v_ring, .int v_size, .int v_people, .ref g2, .int v_seed, .int v_taped, .ref g3, .int v_from, .int v_to, .int v_token, .int v_value, .ref g4, .ref g5, .ref g6, .ref h1, .int v_imaged, .ref g7, .long v_oldRing, .ref g8, .long v_aheadRing, .ref g9]), (h1, xI X 7 v_refusals)]) (xQw True (.returned (some (.int u.1))) X [(h0, xO 7 [.int v_laws, .ref g0, .ref g1, .int v_inForce, .int v_depth, .int v_miss, .long v_ring, .int v_size, .int v_people, .ref g2, .int v_seed, .int v_taped, .ref g3, .int v_from, .int v_to, .int v_token, .int v_value, .ref g4, .ref g5, .ref g6, .ref h1, .int v_imaged, .ref g7, .long v_oldRing, .ref g8, .long v_aheadRing, .ref g9]), (h1, xI X 7 u.2)] (xAs [(h0, xO 7 [.int v_laws, .ref g0, .ref g1, .int v_inForce, .int v_depth, .int v_miss, .long v_ring, .int v_size, .int v_people, .ref g2, .int v_seed, .int v_taped, .ref g3, .int v_from, .int v_to, .int v_token, .int v_value, .ref g4, .ref g5, .ref g6, .ref h1, .int v_imaged, .ref g7, .long v_oldRing, .ref g8, .long v_aheadRing, .ref g9]), (h1, xI X 7 v_refusals)])) 0 0 (xAs [(h0, xO 7 [.int v_laws, .ref g0, .ref g1, .int v_inForce, .int v_depth, .int v_miss, .long v_ring, .int v_size, .int v_people, .ref g2, .int v_seed, .int v_taped, .ref g3, .int v_from, .int v_to, .int v_token, .int v_value, .ref g4, .ref g5, .ref g6, .ref h1, .int v_imaged, .ref g7, .long v_oldRing, .ref g8, .long v_aheadRing, .ref g9]), (h1, xI X 7 v_refusals)]) := by
  refine xMetw (Qc := fun A => xQw True (.returned (some (.int u.1))) X [(h0, xO 7 [.int v_laws, .ref g0, .ref g1, .int v_inForce, .int v_depth, .int v_miss, .long v_ring, .int v_size, .int v_people, .ref g2, .int v_seed, .int v_taped, .ref g3, .int v_from, .int v_to, .int v_token, .int v_value, .ref g4, .ref g5, .ref g6, .ref h1, .int v_imaged, .ref g7, .long v_oldRing, .ref g8, .long v_aheadRing, .ref g9]), (h1, xI X 7 u.2)] A) (n := 1) md_X7_no.1 (Nat.le_of_ble_eq_true rfl) ?_
  intro p e s m args below meth c ls A hC hr hlk hH hl
  have hl : lv_has ls 2 [(0, .ref h0), (1, .int p1)] := hl
  have hx := hC.1
  have hb := hC.2.1
  refine lv_aload_n hx hb dX7_no_0 rfl (lv_at hl 0 rfl) ?_
  refine x_get hC fd_RX7_32 hH.1 0 rfl rfl dX7_no_1 ?_
  refine lv_iload_n hx hb dX7_no_4 rfl (lv_at hl 1 rfl) ?_
  refine lv_ineg hx hb dX7_no_5 ?_
  refine lv_dup2_11 hx hb dX7_no_6 rfl rfl ?_
  obtain ⟨n1, hf⟩ := xok hf
  refine x_iald hC hH.1 1 rfl n1 dX7_no_7 ?_
  refine lv_iconst (v := (nI 1)) hx hb dX7_no_8 (by decide) ?_
  refine lv_iadd hx hb dX7_no_9 ?_
  obtain ⟨n2, hf⟩ := xok hf
  refine x_iast (ws' := [(h0, xO 7 [.int v_laws, .ref g0, .ref g1, .int v_inForce, .int v_depth, .int v_miss, .long v_ring, .int v_size, .int v_people, .ref g2, .int v_seed, .int v_taped, .ref g3, .int v_from, .int v_to, .int v_token, .int v_value, .ref g4, .ref g5, .ref g6, .ref h1, .int v_imaged, .ref g7, .long v_oldRing, .ref g8, .long v_aheadRing, .ref g9]), (h1, xI X 7 (upd v_refusals (xat (-p1)) ((v_refusals (xat (-p1))) + (nI 1))))]) hC hH 1 rfl n2 dX7_no_10 rfl (fun H locs hH => ?_)
  refine lv_iload_n hx hb dX7_no_11 rfl (lv_at hl 1 rfl) ?_
  exact x_retiw (φ := fun _ => True) (f := fun u : Int32 × (Nat → Int32) => u.1) (wf := fun u : Int32 × (Nat → Int32) => [(h0, xO 7 [.int v_laws, .ref g0, .ref g1, .int v_inForce, .int v_depth, .int v_miss, .long v_ring, .int v_size, .int v_people, .ref g2, .int v_seed, .int v_taped, .ref g3, .int v_from, .int v_to, .int v_token, .int v_value, .ref g4, .ref g5, .ref g6, .ref h1, .int v_imaged, .ref g7, .long v_oldRing, .ref g8, .long v_aheadRing, .ref g9]), (h1, xI X 7 u.2)]) hC hr hlk trivial hf hH rfl rfl dX7_no_12
def f_X7_within (p0 : Int32) (p1 : Int32) (p2 : Int32) : Option (Int32) :=
  if p0 < p1 then
    some (nI 0)
  else
  if p2 < p0 then
    some (nI 0)
  else
  some (nI 1)
set_option maxHeartbeats 4000000 in
set_option maxRecDepth 100000 in
theorem c_X7_within {l : Launch} {X : xG} {p0 : Int32} {p1 : Int32} {p2 : Int32} {u : Int32} (hf : f_X7_within p0 p1 p2 = some u) : Met l yX7_within (xw yX7_within cX7_within 3 (some .boolean)) (xrm 0 0) (xPc [.int p0, .int p1, .int p2] X []) (xQ (u = 0 ∨ u = 1) (.returned (some (.int u)))) 0 0 xNo := by
  refine xMet (n := 3) md_X7_within.1 (Nat.le_of_ble_eq_true rfl) ?_
  intro p e s m args below meth c ls A hC hr hlk hH hl
  have hl : lv_has ls 3 [(0, .int p0), (1, .int p1), (2, .int p2)] := hl
  have hx := hC.1
  have hb := hC.2.1
  refine lv_iload_n hx hb dX7_within_0 rfl (lv_at hl 0 rfl) ?_
  refine lv_iload_n hx hb dX7_within_1 rfl (lv_at hl 1 rfl) ?_
  refine lv_icmp_lt (tgt := 14) hx hb dX7_within_2 (by decide) (fun c1 => ?_) (fun c1 => ?_)
  · have hf := xt c1 hf
    refine lv_iconst (v := (nI 0)) hx hb dX7_within_14 (by decide) ?_
    exact x_retz hC hr hlk (Or.inl rfl) hf dX7_within_15
  · have hf := xe c1 hf
    refine lv_iload_n hx hb dX7_within_5 rfl (lv_at hl 0 rfl) ?_
    refine lv_iload_n hx hb dX7_within_6 rfl (lv_at hl 2 rfl) ?_
    refine lv_icmp_gt (tgt := 14) hx hb dX7_within_7 (by decide) (fun c2 => ?_) (fun c2 => ?_)
    · have hf := xt c2 hf
      refine lv_iconst (v := (nI 0)) hx hb dX7_within_14 (by decide) ?_
      exact x_retz hC hr hlk (Or.inl rfl) hf dX7_within_15
    · have hf := xe c2 hf
      refine lv_iconst (v := (nI 1)) hx hb dX7_within_10 (by decide) ?_
      refine lv_goto (tgt := 15) hx hb dX7_within_11 (by decide) ?_
      exact x_retz hC hr hlk (Or.inr rfl) hf dX7_within_15
def f_X7_has (p0 : Int64) (p1 : Int32) : Option (Int32) :=
  if (xcmp ((xlshr p0 p1) &&& (lN 1)) (lN 1)) = (nI 0) then
    some (nI 1)
  else
  some (nI 0)
set_option maxHeartbeats 4000000 in
set_option maxRecDepth 100000 in
theorem c_X7_has {l : Launch} {X : xG} {p0 : Int64} {p1 : Int32} {u : Int32} (hf : f_X7_has p0 p1 = some u) : Met l yX7_has (xw yX7_has cX7_has 3 (some .boolean)) (xrm 0 0) (xPc [.long p0, .int p1] X []) (xQ (u = 0 ∨ u = 1) (.returned (some (.int u)))) 0 0 xNo := by
  refine xMet (n := 2) md_X7_has.1 (Nat.le_of_ble_eq_true rfl) ?_
  intro p e s m args below meth c ls A hC hr hlk hH hl
  have hl : lv_has ls 3 [(0, .long p0), (2, .int p1)] := hl
  have hx := hC.1
  have hb := hC.2.1
  refine lv_lload_n hx hb dX7_has_0 rfl (lv_at hl 0 rfl) ?_
  refine lv_iload_n hx hb dX7_has_1 rfl (lv_at hl 1 rfl) ?_
  refine x_lshr hx hb dX7_has_2 ?_
  refine lv_lconst (v := (lN 1)) hx hb dX7_has_3 (by decide) ?_
  refine lv_land hx hb dX7_has_4 ?_
  refine lv_lconst (v := (lN 1)) hx hb dX7_has_5 (by decide) ?_
  refine x_lcmp hx hb dX7_has_6 ?_
  refine lv_if_ne (tgt := 14) hx hb dX7_has_7 (by decide) (fun c1 => ?_) (fun c1 => ?_)
  · have hf := xe c1 hf
    refine lv_iconst (v := (nI 0)) hx hb dX7_has_14 (by decide) ?_
    exact x_retz hC hr hlk (Or.inl rfl) hf dX7_has_15
  · have hf := xt c1 hf
    refine lv_iconst (v := (nI 1)) hx hb dX7_has_10 (by decide) ?_
    refine lv_goto (tgt := 15) hx hb dX7_has_11 (by decide) ?_
    exact x_retz hC hr hlk (Or.inr rfl) hf dX7_has_15
def f_X7_isLaw (v_laws : Int32) (p1 : Int32) : Option (Int32) :=
  (f_X7_within p1 (nI 0) (v_laws - (nI 1))).bind fun u1 =>
  some u1
set_option maxHeartbeats 4000000 in
set_option maxRecDepth 100000 in
theorem c_X7_isLaw {l : Launch} {X : xG} {h0 g0 g1 g2 g3 g4 g5 g6 g7 g8 g9 g10 : Nat} {v_laws : Int32} {v_inForce : Int32} {v_depth : Int32} {v_miss : Int32} {v_ring : Int64} {v_size : Int32} {v_people : Int32} {v_seed : Int32} {v_taped : Int32} {v_from : Int32} {v_to : Int32} {v_token : Int32} {v_value : Int32} {v_imaged : Int32} {v_oldRing : Int64} {v_aheadRing : Int64} {p1 : Int32} {u : Int32} (hf : f_X7_isLaw v_laws p1 = some u) : Met l yX7_isLaw (xw yX7_isLaw cX7_isLaw 2 (some .boolean)) (xrm 1 22) (xPc [.ref h0, .int p1] X [(h0, xO 7 [.int v_laws, .ref g0, .ref g1, .int v_inForce, .int v_depth, .int v_miss, .long v_ring, .int v_size, .int v_people, .ref g2, .int v_seed, .int v_taped, .ref g3, .int v_from, .int v_to, .int v_token, .int v_value, .ref g4, .ref g5, .ref g6, .ref g7, .int v_imaged, .ref g8, .long v_oldRing, .ref g9, .long v_aheadRing, .ref g10])]) (xQ (u = 0 ∨ u = 1) (.returned (some (.int u)))) 0 0 xNo := by
  refine xMet (n := 1) md_X7_isLaw.1 (Nat.le_of_ble_eq_true rfl) ?_
  intro p e s m args below meth c ls A hC hr hlk hH hl
  have hl : lv_has ls 2 [(0, .ref h0), (1, .int p1)] := hl
  have hx := hC.1
  have hb := hC.2.1
  refine lv_iload_n hx hb dX7_isLaw_0 rfl (lv_at hl 1 rfl) ?_
  refine lv_iconst (v := (nI 0)) hx hb dX7_isLaw_1 (by decide) ?_
  refine lv_aload_n hx hb dX7_isLaw_2 rfl (lv_at hl 0 rfl) ?_
  refine x_get hC fd_RX7_52 hH.1 0 rfl rfl dX7_isLaw_3 ?_
  refine lv_iconst (v := (nI 1)) hx hb dX7_isLaw_6 (by decide) ?_
  refine lv_isub hx hb dX7_isLaw_7 ?_
  obtain ⟨u1, hf1, hf⟩ := xb hf
  refine x_ran (x_runS (rest := []) (As := [.int p1, .int (nI 0), .int (v_laws - (nI 1))]) hC mw_140 md_X7_within (c_X7_within (X := X) hf1) hH [] rfl (by decide) hl.1 rfl rfl (Nat.le_of_ble_eq_true rfl) dX7_isLaw_8 ⟨Nat.le_of_ble_eq_true rfl, Nat.le_of_ble_eq_true rfl⟩ ⟨rfl, rfl⟩ ⟨Nat.le_refl _, Nat.le_refl _⟩) rfl (fun hz1 => ?_)
  exact x_retz hC hr hlk hz1 hf dX7_isLaw_11
def f_X7_isOne (v_people : Int32) (p1 : Int32) : Option (Int32) :=
  (f_X7_within p1 (nI 0) (v_people - (nI 1))).bind fun u1 =>
  some u1
set_option maxHeartbeats 4000000 in
set_option maxRecDepth 100000 in
theorem c_X7_isOne {l : Launch} {X : xG} {h0 g0 g1 g2 g3 g4 g5 g6 g7 g8 g9 g10 : Nat} {v_laws : Int32} {v_inForce : Int32} {v_depth : Int32} {v_miss : Int32} {v_ring : Int64} {v_size : Int32} {v_people : Int32} {v_seed : Int32} {v_taped : Int32} {v_from : Int32} {v_to : Int32} {v_token : Int32} {v_value : Int32} {v_imaged : Int32} {v_oldRing : Int64} {v_aheadRing : Int64} {p1 : Int32} {u : Int32} (hf : f_X7_isOne v_people p1 = some u) : Met l yX7_isOne (xw yX7_isOne cX7_isOne 2 (some .boolean)) (xrm 1 22) (xPc [.ref h0, .int p1] X [(h0, xO 7 [.int v_laws, .ref g0, .ref g1, .int v_inForce, .int v_depth, .int v_miss, .long v_ring, .int v_size, .int v_people, .ref g2, .int v_seed, .int v_taped, .ref g3, .int v_from, .int v_to, .int v_token, .int v_value, .ref g4, .ref g5, .ref g6, .ref g7, .int v_imaged, .ref g8, .long v_oldRing, .ref g9, .long v_aheadRing, .ref g10])]) (xQ (u = 0 ∨ u = 1) (.returned (some (.int u)))) 0 0 xNo := by
  refine xMet (n := 1) md_X7_isOne.1 (Nat.le_of_ble_eq_true rfl) ?_
  intro p e s m args below meth c ls A hC hr hlk hH hl
  have hl : lv_has ls 2 [(0, .ref h0), (1, .int p1)] := hl
  have hx := hC.1
  have hb := hC.2.1
  refine lv_iload_n hx hb dX7_isOne_0 rfl (lv_at hl 1 rfl) ?_
  refine lv_iconst (v := (nI 0)) hx hb dX7_isOne_1 (by decide) ?_
  refine lv_aload_n hx hb dX7_isOne_2 rfl (lv_at hl 0 rfl) ?_
  refine x_get hC fd_RX7_59 hH.1 0 rfl rfl dX7_isOne_3 ?_
  refine lv_iconst (v := (nI 1)) hx hb dX7_isOne_6 (by decide) ?_
  refine lv_isub hx hb dX7_isOne_7 ?_
  obtain ⟨u1, hf1, hf⟩ := xb hf
  refine x_ran (x_runS (rest := []) (As := [.int p1, .int (nI 0), .int (v_people - (nI 1))]) hC mw_140 md_X7_within (c_X7_within (X := X) hf1) hH [] rfl (by decide) hl.1 rfl rfl (Nat.le_of_ble_eq_true rfl) dX7_isOne_8 ⟨Nat.le_of_ble_eq_true rfl, Nat.le_of_ble_eq_true rfl⟩ ⟨rfl, rfl⟩ ⟨Nat.le_refl _, Nat.le_refl _⟩) rfl (fun hz1 => ?_)
  exact x_retz hC hr hlk hz1 hf dX7_isOne_11
def f_X7_isStep (v_size : Int32) (p1 : Int32) : Option (Int32) :=
  (f_X7_within p1 (nI 0) (v_size - (nI 1))).bind fun u1 =>
  some u1
set_option maxHeartbeats 4000000 in
set_option maxRecDepth 100000 in
theorem c_X7_isStep {l : Launch} {X : xG} {h0 g0 g1 g2 g3 g4 g5 g6 g7 g8 g9 g10 : Nat} {v_laws : Int32} {v_inForce : Int32} {v_depth : Int32} {v_miss : Int32} {v_ring : Int64} {v_size : Int32} {v_people : Int32} {v_seed : Int32} {v_taped : Int32} {v_from : Int32} {v_to : Int32} {v_token : Int32} {v_value : Int32} {v_imaged : Int32} {v_oldRing : Int64} {v_aheadRing : Int64} {p1 : Int32} {u : Int32} (hf : f_X7_isStep v_size p1 = some u) : Met l yX7_isStep (xw yX7_isStep cX7_isStep 2 (some .boolean)) (xrm 1 22) (xPc [.ref h0, .int p1] X [(h0, xO 7 [.int v_laws, .ref g0, .ref g1, .int v_inForce, .int v_depth, .int v_miss, .long v_ring, .int v_size, .int v_people, .ref g2, .int v_seed, .int v_taped, .ref g3, .int v_from, .int v_to, .int v_token, .int v_value, .ref g4, .ref g5, .ref g6, .ref g7, .int v_imaged, .ref g8, .long v_oldRing, .ref g9, .long v_aheadRing, .ref g10])]) (xQ (u = 0 ∨ u = 1) (.returned (some (.int u)))) 0 0 xNo := by
  refine xMet (n := 1) md_X7_isStep.1 (Nat.le_of_ble_eq_true rfl) ?_
  intro p e s m args below meth c ls A hC hr hlk hH hl
  have hl : lv_has ls 2 [(0, .ref h0), (1, .int p1)] := hl
  have hx := hC.1
  have hb := hC.2.1
  refine lv_iload_n hx hb dX7_isStep_0 rfl (lv_at hl 1 rfl) ?_
  refine lv_iconst (v := (nI 0)) hx hb dX7_isStep_1 (by decide) ?_
  refine lv_aload_n hx hb dX7_isStep_2 rfl (lv_at hl 0 rfl) ?_
  refine x_get hC fd_RX7_62 hH.1 0 rfl rfl dX7_isStep_3 ?_
  refine lv_iconst (v := (nI 1)) hx hb dX7_isStep_6 (by decide) ?_
  refine lv_isub hx hb dX7_isStep_7 ?_
  obtain ⟨u1, hf1, hf⟩ := xb hf
  refine x_ran (x_runS (rest := []) (As := [.int p1, .int (nI 0), .int (v_size - (nI 1))]) hC mw_140 md_X7_within (c_X7_within (X := X) hf1) hH [] rfl (by decide) hl.1 rfl rfl (Nat.le_of_ble_eq_true rfl) dX7_isStep_8 ⟨Nat.le_of_ble_eq_true rfl, Nat.le_of_ble_eq_true rfl⟩ ⟨rfl, rfl⟩ ⟨Nat.le_refl _, Nat.le_refl _⟩) rfl (fun hz1 => ?_)
  exact x_retz hC hr hlk hz1 hf dX7_isStep_11
def f_X7_isShelf (p0 : Int32) : Option (Int32) :=
  (f_X7_within p0 (nI 0) (nI 7)).bind fun u1 =>
  some u1
set_option maxHeartbeats 4000000 in
set_option maxRecDepth 100000 in
theorem c_X7_isShelf {l : Launch} {X : xG} {p0 : Int32} {u : Int32} (hf : f_X7_isShelf p0 = some u) : Met l yX7_isShelf (xw yX7_isShelf cX7_isShelf 1 (some .boolean)) (xrm 1 22) (xPc [.int p0] X []) (xQ (u = 0 ∨ u = 1) (.returned (some (.int u)))) 0 0 xNo := by
  refine xMet (n := 1) md_X7_isShelf.1 (Nat.le_of_ble_eq_true rfl) ?_
  intro p e s m args below meth c ls A hC hr hlk hH hl
  have hl : lv_has ls 1 [(0, .int p0)] := hl
  have hx := hC.1
  have hb := hC.2.1
  refine lv_iload_n hx hb dX7_isShelf_0 rfl (lv_at hl 0 rfl) ?_
  refine lv_iconst (v := (nI 0)) hx hb dX7_isShelf_1 (by decide) ?_
  refine lv_bipush (v := (nI 7)) hx hb dX7_isShelf_2 (by decide) ?_
  obtain ⟨u1, hf1, hf⟩ := xb hf
  refine x_ran (x_runS (rest := []) (As := [.int p0, .int (nI 0), .int (nI 7)]) hC mw_140 md_X7_within (c_X7_within (X := X) hf1) hH [] rfl (by decide) hl.1 rfl rfl (Nat.le_of_ble_eq_true rfl) dX7_isShelf_4 ⟨Nat.le_of_ble_eq_true rfl, Nat.le_of_ble_eq_true rfl⟩ ⟨rfl, rfl⟩ ⟨Nat.le_refl _, Nat.le_refl _⟩) rfl (fun hz1 => ?_)
  exact x_retz hC hr hlk hz1 hf dX7_isShelf_7
def f_X7_isRow (v_holding : (Nat → Int32)) (p1 : Int32) : Option (Int32) :=
  if xout p1 8 then none else
  (f_X7_within (v_holding (xat p1)) (nI 0) (nI 4)).bind fun u2 =>
  some u2
set_option maxHeartbeats 4000000 in
set_option maxRecDepth 100000 in
theorem c_X7_isRow {l : Launch} {X : xG} {h0 h1 g0 g1 g2 g3 g4 g5 g6 g7 g8 g9 : Nat} {v_laws : Int32} {v_inForce : Int32} {v_depth : Int32} {v_miss : Int32} {v_ring : Int64} {v_size : Int32} {v_people : Int32} {v_seed : Int32} {v_taped : Int32} {v_from : Int32} {v_to : Int32} {v_token : Int32} {v_value : Int32} {v_imaged : Int32} {v_oldRing : Int64} {v_aheadRing : Int64} {v_holding : (Nat → Int32)} {p1 : Int32} {u : Int32} (hf : f_X7_isRow v_holding p1 = some u) : Met l yX7_isRow (xw yX7_isRow cX7_isRow 2 (some .boolean)) (xrm 1 22) (xPc [.ref h0, .int p1] X [(h0, xO 7 [.int v_laws, .ref g0, .ref g1, .int v_inForce, .int v_depth, .int v_miss, .long v_ring, .int v_size, .int v_people, .ref g2, .int v_seed, .int v_taped, .ref g3, .int v_from, .int v_to, .int v_token, .int v_value, .ref h1, .ref g4, .ref g5, .ref g6, .int v_imaged, .ref g7, .long v_oldRing, .ref g8, .long v_aheadRing, .ref g9]), (h1, xI X 8 v_holding)]) (xQ (u = 0 ∨ u = 1) (.returned (some (.int u)))) 0 0 xNo := by
  refine xMet (n := 1) md_X7_isRow.1 (Nat.le_of_ble_eq_true rfl) ?_
  intro p e s m args below meth c ls A hC hr hlk hH hl
  have hl : lv_has ls 2 [(0, .ref h0), (1, .int p1)] := hl
  have hx := hC.1
  have hb := hC.2.1
  refine lv_aload_n hx hb dX7_isRow_0 rfl (lv_at hl 0 rfl) ?_
  refine x_get hC fd_RX7_22 hH.1 0 rfl rfl dX7_isRow_1 ?_
  refine lv_iload_n hx hb dX7_isRow_4 rfl (lv_at hl 1 rfl) ?_
  obtain ⟨n1, hf⟩ := xok hf
  refine x_iald hC hH.1 1 rfl n1 dX7_isRow_5 ?_
  refine lv_iconst (v := (nI 0)) hx hb dX7_isRow_6 (by decide) ?_
  refine lv_iconst (v := (nI 4)) hx hb dX7_isRow_7 (by decide) ?_
  obtain ⟨u2, hf2, hf⟩ := xb hf
  refine x_ran (x_runS (rest := []) (As := [.int (v_holding (xat p1)), .int (nI 0), .int (nI 4)]) hC mw_140 md_X7_within (c_X7_within (X := X) hf2) hH [] rfl (by decide) hl.1 rfl rfl (Nat.le_of_ble_eq_true rfl) dX7_isRow_8 ⟨Nat.le_of_ble_eq_true rfl, Nat.le_of_ble_eq_true rfl⟩ ⟨rfl, rfl⟩ ⟨Nat.le_refl _, Nat.le_refl _⟩) rfl (fun hz2 => ?_)
  exact x_retz hC hr hlk hz2 hf dX7_isRow_11
def f_X7_row_L50 (v_refusals : (Nat → Int32)) (p1 : Int32) (x50_v_holding : (Nat → Int32)) (x50_v_rowLength : (Nat → Int32)) (s50 : Int32 × (Nat → Int64)) : Option ((Int32 × (Nat → Int32) × (Nat → Int32) × (Nat → Int32) × (Nat → Int64)) ⊕ (Int32 × (Nat → Int64))) :=
  if (nI 40) ≤ s50.1 then
    some (.inl ((nI 1), x50_v_holding, v_refusals, x50_v_rowLength, s50.2))
  else
  if xout (((nI 40) * p1) + s50.1) 320 then none else
  some (.inr (s50.1 + (nI 1), vp_updL s50.2 (xat (((nI 40) * p1) + s50.1)) (lN 0)))
def f_X7_row (v_holding : (Nat → Int32)) (v_refusals : (Nat → Int32)) (v_rowLength : (Nat → Int32)) (v_rowOf : (Nat → Int64)) (p1 : Int32) (p2 : Int32) (p3 : Int32) : Option (Int32 × (Nat → Int32) × (Nat → Int32) × (Nat → Int32) × (Nat → Int64)) :=
  (f_X7_isShelf p1).bind fun u1 =>
  if u1 = (nI 0) then
    (f_X7_no v_refusals (-2 : Int32)).bind fun u3 =>
    some (u3.1, v_holding, u3.2, v_rowLength, v_rowOf)
  else
  (f_X7_within p2 (nI 0) (nI 4)).bind fun u4 =>
  if u4 = (nI 0) then
    (f_X7_no v_refusals (-2 : Int32)).bind fun u6 =>
    some (u6.1, v_holding, u6.2, v_rowLength, v_rowOf)
  else
  (f_X7_within p3 (nI 0) (nI 40)).bind fun u7 =>
  if u7 = (nI 0) then
    (f_X7_no v_refusals (-2 : Int32)).bind fun u13 =>
    some (u13.1, v_holding, u13.2, v_rowLength, v_rowOf)
  else
  if xout p1 8 then none else
  if xout p1 8 then none else
  xloop (f_X7_row_L50 v_refusals p1 (upd v_holding (xat p1) p2) (upd v_rowLength (xat p1) p3)) xN ((nI 0), v_rowOf)
set_option maxHeartbeats 4000000 in
set_option maxRecDepth 100000 in
theorem c_X7_row {l : Launch} {X : xG} {h0 h1 h2 h3 h4 g0 g1 g2 g3 g4 g5 g6 : Nat} {v_laws : Int32} {v_inForce : Int32} {v_depth : Int32} {v_miss : Int32} {v_ring : Int64} {v_size : Int32} {v_people : Int32} {v_seed : Int32} {v_taped : Int32} {v_from : Int32} {v_to : Int32} {v_token : Int32} {v_value : Int32} {v_imaged : Int32} {v_oldRing : Int64} {v_aheadRing : Int64} {v_holding : (Nat → Int32)} {v_refusals : (Nat → Int32)} {v_rowLength : (Nat → Int32)} {v_rowOf : (Nat → Int64)} {p1 : Int32} {p2 : Int32} {p3 : Int32} {u : Int32 × (Nat → Int32) × (Nat → Int32) × (Nat → Int32) × (Nat → Int64)} (hf : f_X7_row v_holding v_refusals v_rowLength v_rowOf p1 p2 p3 = some u) : Met l yX7_row (xw yX7_row cX7_row 5 (some .int)) (xrm 2 42) (xPc [.ref h0, .int p1, .int p2, .int p3] X [(h0, xO 7 [.int v_laws, .ref g0, .ref g1, .int v_inForce, .int v_depth, .int v_miss, .long v_ring, .int v_size, .int v_people, .ref g2, .int v_seed, .int v_taped, .ref g3, .int v_from, .int v_to, .int v_token, .int v_value, .ref h1, .ref h3, .ref h4, .ref h2, .int v_imaged, .ref g4, .long v_oldRing, .ref g5, .long v_aheadRing, .ref g6]), (h1, xI X 8 v_holding), (h2, xI X 7 v_refusals), (h3, xI X 8 v_rowLength), (h4, xJ X 320 v_rowOf)]) (xQw True (.returned (some (.int u.1))) X [(h0, xO 7 [.int v_laws, .ref g0, .ref g1, .int v_inForce, .int v_depth, .int v_miss, .long v_ring, .int v_size, .int v_people, .ref g2, .int v_seed, .int v_taped, .ref g3, .int v_from, .int v_to, .int v_token, .int v_value, .ref h1, .ref h3, .ref h4, .ref h2, .int v_imaged, .ref g4, .long v_oldRing, .ref g5, .long v_aheadRing, .ref g6]), (h1, xI X 8 u.2.1), (h2, xI X 7 u.2.2.1), (h3, xI X 8 u.2.2.2.1), (h4, xJ X 320 u.2.2.2.2)] (xAs [(h0, xO 7 [.int v_laws, .ref g0, .ref g1, .int v_inForce, .int v_depth, .int v_miss, .long v_ring, .int v_size, .int v_people, .ref g2, .int v_seed, .int v_taped, .ref g3, .int v_from, .int v_to, .int v_token, .int v_value, .ref h1, .ref h3, .ref h4, .ref h2, .int v_imaged, .ref g4, .long v_oldRing, .ref g5, .long v_aheadRing, .ref g6]), (h1, xI X 8 v_holding), (h2, xI X 7 v_refusals), (h3, xI X 8 v_rowLength), (h4, xJ X 320 v_rowOf)])) 0 0 (xAs [(h0, xO 7 [.int v_laws, .ref g0, .ref g1, .int v_inForce, .int v_depth, .int v_miss, .long v_ring, .int v_size, .int v_people, .ref g2, .int v_seed, .int v_taped, .ref g3, .int v_from, .int v_to, .int v_token, .int v_value, .ref h1, .ref h3, .ref h4, .ref h2, .int v_imaged, .ref g4, .long v_oldRing, .ref g5, .long v_aheadRing, .ref g6]), (h1, xI X 8 v_holding), (h2, xI X 7 v_refusals), (h3, xI X 8 v_rowLength), (h4, xJ X 320 v_rowOf)]) := by
  refine xMetw (Qc := fun A => xQw True (.returned (some (.int u.1))) X [(h0, xO 7 [.int v_laws, .ref g0, .ref g1, .int v_inForce, .int v_depth, .int v_miss, .long v_ring, .int v_size, .int v_people, .ref g2, .int v_seed, .int v_taped, .ref g3, .int v_from, .int v_to, .int v_token, .int v_value, .ref h1, .ref h3, .ref h4, .ref h2, .int v_imaged, .ref g4, .long v_oldRing, .ref g5, .long v_aheadRing, .ref g6]), (h1, xI X 8 u.2.1), (h2, xI X 7 u.2.2.1), (h3, xI X 8 u.2.2.2.1), (h4, xJ X 320 u.2.2.2.2)] A) (n := 3) md_X7_row.1 (Nat.le_of_ble_eq_true rfl) ?_
  intro p e s m args below meth c ls A hC hr hlk hH hl
  have hl : lv_has ls 5 [(0, .ref h0), (1, .int p1), (2, .int p2), (3, .int p3)] := hl
  have hx := hC.1
  have hb := hC.2.1
  have L50 : ∀ (x50_v_holding : (Nat → Int32)) (x50_v_rowLength : (Nat → Int32)) (n : Nat) (s50 : Int32 × (Nat → Int64)), xloop (f_X7_row_L50 v_refusals p1 x50_v_holding x50_v_rowLength) n s50 = some u → ∀ (H : Heap) (locs : List Loc), xH X A [(h0, xO 7 [.int v_laws, .ref g0, .ref g1, .int v_inForce, .int v_depth, .int v_miss, .long v_ring, .int v_size, .int v_people, .ref g2, .int v_seed, .int v_taped, .ref g3, .int v_from, .int v_to, .int v_token, .int v_value, .ref h1, .ref h3, .ref h4, .ref h2, .int v_imaged, .ref g4, .long v_oldRing, .ref g5, .long v_aheadRing, .ref g6]), (h1, xI X 8 x50_v_holding), (h2, xI X 7 v_refusals), (h3, xI X 8 x50_v_rowLength), (h4, xJ X 320 s50.2)] s.heap H locs → ∀ (ls : Array Slot), lv_has ls 5 [(0, .ref h0), (1, .int p1), (4, .int s50.1)] → W p l e (xrm 2 42) s m args below meth c H locs 0 0 (MQ below (xQw True (.returned (some (.int u.1))) X [(h0, xO 7 [.int v_laws, .ref g0, .ref g1, .int v_inForce, .int v_depth, .int v_miss, .long v_ring, .int v_size, .int v_people, .ref g2, .int v_seed, .int v_taped, .ref g3, .int v_from, .int v_to, .int v_token, .int v_value, .ref h1, .ref h3, .ref h4, .ref h2, .int v_imaged, .ref g4, .long v_oldRing, .ref g5, .long v_aheadRing, .ref g6]), (h1, xI X 8 u.2.1), (h2, xI X 7 u.2.2.1), (h3, xI X 8 u.2.2.2.1), (h4, xJ X 320 u.2.2.2.2)] A) args s 0 0 A) (F0 m 50 ls []) := by
    intro x50_v_holding x50_v_rowLength n
    induction n with
    | zero => intro s50 hf; exact xloop_0 hf
    | succ n ih50 =>
      intro s50 hf H locs hH ls hl
      obtain ⟨o50, hf, ho50⟩ := xloop_s hf
      refine lv_iload hx hb dX7_row_50 (lv_at hl 2 rfl) ?_
      refine lv_bipush (v := (nI 40)) hx hb dX7_row_52 (by decide) ?_
      refine lv_icmp_ge (tgt := 76) hx hb dX7_row_54 (by decide) (fun c11 => ?_) (fun c11 => ?_)
      · have hf := xt c11 hf
        refine lv_iconst (v := (nI 1)) hx hb dX7_row_76 (by decide) ?_
        have hf := xo_ret hf ho50
        exact x_retiw (φ := fun _ => True) (f := fun u : Int32 × (Nat → Int32) × (Nat → Int32) × (Nat → Int32) × (Nat → Int64) => u.1) (wf := fun u : Int32 × (Nat → Int32) × (Nat → Int32) × (Nat → Int32) × (Nat → Int64) => [(h0, xO 7 [.int v_laws, .ref g0, .ref g1, .int v_inForce, .int v_depth, .int v_miss, .long v_ring, .int v_size, .int v_people, .ref g2, .int v_seed, .int v_taped, .ref g3, .int v_from, .int v_to, .int v_token, .int v_value, .ref h1, .ref h3, .ref h4, .ref h2, .int v_imaged, .ref g4, .long v_oldRing, .ref g5, .long v_aheadRing, .ref g6]), (h1, xI X 8 u.2.1), (h2, xI X 7 u.2.2.1), (h3, xI X 8 u.2.2.2.1), (h4, xJ X 320 u.2.2.2.2)]) hC hr hlk trivial hf hH rfl rfl dX7_row_77
      · have hf := xe c11 hf
        refine lv_aload_n hx hb dX7_row_57 rfl (lv_at hl 0 rfl) ?_
        refine x_get hC fd_RX7_28 hH.1 0 rfl rfl dX7_row_58 ?_
        refine lv_bipush (v := (nI 40)) hx hb dX7_row_61 (by decide) ?_
        refine lv_iload_n hx hb dX7_row_63 rfl (lv_at hl 1 rfl) ?_
        refine lv_imul hx hb dX7_row_64 ?_
        refine lv_iload hx hb dX7_row_65 (lv_at hl 2 rfl) ?_
        refine lv_iadd hx hb dX7_row_67 ?_
        refine lv_lconst (v := (lN 0)) hx hb dX7_row_68 (by decide) ?_
        obtain ⟨n12, hf⟩ := xok hf
        refine x_last (ws' := [(h0, xO 7 [.int v_laws, .ref g0, .ref g1, .int v_inForce, .int v_depth, .int v_miss, .long v_ring, .int v_size, .int v_people, .ref g2, .int v_seed, .int v_taped, .ref g3, .int v_from, .int v_to, .int v_token, .int v_value, .ref h1, .ref h3, .ref h4, .ref h2, .int v_imaged, .ref g4, .long v_oldRing, .ref g5, .long v_aheadRing, .ref g6]), (h1, xI X 8 x50_v_holding), (h2, xI X 7 v_refusals), (h3, xI X 8 x50_v_rowLength), (h4, xJ X 320 (vp_updL s50.2 (xat (((nI 40) * p1) + s50.1)) (lN 0)))]) hC hH 4 rfl n12 dX7_row_69 rfl (fun H locs hH => ?_)
        refine lv_iinc (v := s50.1 + (nI 1)) (lv' := [(4, .int (s50.1 + (nI 1))), (0, .ref h0), (1, .int p1)]) hx hb dX7_row_70 hl (k := 2) rfl rfl (by decide) rfl (fun ls hl => ?_)
        refine lv_goto (tgt := 50) hx hb dX7_row_73 (by decide) ?_
        have hf := xo_go hf ho50
        exact ih50 (s50.1 + (nI 1), vp_updL s50.2 (xat (((nI 40) * p1) + s50.1)) (lN 0)) hf _ _ hH ls (lv_sub hl [1, 2, 0] rfl)
  refine lv_iload_n hx hb dX7_row_0 rfl (lv_at hl 1 rfl) ?_
  obtain ⟨u1, hf1, hf⟩ := xb hf
  refine x_ran (x_runS (rest := []) (As := [.int p1]) hC mw_137 md_X7_isShelf (c_X7_isShelf (X := X) hf1) hH [] rfl (by decide) hl.1 rfl rfl (Nat.le_of_ble_eq_true rfl) dX7_row_1 ⟨Nat.le_of_ble_eq_true rfl, Nat.le_of_ble_eq_true rfl⟩ ⟨rfl, rfl⟩ ⟨Nat.le_refl _, Nat.le_refl _⟩) rfl (fun hz1 => ?_)
  refine lv_if_eq (tgt := 26) hx hb dX7_row_4 (by decide) (fun c2 => ?_) (fun c2 => ?_)
  · have hf := xt c2 hf
    refine lv_aload_n hx hb dX7_row_26 rfl (lv_at hl 0 rfl) ?_
    refine lv_bipush (v := (-2 : Int32)) hx hb dX7_row_27 (by decide) ?_
    obtain ⟨u3, hf3, hf⟩ := xb hf
    refine x_ranw (ws' := [(h0, xO 7 [.int v_laws, .ref g0, .ref g1, .int v_inForce, .int v_depth, .int v_miss, .long v_ring, .int v_size, .int v_people, .ref g2, .int v_seed, .int v_taped, .ref g3, .int v_from, .int v_to, .int v_token, .int v_value, .ref h1, .ref h3, .ref h4, .ref h2, .int v_imaged, .ref g4, .long v_oldRing, .ref g5, .long v_aheadRing, .ref g6]), (h1, xI X 8 v_holding), (h2, xI X 7 u3.2), (h3, xI X 8 v_rowLength), (h4, xJ X 320 v_rowOf)]) (x_runV (q0 := 0) (rest := []) (As := [.int (-2 : Int32)]) hC mw_143 md_X7_no (c_X7_no (X := X) hf3) hH [0, 2] rfl (by decide) rfl rfl rfl hl.1 rfl rfl (Nat.le_of_ble_eq_true rfl) dX7_row_29 ⟨Nat.le_of_ble_eq_true rfl, Nat.le_of_ble_eq_true rfl⟩ ⟨rfl, rfl⟩ ⟨Nat.le_refl _, Nat.le_refl _⟩) hH [0, 2] rfl rfl rfl rfl rfl (fun hz3 H locs hH => ?_)
    exact x_retiw (φ := fun _ => True) (f := fun u : Int32 × (Nat → Int32) × (Nat → Int32) × (Nat → Int32) × (Nat → Int64) => u.1) (wf := fun u : Int32 × (Nat → Int32) × (Nat → Int32) × (Nat → Int32) × (Nat → Int64) => [(h0, xO 7 [.int v_laws, .ref g0, .ref g1, .int v_inForce, .int v_depth, .int v_miss, .long v_ring, .int v_size, .int v_people, .ref g2, .int v_seed, .int v_taped, .ref g3, .int v_from, .int v_to, .int v_token, .int v_value, .ref h1, .ref h3, .ref h4, .ref h2, .int v_imaged, .ref g4, .long v_oldRing, .ref g5, .long v_aheadRing, .ref g6]), (h1, xI X 8 u.2.1), (h2, xI X 7 u.2.2.1), (h3, xI X 8 u.2.2.2.1), (h4, xJ X 320 u.2.2.2.2)]) hC hr hlk trivial hf hH rfl rfl dX7_row_32
  · have hf := xe c2 hf
    refine lv_iload_n hx hb dX7_row_7 rfl (lv_at hl 2 rfl) ?_
    refine lv_iconst (v := (nI 0)) hx hb dX7_row_8 (by decide) ?_
    refine lv_iconst (v := (nI 4)) hx hb dX7_row_9 (by decide) ?_
    obtain ⟨u4, hf4, hf⟩ := xb hf
    refine x_ran (x_runS (rest := []) (As := [.int p2, .int (nI 0), .int (nI 4)]) hC mw_140 md_X7_within (c_X7_within (X := X) hf4) hH [] rfl (by decide) hl.1 rfl rfl (Nat.le_of_ble_eq_true rfl) dX7_row_10 ⟨Nat.le_of_ble_eq_true rfl, Nat.le_of_ble_eq_true rfl⟩ ⟨rfl, rfl⟩ ⟨Nat.le_refl _, Nat.le_refl _⟩) rfl (fun hz4 => ?_)
    refine lv_if_eq (tgt := 26) hx hb dX7_row_13 (by decide) (fun c5 => ?_) (fun c5 => ?_)
    · have hf := xt c5 hf
      refine lv_aload_n hx hb dX7_row_26 rfl (lv_at hl 0 rfl) ?_
      refine lv_bipush (v := (-2 : Int32)) hx hb dX7_row_27 (by decide) ?_
      obtain ⟨u6, hf6, hf⟩ := xb hf
      refine x_ranw (ws' := [(h0, xO 7 [.int v_laws, .ref g0, .ref g1, .int v_inForce, .int v_depth, .int v_miss, .long v_ring, .int v_size, .int v_people, .ref g2, .int v_seed, .int v_taped, .ref g3, .int v_from, .int v_to, .int v_token, .int v_value, .ref h1, .ref h3, .ref h4, .ref h2, .int v_imaged, .ref g4, .long v_oldRing, .ref g5, .long v_aheadRing, .ref g6]), (h1, xI X 8 v_holding), (h2, xI X 7 u6.2), (h3, xI X 8 v_rowLength), (h4, xJ X 320 v_rowOf)]) (x_runV (q0 := 0) (rest := []) (As := [.int (-2 : Int32)]) hC mw_143 md_X7_no (c_X7_no (X := X) hf6) hH [0, 2] rfl (by decide) rfl rfl rfl hl.1 rfl rfl (Nat.le_of_ble_eq_true rfl) dX7_row_29 ⟨Nat.le_of_ble_eq_true rfl, Nat.le_of_ble_eq_true rfl⟩ ⟨rfl, rfl⟩ ⟨Nat.le_refl _, Nat.le_refl _⟩) hH [0, 2] rfl rfl rfl rfl rfl (fun hz6 H locs hH => ?_)
      exact x_retiw (φ := fun _ => True) (f := fun u : Int32 × (Nat → Int32) × (Nat → Int32) × (Nat → Int32) × (Nat → Int64) => u.1) (wf := fun u : Int32 × (Nat → Int32) × (Nat → Int32) × (Nat → Int32) × (Nat → Int64) => [(h0, xO 7 [.int v_laws, .ref g0, .ref g1, .int v_inForce, .int v_depth, .int v_miss, .long v_ring, .int v_size, .int v_people, .ref g2, .int v_seed, .int v_taped, .ref g3, .int v_from, .int v_to, .int v_token, .int v_value, .ref h1, .ref h3, .ref h4, .ref h2, .int v_imaged, .ref g4, .long v_oldRing, .ref g5, .long v_aheadRing, .ref g6]), (h1, xI X 8 u.2.1), (h2, xI X 7 u.2.2.1), (h3, xI X 8 u.2.2.2.1), (h4, xJ X 320 u.2.2.2.2)]) hC hr hlk trivial hf hH rfl rfl dX7_row_32
    · have hf := xe c5 hf
      refine lv_iload_n hx hb dX7_row_16 rfl (lv_at hl 3 rfl) ?_
      refine lv_iconst (v := (nI 0)) hx hb dX7_row_17 (by decide) ?_
      refine lv_bipush (v := (nI 40)) hx hb dX7_row_18 (by decide) ?_
      obtain ⟨u7, hf7, hf⟩ := xb hf
      refine x_ran (x_runS (rest := []) (As := [.int p3, .int (nI 0), .int (nI 40)]) hC mw_140 md_X7_within (c_X7_within (X := X) hf7) hH [] rfl (by decide) hl.1 rfl rfl (Nat.le_of_ble_eq_true rfl) dX7_row_20 ⟨Nat.le_of_ble_eq_true rfl, Nat.le_of_ble_eq_true rfl⟩ ⟨rfl, rfl⟩ ⟨Nat.le_refl _, Nat.le_refl _⟩) rfl (fun hz7 => ?_)
      refine lv_if_ne (tgt := 33) hx hb dX7_row_23 (by decide) (fun c8 => ?_) (fun c8 => ?_)
      · have hf := xe c8 hf
        refine lv_aload_n hx hb dX7_row_33 rfl (lv_at hl 0 rfl) ?_
        refine x_get hC fd_RX7_22 hH.1 0 rfl rfl dX7_row_34 ?_
        refine lv_iload_n hx hb dX7_row_37 rfl (lv_at hl 1 rfl) ?_
        refine lv_iload_n hx hb dX7_row_38 rfl (lv_at hl 2 rfl) ?_
        obtain ⟨n9, hf⟩ := xok hf
        refine x_iast (ws' := [(h0, xO 7 [.int v_laws, .ref g0, .ref g1, .int v_inForce, .int v_depth, .int v_miss, .long v_ring, .int v_size, .int v_people, .ref g2, .int v_seed, .int v_taped, .ref g3, .int v_from, .int v_to, .int v_token, .int v_value, .ref h1, .ref h3, .ref h4, .ref h2, .int v_imaged, .ref g4, .long v_oldRing, .ref g5, .long v_aheadRing, .ref g6]), (h1, xI X 8 (upd v_holding (xat p1) p2)), (h2, xI X 7 v_refusals), (h3, xI X 8 v_rowLength), (h4, xJ X 320 v_rowOf)]) hC hH 1 rfl n9 dX7_row_39 rfl (fun H locs hH => ?_)
        refine lv_aload_n hx hb dX7_row_40 rfl (lv_at hl 0 rfl) ?_
        refine x_get hC fd_RX7_25 hH.1 0 rfl rfl dX7_row_41 ?_
        refine lv_iload_n hx hb dX7_row_44 rfl (lv_at hl 1 rfl) ?_
        refine lv_iload_n hx hb dX7_row_45 rfl (lv_at hl 3 rfl) ?_
        obtain ⟨n10, hf⟩ := xok hf
        refine x_iast (ws' := [(h0, xO 7 [.int v_laws, .ref g0, .ref g1, .int v_inForce, .int v_depth, .int v_miss, .long v_ring, .int v_size, .int v_people, .ref g2, .int v_seed, .int v_taped, .ref g3, .int v_from, .int v_to, .int v_token, .int v_value, .ref h1, .ref h3, .ref h4, .ref h2, .int v_imaged, .ref g4, .long v_oldRing, .ref g5, .long v_aheadRing, .ref g6]), (h1, xI X 8 (upd v_holding (xat p1) p2)), (h2, xI X 7 v_refusals), (h3, xI X 8 (upd v_rowLength (xat p1) p3)), (h4, xJ X 320 v_rowOf)]) hC hH 3 rfl n10 dX7_row_46 rfl (fun H locs hH => ?_)
        refine lv_iconst (v := (nI 0)) hx hb dX7_row_47 (by decide) ?_
        refine lv_istore (lv' := [(4, .int (nI 0)), (0, .ref h0), (1, .int p1), (2, .int p2), (3, .int p3)]) hx hb dX7_row_48 hl (by decide) rfl (fun ls hl => ?_)
        exact L50 (upd v_holding (xat p1) p2) (upd v_rowLength (xat p1) p3) xN ((nI 0), v_rowOf) hf _ _ hH ls (lv_sub hl [1, 2, 0] rfl)
      · have hf := xt c8 hf
        refine lv_aload_n hx hb dX7_row_26 rfl (lv_at hl 0 rfl) ?_
        refine lv_bipush (v := (-2 : Int32)) hx hb dX7_row_27 (by decide) ?_
        obtain ⟨u13, hf13, hf⟩ := xb hf
        refine x_ranw (ws' := [(h0, xO 7 [.int v_laws, .ref g0, .ref g1, .int v_inForce, .int v_depth, .int v_miss, .long v_ring, .int v_size, .int v_people, .ref g2, .int v_seed, .int v_taped, .ref g3, .int v_from, .int v_to, .int v_token, .int v_value, .ref h1, .ref h3, .ref h4, .ref h2, .int v_imaged, .ref g4, .long v_oldRing, .ref g5, .long v_aheadRing, .ref g6]), (h1, xI X 8 v_holding), (h2, xI X 7 u13.2), (h3, xI X 8 v_rowLength), (h4, xJ X 320 v_rowOf)]) (x_runV (q0 := 0) (rest := []) (As := [.int (-2 : Int32)]) hC mw_143 md_X7_no (c_X7_no (X := X) hf13) hH [0, 2] rfl (by decide) rfl rfl rfl hl.1 rfl rfl (Nat.le_of_ble_eq_true rfl) dX7_row_29 ⟨Nat.le_of_ble_eq_true rfl, Nat.le_of_ble_eq_true rfl⟩ ⟨rfl, rfl⟩ ⟨Nat.le_refl _, Nat.le_refl _⟩) hH [0, 2] rfl rfl rfl rfl rfl (fun hz13 H locs hH => ?_)
        exact x_retiw (φ := fun _ => True) (f := fun u : Int32 × (Nat → Int32) × (Nat → Int32) × (Nat → Int32) × (Nat → Int64) => u.1) (wf := fun u : Int32 × (Nat → Int32) × (Nat → Int32) × (Nat → Int32) × (Nat → Int64) => [(h0, xO 7 [.int v_laws, .ref g0, .ref g1, .int v_inForce, .int v_depth, .int v_miss, .long v_ring, .int v_size, .int v_people, .ref g2, .int v_seed, .int v_taped, .ref g3, .int v_from, .int v_to, .int v_token, .int v_value, .ref h1, .ref h3, .ref h4, .ref h2, .int v_imaged, .ref g4, .long v_oldRing, .ref g5, .long v_aheadRing, .ref g6]), (h1, xI X 8 u.2.1), (h2, xI X 7 u.2.2.1), (h3, xI X 8 u.2.2.2.1), (h4, xJ X 320 u.2.2.2.2)]) hC hr hlk trivial hf hH rfl rfl dX7_row_32
def f_X7_noRow (v_holding : (Nat → Int32)) (p1 : Int32) : Option (Int32) :=
  if xout p1 8 then none else
  if (v_holding (xat p1)) < (nI 10) then
    if xout p1 8 then none else
    if (nI 0) ≤ (v_holding (xat p1)) then
      some (nI 0)
    else
    some (-4 : Int32)
  else
  some (-3 : Int32)
set_option maxHeartbeats 4000000 in
set_option maxRecDepth 100000 in
theorem c_X7_noRow {l : Launch} {X : xG} {h0 h1 g0 g1 g2 g3 g4 g5 g6 g7 g8 g9 : Nat} {v_laws : Int32} {v_inForce : Int32} {v_depth : Int32} {v_miss : Int32} {v_ring : Int64} {v_size : Int32} {v_people : Int32} {v_seed : Int32} {v_taped : Int32} {v_from : Int32} {v_to : Int32} {v_token : Int32} {v_value : Int32} {v_imaged : Int32} {v_oldRing : Int64} {v_aheadRing : Int64} {v_holding : (Nat → Int32)} {p1 : Int32} {u : Int32} (hf : f_X7_noRow v_holding p1 = some u) : Met l yX7_noRow (xw yX7_noRow cX7_noRow 2 (some .int)) (xrm 0 0) (xPc [.ref h0, .int p1] X [(h0, xO 7 [.int v_laws, .ref g0, .ref g1, .int v_inForce, .int v_depth, .int v_miss, .long v_ring, .int v_size, .int v_people, .ref g2, .int v_seed, .int v_taped, .ref g3, .int v_from, .int v_to, .int v_token, .int v_value, .ref h1, .ref g4, .ref g5, .ref g6, .int v_imaged, .ref g7, .long v_oldRing, .ref g8, .long v_aheadRing, .ref g9]), (h1, xI X 8 v_holding)]) (xQ True (.returned (some (.int u)))) 0 0 xNo := by
  refine xMet (n := 1) md_X7_noRow.1 (Nat.le_of_ble_eq_true rfl) ?_
  intro p e s m args below meth c ls A hC hr hlk hH hl
  have hl : lv_has ls 2 [(0, .ref h0), (1, .int p1)] := hl
  have hx := hC.1
  have hb := hC.2.1
  refine lv_aload_n hx hb dX7_noRow_0 rfl (lv_at hl 0 rfl) ?_
  refine x_get hC fd_RX7_22 hH.1 0 rfl rfl dX7_noRow_1 ?_
  refine lv_iload_n hx hb dX7_noRow_4 rfl (lv_at hl 1 rfl) ?_
  obtain ⟨n1, hf⟩ := xok hf
  refine x_iald hC hH.1 1 rfl n1 dX7_noRow_5 ?_
  refine lv_bipush (v := (nI 10)) hx hb dX7_noRow_6 (by decide) ?_
  refine lv_icmp_lt (tgt := 16) hx hb dX7_noRow_8 (by decide) (fun c2 => ?_) (fun c2 => ?_)
  · have hf := xt c2 hf
    refine lv_aload_n hx hb dX7_noRow_16 rfl (lv_at hl 0 rfl) ?_
    refine x_get hC fd_RX7_22 hH.1 0 rfl rfl dX7_noRow_17 ?_
    refine lv_iload_n hx hb dX7_noRow_20 rfl (lv_at hl 1 rfl) ?_
    obtain ⟨n3, hf⟩ := xok hf
    refine x_iald hC hH.1 1 rfl n3 dX7_noRow_21 ?_
    refine lv_if_ge (tgt := 30) hx hb dX7_noRow_22 (by decide) (fun c4 => ?_) (fun c4 => ?_)
    · have hf := xt c4 hf
      refine lv_iconst (v := (nI 0)) hx hb dX7_noRow_30 (by decide) ?_
      exact x_reti hC hr hlk trivial hf dX7_noRow_31
    · have hf := xe c4 hf
      refine lv_bipush (v := (-4 : Int32)) hx hb dX7_noRow_25 (by decide) ?_
      refine lv_goto (tgt := 31) hx hb dX7_noRow_27 (by decide) ?_
      exact x_reti hC hr hlk trivial hf dX7_noRow_31
  · have hf := xe c2 hf
    refine lv_bipush (v := (-3 : Int32)) hx hb dX7_noRow_11 (by decide) ?_
    refine lv_goto (tgt := 31) hx hb dX7_noRow_13 (by decide) ?_
    exact x_reti hC hr hlk trivial hf dX7_noRow_31
def f_X7_kept (p0 : Int32) (p1 : Int64) : Option (Int64) :=
  if p0 = (nI 0) then
    some (Int32.toInt64 ((Int32.toInt8 (Int64.toInt32 p1)).toInt32))
  else
  if p0 = (nI 1) then
    some (Int32.toInt64 ((Int32.toInt16 (Int64.toInt32 p1)).toInt32))
  else
  if p0 = (nI 2) then
    some (Int32.toInt64 (Int64.toInt32 p1))
  else
  if p0 = (nI 3) then
    some p1
  else
  if (xcmp p1 (lN 0)) = (nI 0) then
    some (lN 0)
  else
  some (lN 1)
set_option maxHeartbeats 4000000 in
set_option maxRecDepth 100000 in
theorem c_X7_kept {l : Launch} {X : xG} {p0 : Int32} {p1 : Int64} {u : Int64} (hf : f_X7_kept p0 p1 = some u) : Met l yX7_kept (xw yX7_kept cX7_kept 3 (some .long)) (xrm 0 0) (xPc [.int p0, .long p1] X []) (xQ True (.returned (some (.long u)))) 0 0 xNo := by
  refine xMet (n := 2) md_X7_kept.1 (Nat.le_of_ble_eq_true rfl) ?_
  intro p e s m args below meth c ls A hC hr hlk hH hl
  have hl : lv_has ls 3 [(0, .int p0), (1, .long p1)] := hl
  have hx := hC.1
  have hb := hC.2.1
  refine lv_iload_n hx hb dX7_kept_0 rfl (lv_at hl 0 rfl) ?_
  by_cases c1 : p0 = (nI 0)
  · have hf := xt c1 hf
    refine x_tin (k := (nI 0)) (tgt := 32) hx hb dX7_kept_1 c1 (by decide) (by decide) ?_
    refine lv_lload_n hx hb dX7_kept_32 rfl (lv_at hl 1 rfl) ?_
    refine lv_l2i hx hb dX7_kept_33 rfl ?_
    refine lv_i2b hx hb dX7_kept_34 rfl ?_
    refine lv_i2l hx hb dX7_kept_35 rfl ?_
    exact x_retl hC hr hlk trivial hf dX7_kept_36
  · have hf := xe c1 hf
    by_cases c2 : p0 = (nI 1)
    · have hf := xt c2 hf
      refine x_tin (k := (nI 1)) (tgt := 37) hx hb dX7_kept_1 c2 (by decide) (by decide) ?_
      refine lv_lload_n hx hb dX7_kept_37 rfl (lv_at hl 1 rfl) ?_
      refine lv_l2i hx hb dX7_kept_38 rfl ?_
      refine lv_i2s hx hb dX7_kept_39 rfl ?_
      refine lv_i2l hx hb dX7_kept_40 rfl ?_
      exact x_retl hC hr hlk trivial hf dX7_kept_41
    · have hf := xe c2 hf
      by_cases c3 : p0 = (nI 2)
      · have hf := xt c3 hf
        refine x_tin (k := (nI 2)) (tgt := 42) hx hb dX7_kept_1 c3 (by decide) (by decide) ?_
        refine lv_lload_n hx hb dX7_kept_42 rfl (lv_at hl 1 rfl) ?_
        refine lv_l2i hx hb dX7_kept_43 rfl ?_
        refine lv_i2l hx hb dX7_kept_44 rfl ?_
        exact x_retl hC hr hlk trivial hf dX7_kept_45
      · have hf := xe c3 hf
        by_cases c4 : p0 = (nI 3)
        · have hf := xt c4 hf
          refine x_tin (k := (nI 3)) (tgt := 46) hx hb dX7_kept_1 c4 (by decide) (by decide) ?_
          refine lv_lload_n hx hb dX7_kept_46 rfl (lv_at hl 1 rfl) ?_
          exact x_retl hC hr hlk trivial hf dX7_kept_47
        · have hf := xe c4 hf
          refine x_tout (tgt := 48) hx hb dX7_kept_1 (fun j hj => match j, hj with | 0, _ => c1 | 1, _ => c2 | 2, _ => c3 | 3, _ => c4 | _ + 4, hj => absurd hj (by simp <;> omega)) (by decide) ?_
          refine lv_lload_n hx hb dX7_kept_48 rfl (lv_at hl 1 rfl) ?_
          refine lv_lconst (v := (lN 0)) hx hb dX7_kept_49 (by decide) ?_
          refine x_lcmp hx hb dX7_kept_50 ?_
          refine lv_if_eq (tgt := 58) hx hb dX7_kept_51 (by decide) (fun c5 => ?_) (fun c5 => ?_)
          · have hf := xt c5 hf
            refine lv_lconst (v := (lN 0)) hx hb dX7_kept_58 (by decide) ?_
            exact x_retl hC hr hlk trivial hf dX7_kept_59
          · have hf := xe c5 hf
            refine lv_lconst (v := (lN 1)) hx hb dX7_kept_54 (by decide) ?_
            refine lv_goto (tgt := 59) hx hb dX7_kept_55 (by decide) ?_
            exact x_retl hC hr hlk trivial hf dX7_kept_59
def f_X7_set (v_holding : (Nat → Int32)) (v_refusals : (Nat → Int32)) (v_rowLength : (Nat → Int32)) (v_rowOf : (Nat → Int64)) (p1 : Int32) (p2 : Int32) (p3 : Int64) : Option (Int32 × (Nat → Int32) × (Nat → Int64)) :=
  (f_X7_isShelf p1).bind fun u1 =>
  if u1 = (nI 0) then
    (f_X7_no v_refusals (-2 : Int32)).bind fun u14 =>
    some (u14.1, u14.2, v_rowOf)
  else
  (f_X7_isRow v_holding p1).bind fun u3 =>
  if u3 = (nI 0) then
    (f_X7_noRow v_holding p1).bind fun u12 =>
    (f_X7_no v_refusals u12).bind fun u13 =>
    some (u13.1, u13.2, v_rowOf)
  else
  if xout p1 8 then none else
  (f_X7_within p2 (nI 0) ((v_rowLength (xat p1)) - (nI 1))).bind fun u6 =>
  if u6 = (nI 0) then
    (f_X7_no v_refusals (-2 : Int32)).bind fun u11 =>
    some (u11.1, u11.2, v_rowOf)
  else
  if xout p1 8 then none else
  (f_X7_kept (v_holding (xat p1)) p3).bind fun u9 =>
  if xout (((nI 40) * p1) + p2) 320 then none else
  some ((nI 1), v_refusals, vp_updL v_rowOf (xat (((nI 40) * p1) + p2)) u9)
set_option maxHeartbeats 4000000 in
set_option maxRecDepth 100000 in
theorem c_X7_set {l : Launch} {X : xG} {h0 h1 h2 h3 h4 g0 g1 g2 g3 g4 g5 g6 : Nat} {v_laws : Int32} {v_inForce : Int32} {v_depth : Int32} {v_miss : Int32} {v_ring : Int64} {v_size : Int32} {v_people : Int32} {v_seed : Int32} {v_taped : Int32} {v_from : Int32} {v_to : Int32} {v_token : Int32} {v_value : Int32} {v_imaged : Int32} {v_oldRing : Int64} {v_aheadRing : Int64} {v_holding : (Nat → Int32)} {v_refusals : (Nat → Int32)} {v_rowLength : (Nat → Int32)} {v_rowOf : (Nat → Int64)} {p1 : Int32} {p2 : Int32} {p3 : Int64} {u : Int32 × (Nat → Int32) × (Nat → Int64)} (hf : f_X7_set v_holding v_refusals v_rowLength v_rowOf p1 p2 p3 = some u) : Met l yX7_set (xw yX7_set cX7_set 5 (some .int)) (xrm 2 43) (xPc [.ref h0, .int p1, .int p2, .long p3] X [(h0, xO 7 [.int v_laws, .ref g0, .ref g1, .int v_inForce, .int v_depth, .int v_miss, .long v_ring, .int v_size, .int v_people, .ref g2, .int v_seed, .int v_taped, .ref g3, .int v_from, .int v_to, .int v_token, .int v_value, .ref h1, .ref h3, .ref h4, .ref h2, .int v_imaged, .ref g4, .long v_oldRing, .ref g5, .long v_aheadRing, .ref g6]), (h1, xI X 8 v_holding), (h2, xI X 7 v_refusals), (h3, xI X 8 v_rowLength), (h4, xJ X 320 v_rowOf)]) (xQw True (.returned (some (.int u.1))) X [(h0, xO 7 [.int v_laws, .ref g0, .ref g1, .int v_inForce, .int v_depth, .int v_miss, .long v_ring, .int v_size, .int v_people, .ref g2, .int v_seed, .int v_taped, .ref g3, .int v_from, .int v_to, .int v_token, .int v_value, .ref h1, .ref h3, .ref h4, .ref h2, .int v_imaged, .ref g4, .long v_oldRing, .ref g5, .long v_aheadRing, .ref g6]), (h1, xI X 8 v_holding), (h2, xI X 7 u.2.1), (h3, xI X 8 v_rowLength), (h4, xJ X 320 u.2.2)] (xAs [(h0, xO 7 [.int v_laws, .ref g0, .ref g1, .int v_inForce, .int v_depth, .int v_miss, .long v_ring, .int v_size, .int v_people, .ref g2, .int v_seed, .int v_taped, .ref g3, .int v_from, .int v_to, .int v_token, .int v_value, .ref h1, .ref h3, .ref h4, .ref h2, .int v_imaged, .ref g4, .long v_oldRing, .ref g5, .long v_aheadRing, .ref g6]), (h1, xI X 8 v_holding), (h2, xI X 7 v_refusals), (h3, xI X 8 v_rowLength), (h4, xJ X 320 v_rowOf)])) 0 0 (xAs [(h0, xO 7 [.int v_laws, .ref g0, .ref g1, .int v_inForce, .int v_depth, .int v_miss, .long v_ring, .int v_size, .int v_people, .ref g2, .int v_seed, .int v_taped, .ref g3, .int v_from, .int v_to, .int v_token, .int v_value, .ref h1, .ref h3, .ref h4, .ref h2, .int v_imaged, .ref g4, .long v_oldRing, .ref g5, .long v_aheadRing, .ref g6]), (h1, xI X 8 v_holding), (h2, xI X 7 v_refusals), (h3, xI X 8 v_rowLength), (h4, xJ X 320 v_rowOf)]) := by
  refine xMetw (Qc := fun A => xQw True (.returned (some (.int u.1))) X [(h0, xO 7 [.int v_laws, .ref g0, .ref g1, .int v_inForce, .int v_depth, .int v_miss, .long v_ring, .int v_size, .int v_people, .ref g2, .int v_seed, .int v_taped, .ref g3, .int v_from, .int v_to, .int v_token, .int v_value, .ref h1, .ref h3, .ref h4, .ref h2, .int v_imaged, .ref g4, .long v_oldRing, .ref g5, .long v_aheadRing, .ref g6]), (h1, xI X 8 v_holding), (h2, xI X 7 u.2.1), (h3, xI X 8 v_rowLength), (h4, xJ X 320 u.2.2)] A) (n := 3) md_X7_set.1 (Nat.le_of_ble_eq_true rfl) ?_
  intro p e s m args below meth c ls A hC hr hlk hH hl
  have hl : lv_has ls 5 [(0, .ref h0), (1, .int p1), (2, .int p2), (3, .long p3)] := hl
  have hx := hC.1
  have hb := hC.2.1
  refine lv_iload_n hx hb dX7_set_0 rfl (lv_at hl 1 rfl) ?_
  obtain ⟨u1, hf1, hf⟩ := xb hf
  refine x_ran (x_runS (rest := []) (As := [.int p1]) hC mw_137 md_X7_isShelf (c_X7_isShelf (X := X) hf1) hH [] rfl (by decide) hl.1 rfl rfl (Nat.le_of_ble_eq_true rfl) dX7_set_1 ⟨Nat.le_of_ble_eq_true rfl, Nat.le_of_ble_eq_true rfl⟩ ⟨rfl, rfl⟩ ⟨Nat.le_refl _, Nat.le_refl _⟩) rfl (fun hz1 => ?_)
  refine lv_if_ne (tgt := 14) hx hb dX7_set_4 (by decide) (fun c2 => ?_) (fun c2 => ?_)
  · have hf := xe c2 hf
    refine lv_aload_n hx hb dX7_set_14 rfl (lv_at hl 0 rfl) ?_
    refine lv_iload_n hx hb dX7_set_15 rfl (lv_at hl 1 rfl) ?_
    obtain ⟨u3, hf3, hf⟩ := xb hf
    refine x_ran (x_runV (q0 := 0) (rest := []) (As := [.int p1]) hC mw_169 md_X7_isRow (c_X7_isRow (X := X) hf3) hH [0, 1] rfl (by decide) rfl rfl rfl hl.1 rfl rfl (Nat.le_of_ble_eq_true rfl) dX7_set_16 ⟨Nat.le_of_ble_eq_true rfl, Nat.le_of_ble_eq_true rfl⟩ ⟨rfl, rfl⟩ ⟨Nat.le_refl _, Nat.le_refl _⟩) rfl (fun hz3 => ?_)
    refine lv_if_ne (tgt := 32) hx hb dX7_set_19 (by decide) (fun c4 => ?_) (fun c4 => ?_)
    · have hf := xe c4 hf
      refine lv_iload_n hx hb dX7_set_32 rfl (lv_at hl 2 rfl) ?_
      refine lv_iconst (v := (nI 0)) hx hb dX7_set_33 (by decide) ?_
      refine lv_aload_n hx hb dX7_set_34 rfl (lv_at hl 0 rfl) ?_
      refine x_get hC fd_RX7_25 hH.1 0 rfl rfl dX7_set_35 ?_
      refine lv_iload_n hx hb dX7_set_38 rfl (lv_at hl 1 rfl) ?_
      obtain ⟨n5, hf⟩ := xok hf
      refine x_iald hC hH.1 3 rfl n5 dX7_set_39 ?_
      refine lv_iconst (v := (nI 1)) hx hb dX7_set_40 (by decide) ?_
      refine lv_isub hx hb dX7_set_41 ?_
      obtain ⟨u6, hf6, hf⟩ := xb hf
      refine x_ran (x_runS (rest := []) (As := [.int p2, .int (nI 0), .int ((v_rowLength (xat p1)) - (nI 1))]) hC mw_140 md_X7_within (c_X7_within (X := X) hf6) hH [] rfl (by decide) hl.1 rfl rfl (Nat.le_of_ble_eq_true rfl) dX7_set_42 ⟨Nat.le_of_ble_eq_true rfl, Nat.le_of_ble_eq_true rfl⟩ ⟨rfl, rfl⟩ ⟨Nat.le_refl _, Nat.le_refl _⟩) rfl (fun hz6 => ?_)
      refine lv_if_ne (tgt := 55) hx hb dX7_set_45 (by decide) (fun c7 => ?_) (fun c7 => ?_)
      · have hf := xe c7 hf
        refine lv_aload_n hx hb dX7_set_55 rfl (lv_at hl 0 rfl) ?_
        refine x_get hC fd_RX7_28 hH.1 0 rfl rfl dX7_set_56 ?_
        refine lv_bipush (v := (nI 40)) hx hb dX7_set_59 (by decide) ?_
        refine lv_iload_n hx hb dX7_set_61 rfl (lv_at hl 1 rfl) ?_
        refine lv_imul hx hb dX7_set_62 ?_
        refine lv_iload_n hx hb dX7_set_63 rfl (lv_at hl 2 rfl) ?_
        refine lv_iadd hx hb dX7_set_64 ?_
        refine lv_aload_n hx hb dX7_set_65 rfl (lv_at hl 0 rfl) ?_
        refine x_get hC fd_RX7_22 hH.1 0 rfl rfl dX7_set_66 ?_
        refine lv_iload_n hx hb dX7_set_69 rfl (lv_at hl 1 rfl) ?_
        obtain ⟨n8, hf⟩ := xok hf
        refine x_iald hC hH.1 1 rfl n8 dX7_set_70 ?_
        refine lv_lload_n hx hb dX7_set_71 rfl (lv_at hl 3 rfl) ?_
        obtain ⟨u9, hf9, hf⟩ := xb hf
        refine x_ran (x_runS (rest := [.int (((nI 40) * p1) + p2), .ref h4]) (As := [.int (v_holding (xat p1)), .long p3]) hC mw_177 md_X7_kept (c_X7_kept (X := X) hf9) hH [] rfl (by decide) hl.1 rfl rfl (Nat.le_of_ble_eq_true rfl) dX7_set_72 ⟨Nat.le_of_ble_eq_true rfl, Nat.le_of_ble_eq_true rfl⟩ ⟨rfl, rfl⟩ ⟨Nat.le_refl _, Nat.le_refl _⟩) rfl (fun hz9 => ?_)
        obtain ⟨n10, hf⟩ := xok hf
        refine x_last (ws' := [(h0, xO 7 [.int v_laws, .ref g0, .ref g1, .int v_inForce, .int v_depth, .int v_miss, .long v_ring, .int v_size, .int v_people, .ref g2, .int v_seed, .int v_taped, .ref g3, .int v_from, .int v_to, .int v_token, .int v_value, .ref h1, .ref h3, .ref h4, .ref h2, .int v_imaged, .ref g4, .long v_oldRing, .ref g5, .long v_aheadRing, .ref g6]), (h1, xI X 8 v_holding), (h2, xI X 7 v_refusals), (h3, xI X 8 v_rowLength), (h4, xJ X 320 (vp_updL v_rowOf (xat (((nI 40) * p1) + p2)) u9))]) hC hH 4 rfl n10 dX7_set_75 rfl (fun H locs hH => ?_)
        refine lv_iconst (v := (nI 1)) hx hb dX7_set_76 (by decide) ?_
        exact x_retiw (φ := fun _ => True) (f := fun u : Int32 × (Nat → Int32) × (Nat → Int64) => u.1) (wf := fun u : Int32 × (Nat → Int32) × (Nat → Int64) => [(h0, xO 7 [.int v_laws, .ref g0, .ref g1, .int v_inForce, .int v_depth, .int v_miss, .long v_ring, .int v_size, .int v_people, .ref g2, .int v_seed, .int v_taped, .ref g3, .int v_from, .int v_to, .int v_token, .int v_value, .ref h1, .ref h3, .ref h4, .ref h2, .int v_imaged, .ref g4, .long v_oldRing, .ref g5, .long v_aheadRing, .ref g6]), (h1, xI X 8 v_holding), (h2, xI X 7 u.2.1), (h3, xI X 8 v_rowLength), (h4, xJ X 320 u.2.2)]) hC hr hlk trivial hf hH rfl rfl dX7_set_77
      · have hf := xt c7 hf
        refine lv_aload_n hx hb dX7_set_48 rfl (lv_at hl 0 rfl) ?_
        refine lv_bipush (v := (-2 : Int32)) hx hb dX7_set_49 (by decide) ?_
        obtain ⟨u11, hf11, hf⟩ := xb hf
        refine x_ranw (ws' := [(h0, xO 7 [.int v_laws, .ref g0, .ref g1, .int v_inForce, .int v_depth, .int v_miss, .long v_ring, .int v_size, .int v_people, .ref g2, .int v_seed, .int v_taped, .ref g3, .int v_from, .int v_to, .int v_token, .int v_value, .ref h1, .ref h3, .ref h4, .ref h2, .int v_imaged, .ref g4, .long v_oldRing, .ref g5, .long v_aheadRing, .ref g6]), (h1, xI X 8 v_holding), (h2, xI X 7 u11.2), (h3, xI X 8 v_rowLength), (h4, xJ X 320 v_rowOf)]) (x_runV (q0 := 0) (rest := []) (As := [.int (-2 : Int32)]) hC mw_143 md_X7_no (c_X7_no (X := X) hf11) hH [0, 2] rfl (by decide) rfl rfl rfl hl.1 rfl rfl (Nat.le_of_ble_eq_true rfl) dX7_set_51 ⟨Nat.le_of_ble_eq_true rfl, Nat.le_of_ble_eq_true rfl⟩ ⟨rfl, rfl⟩ ⟨Nat.le_refl _, Nat.le_refl _⟩) hH [0, 2] rfl rfl rfl rfl rfl (fun hz11 H locs hH => ?_)
        exact x_retiw (φ := fun _ => True) (f := fun u : Int32 × (Nat → Int32) × (Nat → Int64) => u.1) (wf := fun u : Int32 × (Nat → Int32) × (Nat → Int64) => [(h0, xO 7 [.int v_laws, .ref g0, .ref g1, .int v_inForce, .int v_depth, .int v_miss, .long v_ring, .int v_size, .int v_people, .ref g2, .int v_seed, .int v_taped, .ref g3, .int v_from, .int v_to, .int v_token, .int v_value, .ref h1, .ref h3, .ref h4, .ref h2, .int v_imaged, .ref g4, .long v_oldRing, .ref g5, .long v_aheadRing, .ref g6]), (h1, xI X 8 v_holding), (h2, xI X 7 u.2.1), (h3, xI X 8 v_rowLength), (h4, xJ X 320 u.2.2)]) hC hr hlk trivial hf hH rfl rfl dX7_set_54
    · have hf := xt c4 hf
      refine lv_aload_n hx hb dX7_set_22 rfl (lv_at hl 0 rfl) ?_
      refine lv_aload_n hx hb dX7_set_23 rfl (lv_at hl 0 rfl) ?_
      refine lv_iload_n hx hb dX7_set_24 rfl (lv_at hl 1 rfl) ?_
      obtain ⟨u12, hf12, hf⟩ := xb hf
      refine x_ran (x_runV (q0 := 0) (rest := [.ref h0]) (As := [.int p1]) hC mw_173 md_X7_noRow (c_X7_noRow (X := X) hf12) hH [0, 1] rfl (by decide) rfl rfl rfl hl.1 rfl rfl (Nat.le_of_ble_eq_true rfl) dX7_set_25 ⟨Nat.le_of_ble_eq_true rfl, Nat.le_of_ble_eq_true rfl⟩ ⟨rfl, rfl⟩ ⟨Nat.le_refl _, Nat.le_refl _⟩) rfl (fun hz12 => ?_)
      obtain ⟨u13, hf13, hf⟩ := xb hf
      refine x_ranw (ws' := [(h0, xO 7 [.int v_laws, .ref g0, .ref g1, .int v_inForce, .int v_depth, .int v_miss, .long v_ring, .int v_size, .int v_people, .ref g2, .int v_seed, .int v_taped, .ref g3, .int v_from, .int v_to, .int v_token, .int v_value, .ref h1, .ref h3, .ref h4, .ref h2, .int v_imaged, .ref g4, .long v_oldRing, .ref g5, .long v_aheadRing, .ref g6]), (h1, xI X 8 v_holding), (h2, xI X 7 u13.2), (h3, xI X 8 v_rowLength), (h4, xJ X 320 v_rowOf)]) (x_runV (q0 := 0) (rest := []) (As := [.int u12]) hC mw_143 md_X7_no (c_X7_no (X := X) hf13) hH [0, 2] rfl (by decide) rfl rfl rfl hl.1 rfl rfl (Nat.le_of_ble_eq_true rfl) dX7_set_28 ⟨Nat.le_of_ble_eq_true rfl, Nat.le_of_ble_eq_true rfl⟩ ⟨rfl, rfl⟩ ⟨Nat.le_refl _, Nat.le_refl _⟩) hH [0, 2] rfl rfl rfl rfl rfl (fun hz13 H locs hH => ?_)
      exact x_retiw (φ := fun _ => True) (f := fun u : Int32 × (Nat → Int32) × (Nat → Int64) => u.1) (wf := fun u : Int32 × (Nat → Int32) × (Nat → Int64) => [(h0, xO 7 [.int v_laws, .ref g0, .ref g1, .int v_inForce, .int v_depth, .int v_miss, .long v_ring, .int v_size, .int v_people, .ref g2, .int v_seed, .int v_taped, .ref g3, .int v_from, .int v_to, .int v_token, .int v_value, .ref h1, .ref h3, .ref h4, .ref h2, .int v_imaged, .ref g4, .long v_oldRing, .ref g5, .long v_aheadRing, .ref g6]), (h1, xI X 8 v_holding), (h2, xI X 7 u.2.1), (h3, xI X 8 v_rowLength), (h4, xJ X 320 u.2.2)]) hC hr hlk trivial hf hH rfl rfl dX7_set_31
  · have hf := xt c2 hf
    refine lv_aload_n hx hb dX7_set_7 rfl (lv_at hl 0 rfl) ?_
    refine lv_bipush (v := (-2 : Int32)) hx hb dX7_set_8 (by decide) ?_
    obtain ⟨u14, hf14, hf⟩ := xb hf
    refine x_ranw (ws' := [(h0, xO 7 [.int v_laws, .ref g0, .ref g1, .int v_inForce, .int v_depth, .int v_miss, .long v_ring, .int v_size, .int v_people, .ref g2, .int v_seed, .int v_taped, .ref g3, .int v_from, .int v_to, .int v_token, .int v_value, .ref h1, .ref h3, .ref h4, .ref h2, .int v_imaged, .ref g4, .long v_oldRing, .ref g5, .long v_aheadRing, .ref g6]), (h1, xI X 8 v_holding), (h2, xI X 7 u14.2), (h3, xI X 8 v_rowLength), (h4, xJ X 320 v_rowOf)]) (x_runV (q0 := 0) (rest := []) (As := [.int (-2 : Int32)]) hC mw_143 md_X7_no (c_X7_no (X := X) hf14) hH [0, 2] rfl (by decide) rfl rfl rfl hl.1 rfl rfl (Nat.le_of_ble_eq_true rfl) dX7_set_10 ⟨Nat.le_of_ble_eq_true rfl, Nat.le_of_ble_eq_true rfl⟩ ⟨rfl, rfl⟩ ⟨Nat.le_refl _, Nat.le_refl _⟩) hH [0, 2] rfl rfl rfl rfl rfl (fun hz14 H locs hH => ?_)
    exact x_retiw (φ := fun _ => True) (f := fun u : Int32 × (Nat → Int32) × (Nat → Int64) => u.1) (wf := fun u : Int32 × (Nat → Int32) × (Nat → Int64) => [(h0, xO 7 [.int v_laws, .ref g0, .ref g1, .int v_inForce, .int v_depth, .int v_miss, .long v_ring, .int v_size, .int v_people, .ref g2, .int v_seed, .int v_taped, .ref g3, .int v_from, .int v_to, .int v_token, .int v_value, .ref h1, .ref h3, .ref h4, .ref h2, .int v_imaged, .ref g4, .long v_oldRing, .ref g5, .long v_aheadRing, .ref g6]), (h1, xI X 8 v_holding), (h2, xI X 7 u.2.1), (h3, xI X 8 v_rowLength), (h4, xJ X 320 u.2.2)]) hC hr hlk trivial hf hH rfl rfl dX7_set_13
def f_X7_copy_L225 (v_refusals : (Nat → Int32)) (p1 : Int32) (p2 : Int32) (p3 : Int32) (p4 : Int32) (p5 : Int32) (s225 : Int32 × (Nat → Int64)) : Option ((Int32 × (Nat → Int32) × (Nat → Int64)) ⊕ (Int32 × (Nat → Int64))) :=
  if p5 ≤ s225.1 then
    some (.inl (p5, v_refusals, s225.2))
  else
  if xout ((((nI 40) * p1) + p3) + s225.1) 320 then none else
  if xout ((((nI 40) * p2) + p4) + s225.1) 320 then none else
  some (.inr (s225.1 + (nI 1), vp_updL s225.2 (xat ((((nI 40) * p2) + p4) + s225.1)) (s225.2 (xat ((((nI 40) * p1) + p3) + s225.1)))))
def f_X7_copy_L179 (v_refusals : (Nat → Int32)) (p1 : Int32) (p2 : Int32) (p3 : Int32) (p4 : Int32) (p5 : Int32) (s179 : Int32 × (Nat → Int64)) : Option ((Int32 × (Nat → Int32) × (Nat → Int64)) ⊕ (Int32 × (Nat → Int64))) :=
  if s179.1 < (nI 0) then
    some (.inl (p5, v_refusals, s179.2))
  else
  if xout ((((nI 40) * p1) + p3) + s179.1) 320 then none else
  if xout ((((nI 40) * p2) + p4) + s179.1) 320 then none else
  some (.inr (s179.1 + (-1 : Int32), vp_updL s179.2 (xat ((((nI 40) * p2) + p4) + s179.1)) (s179.2 (xat ((((nI 40) * p1) + p3) + s179.1)))))
def f_X7_copy_J81 (v_holding : (Nat → Int32)) (v_refusals : (Nat → Int32)) (v_rowLength : (Nat → Int32)) (v_rowOf : (Nat → Int64)) (p1 : Int32) (p2 : Int32) (p3 : Int32) (p4 : Int32) (p5 : Int32) : Option (Int32 × (Nat → Int32) × (Nat → Int64)) :=
  if xout p1 8 then none else
  if (v_holding (xat p1)) < (nI 0) then
    (f_X7_no v_refusals (-4 : Int32)).bind fun u16 =>
    some (u16.1, u16.2, v_rowOf)
  else
  if xout p2 8 then none else
  if (nI 0) ≤ (v_holding (xat p2)) then
    if p5 < (nI 0) then
      (f_X7_no v_refusals (-2 : Int32)).bind fun u20 =>
      some (u20.1, u20.2, v_rowOf)
    else
    if p3 < (nI 0) then
      (f_X7_no v_refusals (-2 : Int32)).bind fun u22 =>
      some (u22.1, u22.2, v_rowOf)
    else
    if p4 < (nI 0) then
      (f_X7_no v_refusals (-2 : Int32)).bind fun u24 =>
      some (u24.1, u24.2, v_rowOf)
    else
    if xout p1 8 then none else
    if (nI 0) < (xcmp ((Int32.toInt64 p3) + (Int32.toInt64 p5)) (Int32.toInt64 (v_rowLength (xat p1)))) then
      (f_X7_no v_refusals (-2 : Int32)).bind fun u27 =>
      some (u27.1, u27.2, v_rowOf)
    else
    if xout p2 8 then none else
    if (xcmp ((Int32.toInt64 p4) + (Int32.toInt64 p5)) (Int32.toInt64 (v_rowLength (xat p2)))) ≤ (nI 0) then
      if p1 = p2 then
        if p4 ≤ p3 then
          xloop (f_X7_copy_L225 v_refusals p1 p2 p3 p4 p5) xN ((nI 0), v_rowOf)
        else
        xloop (f_X7_copy_L179 v_refusals p1 p2 p3 p4 p5) xN (p5 - (nI 1), v_rowOf)
      else
      xloop (f_X7_copy_L225 v_refusals p1 p2 p3 p4 p5) xN ((nI 0), v_rowOf)
    else
    (f_X7_no v_refusals (-2 : Int32)).bind fun u38 =>
    some (u38.1, u38.2, v_rowOf)
  else
  (f_X7_no v_refusals (-4 : Int32)).bind fun u39 =>
  some (u39.1, u39.2, v_rowOf)
def f_X7_copy (v_holding : (Nat → Int32)) (v_refusals : (Nat → Int32)) (v_rowLength : (Nat → Int32)) (v_rowOf : (Nat → Int64)) (p1 : Int32) (p2 : Int32) (p3 : Int32) (p4 : Int32) (p5 : Int32) : Option (Int32 × (Nat → Int32) × (Nat → Int64)) :=
  (f_X7_isShelf p1).bind fun u1 =>
  if u1 = (nI 0) then
    (f_X7_no v_refusals (-2 : Int32)).bind fun u3 =>
    some (u3.1, u3.2, v_rowOf)
  else
  (f_X7_isShelf p2).bind fun u4 =>
  if u4 = (nI 0) then
    (f_X7_no v_refusals (-2 : Int32)).bind fun u46 =>
    some (u46.1, u46.2, v_rowOf)
  else
  if xout p1 8 then none else
  if (nI 10) ≤ (v_holding (xat p1)) then
    (f_X7_no v_refusals (-3 : Int32)).bind fun u8 =>
    some (u8.1, u8.2, v_rowOf)
  else
  if xout p2 8 then none else
  if (nI 10) ≤ (v_holding (xat p2)) then
    (f_X7_no v_refusals (-3 : Int32)).bind fun u11 =>
    some (u11.1, u11.2, v_rowOf)
  else
  (f_X7_isRow v_holding p1).bind fun u12 =>
  if u12 = (nI 0) then
    f_X7_copy_J81 v_holding v_refusals v_rowLength v_rowOf p1 p2 p3 p4 p5
  else
  (f_X7_isRow v_holding p2).bind fun u40 =>
  if u40 = (nI 0) then
    f_X7_copy_J81 v_holding v_refusals v_rowLength v_rowOf p1 p2 p3 p4 p5
  else
  if xout p1 8 then none else
  if xout p2 8 then none else
  if (v_holding (xat p1)) = (v_holding (xat p2)) then
    f_X7_copy_J81 v_holding v_refusals v_rowLength v_rowOf p1 p2 p3 p4 p5
  else
  (f_X7_no v_refusals (-3 : Int32)).bind fun u45 =>
  some (u45.1, u45.2, v_rowOf)
set_option maxHeartbeats 4000000 in
set_option maxRecDepth 100000 in
theorem c_X7_copy {l : Launch} {X : xG} {h0 h1 h2 h3 h4 g0 g1 g2 g3 g4 g5 g6 : Nat} {v_laws : Int32} {v_inForce : Int32} {v_depth : Int32} {v_miss : Int32} {v_ring : Int64} {v_size : Int32} {v_people : Int32} {v_seed : Int32} {v_taped : Int32} {v_from : Int32} {v_to : Int32} {v_token : Int32} {v_value : Int32} {v_imaged : Int32} {v_oldRing : Int64} {v_aheadRing : Int64} {v_holding : (Nat → Int32)} {v_refusals : (Nat → Int32)} {v_rowLength : (Nat → Int32)} {v_rowOf : (Nat → Int64)} {p1 : Int32} {p2 : Int32} {p3 : Int32} {p4 : Int32} {p5 : Int32} {u : Int32 × (Nat → Int32) × (Nat → Int64)} (hf : f_X7_copy v_holding v_refusals v_rowLength v_rowOf p1 p2 p3 p4 p5 = some u) : Met l yX7_copy (xw yX7_copy cX7_copy 7 (some .int)) (xrm 2 43) (xPc [.ref h0, .int p1, .int p2, .int p3, .int p4, .int p5] X [(h0, xO 7 [.int v_laws, .ref g0, .ref g1, .int v_inForce, .int v_depth, .int v_miss, .long v_ring, .int v_size, .int v_people, .ref g2, .int v_seed, .int v_taped, .ref g3, .int v_from, .int v_to, .int v_token, .int v_value, .ref h1, .ref h3, .ref h4, .ref h2, .int v_imaged, .ref g4, .long v_oldRing, .ref g5, .long v_aheadRing, .ref g6]), (h1, xI X 8 v_holding), (h2, xI X 7 v_refusals), (h3, xI X 8 v_rowLength), (h4, xJ X 320 v_rowOf)]) (xQw True (.returned (some (.int u.1))) X [(h0, xO 7 [.int v_laws, .ref g0, .ref g1, .int v_inForce, .int v_depth, .int v_miss, .long v_ring, .int v_size, .int v_people, .ref g2, .int v_seed, .int v_taped, .ref g3, .int v_from, .int v_to, .int v_token, .int v_value, .ref h1, .ref h3, .ref h4, .ref h2, .int v_imaged, .ref g4, .long v_oldRing, .ref g5, .long v_aheadRing, .ref g6]), (h1, xI X 8 v_holding), (h2, xI X 7 u.2.1), (h3, xI X 8 v_rowLength), (h4, xJ X 320 u.2.2)] (xAs [(h0, xO 7 [.int v_laws, .ref g0, .ref g1, .int v_inForce, .int v_depth, .int v_miss, .long v_ring, .int v_size, .int v_people, .ref g2, .int v_seed, .int v_taped, .ref g3, .int v_from, .int v_to, .int v_token, .int v_value, .ref h1, .ref h3, .ref h4, .ref h2, .int v_imaged, .ref g4, .long v_oldRing, .ref g5, .long v_aheadRing, .ref g6]), (h1, xI X 8 v_holding), (h2, xI X 7 v_refusals), (h3, xI X 8 v_rowLength), (h4, xJ X 320 v_rowOf)])) 0 0 (xAs [(h0, xO 7 [.int v_laws, .ref g0, .ref g1, .int v_inForce, .int v_depth, .int v_miss, .long v_ring, .int v_size, .int v_people, .ref g2, .int v_seed, .int v_taped, .ref g3, .int v_from, .int v_to, .int v_token, .int v_value, .ref h1, .ref h3, .ref h4, .ref h2, .int v_imaged, .ref g4, .long v_oldRing, .ref g5, .long v_aheadRing, .ref g6]), (h1, xI X 8 v_holding), (h2, xI X 7 v_refusals), (h3, xI X 8 v_rowLength), (h4, xJ X 320 v_rowOf)]) := by
  refine xMetw (Qc := fun A => xQw True (.returned (some (.int u.1))) X [(h0, xO 7 [.int v_laws, .ref g0, .ref g1, .int v_inForce, .int v_depth, .int v_miss, .long v_ring, .int v_size, .int v_people, .ref g2, .int v_seed, .int v_taped, .ref g3, .int v_from, .int v_to, .int v_token, .int v_value, .ref h1, .ref h3, .ref h4, .ref h2, .int v_imaged, .ref g4, .long v_oldRing, .ref g5, .long v_aheadRing, .ref g6]), (h1, xI X 8 v_holding), (h2, xI X 7 u.2.1), (h3, xI X 8 v_rowLength), (h4, xJ X 320 u.2.2)] A) (n := 5) md_X7_copy.1 (Nat.le_of_ble_eq_true rfl) ?_
  intro p e s m args below meth c ls A hC hr hlk hH hl
  have hl : lv_has ls 7 [(0, .ref h0), (1, .int p1), (2, .int p2), (3, .int p3), (4, .int p4), (5, .int p5)] := hl
  have hx := hC.1
  have hb := hC.2.1
  have L225 : ∀ (n : Nat) (s225 : Int32 × (Nat → Int64)), xloop (f_X7_copy_L225 v_refusals p1 p2 p3 p4 p5) n s225 = some u → ∀ (H : Heap) (locs : List Loc), xH X A [(h0, xO 7 [.int v_laws, .ref g0, .ref g1, .int v_inForce, .int v_depth, .int v_miss, .long v_ring, .int v_size, .int v_people, .ref g2, .int v_seed, .int v_taped, .ref g3, .int v_from, .int v_to, .int v_token, .int v_value, .ref h1, .ref h3, .ref h4, .ref h2, .int v_imaged, .ref g4, .long v_oldRing, .ref g5, .long v_aheadRing, .ref g6]), (h1, xI X 8 v_holding), (h2, xI X 7 v_refusals), (h3, xI X 8 v_rowLength), (h4, xJ X 320 s225.2)] s.heap H locs → ∀ (ls : Array Slot), lv_has ls 7 [(0, .ref h0), (1, .int p1), (2, .int p2), (3, .int p3), (4, .int p4), (5, .int p5), (6, .int s225.1)] → W p l e (xrm 2 43) s m args below meth c H locs 0 0 (MQ below (xQw True (.returned (some (.int u.1))) X [(h0, xO 7 [.int v_laws, .ref g0, .ref g1, .int v_inForce, .int v_depth, .int v_miss, .long v_ring, .int v_size, .int v_people, .ref g2, .int v_seed, .int v_taped, .ref g3, .int v_from, .int v_to, .int v_token, .int v_value, .ref h1, .ref h3, .ref h4, .ref h2, .int v_imaged, .ref g4, .long v_oldRing, .ref g5, .long v_aheadRing, .ref g6]), (h1, xI X 8 v_holding), (h2, xI X 7 u.2.1), (h3, xI X 8 v_rowLength), (h4, xJ X 320 u.2.2)] A) args s 0 0 A) (F0 m 225 ls []) := by
    intro  n
    induction n with
    | zero => intro s225 hf; exact xloop_0 hf
    | succ n ih225 =>
      intro s225 hf H locs hH ls hl
      obtain ⟨o225, hf, ho225⟩ := xloop_s hf
      refine lv_iload hx hb dX7_copy_225 (lv_at hl 6 rfl) ?_
      refine lv_iload hx hb dX7_copy_227 (lv_at hl 5 rfl) ?_
      refine lv_icmp_ge (tgt := 267) hx hb dX7_copy_229 (by decide) (fun c31 => ?_) (fun c31 => ?_)
      · have hf := xt c31 hf
        refine lv_iload hx hb dX7_copy_267 (lv_at hl 5 rfl) ?_
        have hf := xo_ret hf ho225
        exact x_retiw (φ := fun _ => True) (f := fun u : Int32 × (Nat → Int32) × (Nat → Int64) => u.1) (wf := fun u : Int32 × (Nat → Int32) × (Nat → Int64) => [(h0, xO 7 [.int v_laws, .ref g0, .ref g1, .int v_inForce, .int v_depth, .int v_miss, .long v_ring, .int v_size, .int v_people, .ref g2, .int v_seed, .int v_taped, .ref g3, .int v_from, .int v_to, .int v_token, .int v_value, .ref h1, .ref h3, .ref h4, .ref h2, .int v_imaged, .ref g4, .long v_oldRing, .ref g5, .long v_aheadRing, .ref g6]), (h1, xI X 8 v_holding), (h2, xI X 7 u.2.1), (h3, xI X 8 v_rowLength), (h4, xJ X 320 u.2.2)]) hC hr hlk trivial hf hH rfl rfl dX7_copy_269
      · have hf := xe c31 hf
        refine lv_aload_n hx hb dX7_copy_232 rfl (lv_at hl 0 rfl) ?_
        refine x_get hC fd_RX7_28 hH.1 0 rfl rfl dX7_copy_233 ?_
        refine lv_bipush (v := (nI 40)) hx hb dX7_copy_236 (by decide) ?_
        refine lv_iload_n hx hb dX7_copy_238 rfl (lv_at hl 2 rfl) ?_
        refine lv_imul hx hb dX7_copy_239 ?_
        refine lv_iload hx hb dX7_copy_240 (lv_at hl 4 rfl) ?_
        refine lv_iadd hx hb dX7_copy_242 ?_
        refine lv_iload hx hb dX7_copy_243 (lv_at hl 6 rfl) ?_
        refine lv_iadd hx hb dX7_copy_245 ?_
        refine lv_aload_n hx hb dX7_copy_246 rfl (lv_at hl 0 rfl) ?_
        refine x_get hC fd_RX7_28 hH.1 0 rfl rfl dX7_copy_247 ?_
        refine lv_bipush (v := (nI 40)) hx hb dX7_copy_250 (by decide) ?_
        refine lv_iload_n hx hb dX7_copy_252 rfl (lv_at hl 1 rfl) ?_
        refine lv_imul hx hb dX7_copy_253 ?_
        refine lv_iload_n hx hb dX7_copy_254 rfl (lv_at hl 3 rfl) ?_
        refine lv_iadd hx hb dX7_copy_255 ?_
        refine lv_iload hx hb dX7_copy_256 (lv_at hl 6 rfl) ?_
        refine lv_iadd hx hb dX7_copy_258 ?_
        obtain ⟨n32, hf⟩ := xok hf
        refine x_lald hC hH.1 4 rfl n32 dX7_copy_259 ?_
        obtain ⟨n33, hf⟩ := xok hf
        refine x_last (ws' := [(h0, xO 7 [.int v_laws, .ref g0, .ref g1, .int v_inForce, .int v_depth, .int v_miss, .long v_ring, .int v_size, .int v_people, .ref g2, .int v_seed, .int v_taped, .ref g3, .int v_from, .int v_to, .int v_token, .int v_value, .ref h1, .ref h3, .ref h4, .ref h2, .int v_imaged, .ref g4, .long v_oldRing, .ref g5, .long v_aheadRing, .ref g6]), (h1, xI X 8 v_holding), (h2, xI X 7 v_refusals), (h3, xI X 8 v_rowLength), (h4, xJ X 320 (vp_updL s225.2 (xat ((((nI 40) * p2) + p4) + s225.1)) (s225.2 (xat ((((nI 40) * p1) + p3) + s225.1)))))]) hC hH 4 rfl n33 dX7_copy_260 rfl (fun H locs hH => ?_)
        refine lv_iinc (v := s225.1 + (nI 1)) (lv' := [(6, .int (s225.1 + (nI 1))), (0, .ref h0), (1, .int p1), (2, .int p2), (3, .int p3), (4, .int p4), (5, .int p5)]) hx hb dX7_copy_261 hl (k := 6) rfl rfl (by decide) rfl (fun ls hl => ?_)
        refine lv_goto (tgt := 225) hx hb dX7_copy_264 (by decide) ?_
        have hf := xo_go hf ho225
        exact ih225 (s225.1 + (nI 1), vp_updL s225.2 (xat ((((nI 40) * p2) + p4) + s225.1)) (s225.2 (xat ((((nI 40) * p1) + p3) + s225.1)))) hf _ _ hH ls (lv_sub hl [1, 2, 3, 4, 5, 6, 0] rfl)
  have L179 : ∀ (n : Nat) (s179 : Int32 × (Nat → Int64)), xloop (f_X7_copy_L179 v_refusals p1 p2 p3 p4 p5) n s179 = some u → ∀ (H : Heap) (locs : List Loc), xH X A [(h0, xO 7 [.int v_laws, .ref g0, .ref g1, .int v_inForce, .int v_depth, .int v_miss, .long v_ring, .int v_size, .int v_people, .ref g2, .int v_seed, .int v_taped, .ref g3, .int v_from, .int v_to, .int v_token, .int v_value, .ref h1, .ref h3, .ref h4, .ref h2, .int v_imaged, .ref g4, .long v_oldRing, .ref g5, .long v_aheadRing, .ref g6]), (h1, xI X 8 v_holding), (h2, xI X 7 v_refusals), (h3, xI X 8 v_rowLength), (h4, xJ X 320 s179.2)] s.heap H locs → ∀ (ls : Array Slot), lv_has ls 7 [(0, .ref h0), (1, .int p1), (2, .int p2), (3, .int p3), (4, .int p4), (5, .int p5), (6, .int s179.1)] → W p l e (xrm 2 43) s m args below meth c H locs 0 0 (MQ below (xQw True (.returned (some (.int u.1))) X [(h0, xO 7 [.int v_laws, .ref g0, .ref g1, .int v_inForce, .int v_depth, .int v_miss, .long v_ring, .int v_size, .int v_people, .ref g2, .int v_seed, .int v_taped, .ref g3, .int v_from, .int v_to, .int v_token, .int v_value, .ref h1, .ref h3, .ref h4, .ref h2, .int v_imaged, .ref g4, .long v_oldRing, .ref g5, .long v_aheadRing, .ref g6]), (h1, xI X 8 v_holding), (h2, xI X 7 u.2.1), (h3, xI X 8 v_rowLength), (h4, xJ X 320 u.2.2)] A) args s 0 0 A) (F0 m 179 ls []) := by
    intro  n
    induction n with
    | zero => intro s179 hf; exact xloop_0 hf
    | succ n ih179 =>
      intro s179 hf H locs hH ls hl
      obtain ⟨o179, hf, ho179⟩ := xloop_s hf
      refine lv_iload hx hb dX7_copy_179 (lv_at hl 6 rfl) ?_
      refine lv_if_lt (tgt := 219) hx hb dX7_copy_181 (by decide) (fun c35 => ?_) (fun c35 => ?_)
      · have hf := xt c35 hf
        refine lv_goto (tgt := 267) hx hb dX7_copy_219 (by decide) ?_
        refine lv_iload hx hb dX7_copy_267 (lv_at hl 5 rfl) ?_
        have hf := xo_ret hf ho179
        exact x_retiw (φ := fun _ => True) (f := fun u : Int32 × (Nat → Int32) × (Nat → Int64) => u.1) (wf := fun u : Int32 × (Nat → Int32) × (Nat → Int64) => [(h0, xO 7 [.int v_laws, .ref g0, .ref g1, .int v_inForce, .int v_depth, .int v_miss, .long v_ring, .int v_size, .int v_people, .ref g2, .int v_seed, .int v_taped, .ref g3, .int v_from, .int v_to, .int v_token, .int v_value, .ref h1, .ref h3, .ref h4, .ref h2, .int v_imaged, .ref g4, .long v_oldRing, .ref g5, .long v_aheadRing, .ref g6]), (h1, xI X 8 v_holding), (h2, xI X 7 u.2.1), (h3, xI X 8 v_rowLength), (h4, xJ X 320 u.2.2)]) hC hr hlk trivial hf hH rfl rfl dX7_copy_269
      · have hf := xe c35 hf
        refine lv_aload_n hx hb dX7_copy_184 rfl (lv_at hl 0 rfl) ?_
        refine x_get hC fd_RX7_28 hH.1 0 rfl rfl dX7_copy_185 ?_
        refine lv_bipush (v := (nI 40)) hx hb dX7_copy_188 (by decide) ?_
        refine lv_iload_n hx hb dX7_copy_190 rfl (lv_at hl 2 rfl) ?_
        refine lv_imul hx hb dX7_copy_191 ?_
        refine lv_iload hx hb dX7_copy_192 (lv_at hl 4 rfl) ?_
        refine lv_iadd hx hb dX7_copy_194 ?_
        refine lv_iload hx hb dX7_copy_195 (lv_at hl 6 rfl) ?_
        refine lv_iadd hx hb dX7_copy_197 ?_
        refine lv_aload_n hx hb dX7_copy_198 rfl (lv_at hl 0 rfl) ?_
        refine x_get hC fd_RX7_28 hH.1 0 rfl rfl dX7_copy_199 ?_
        refine lv_bipush (v := (nI 40)) hx hb dX7_copy_202 (by decide) ?_
        refine lv_iload_n hx hb dX7_copy_204 rfl (lv_at hl 1 rfl) ?_
        refine lv_imul hx hb dX7_copy_205 ?_
        refine lv_iload_n hx hb dX7_copy_206 rfl (lv_at hl 3 rfl) ?_
        refine lv_iadd hx hb dX7_copy_207 ?_
        refine lv_iload hx hb dX7_copy_208 (lv_at hl 6 rfl) ?_
        refine lv_iadd hx hb dX7_copy_210 ?_
        obtain ⟨n36, hf⟩ := xok hf
        refine x_lald hC hH.1 4 rfl n36 dX7_copy_211 ?_
        obtain ⟨n37, hf⟩ := xok hf
        refine x_last (ws' := [(h0, xO 7 [.int v_laws, .ref g0, .ref g1, .int v_inForce, .int v_depth, .int v_miss, .long v_ring, .int v_size, .int v_people, .ref g2, .int v_seed, .int v_taped, .ref g3, .int v_from, .int v_to, .int v_token, .int v_value, .ref h1, .ref h3, .ref h4, .ref h2, .int v_imaged, .ref g4, .long v_oldRing, .ref g5, .long v_aheadRing, .ref g6]), (h1, xI X 8 v_holding), (h2, xI X 7 v_refusals), (h3, xI X 8 v_rowLength), (h4, xJ X 320 (vp_updL s179.2 (xat ((((nI 40) * p2) + p4) + s179.1)) (s179.2 (xat ((((nI 40) * p1) + p3) + s179.1)))))]) hC hH 4 rfl n37 dX7_copy_212 rfl (fun H locs hH => ?_)
        refine lv_iinc (v := s179.1 + (-1 : Int32)) (lv' := [(6, .int (s179.1 + (-1 : Int32))), (0, .ref h0), (1, .int p1), (2, .int p2), (3, .int p3), (4, .int p4), (5, .int p5)]) hx hb dX7_copy_213 hl (k := 6) rfl rfl (by decide) rfl (fun ls hl => ?_)
        refine lv_goto (tgt := 179) hx hb dX7_copy_216 (by decide) ?_
        have hf := xo_go hf ho179
        exact ih179 (s179.1 + (-1 : Int32), vp_updL s179.2 (xat ((((nI 40) * p2) + p4) + s179.1)) (s179.2 (xat ((((nI 40) * p1) + p3) + s179.1)))) hf _ _ hH ls (lv_sub hl [1, 2, 3, 4, 5, 6, 0] rfl)
  have J81 : ∀ (_ : True), f_X7_copy_J81 v_holding v_refusals v_rowLength v_rowOf p1 p2 p3 p4 p5 = some u → ∀ (H : Heap) (locs : List Loc), xH X A [(h0, xO 7 [.int v_laws, .ref g0, .ref g1, .int v_inForce, .int v_depth, .int v_miss, .long v_ring, .int v_size, .int v_people, .ref g2, .int v_seed, .int v_taped, .ref g3, .int v_from, .int v_to, .int v_token, .int v_value, .ref h1, .ref h3, .ref h4, .ref h2, .int v_imaged, .ref g4, .long v_oldRing, .ref g5, .long v_aheadRing, .ref g6]), (h1, xI X 8 v_holding), (h2, xI X 7 v_refusals), (h3, xI X 8 v_rowLength), (h4, xJ X 320 v_rowOf)] s.heap H locs → ∀ (ls : Array Slot), lv_has ls 7 [(0, .ref h0), (1, .int p1), (2, .int p2), (3, .int p3), (4, .int p4), (5, .int p5)] → W p l e (xrm 2 43) s m args below meth c H locs 0 0 (MQ below (xQw True (.returned (some (.int u.1))) X [(h0, xO 7 [.int v_laws, .ref g0, .ref g1, .int v_inForce, .int v_depth, .int v_miss, .long v_ring, .int v_size, .int v_people, .ref g2, .int v_seed, .int v_taped, .ref g3, .int v_from, .int v_to, .int v_token, .int v_value, .ref h1, .ref h3, .ref h4, .ref h2, .int v_imaged, .ref g4, .long v_oldRing, .ref g5, .long v_aheadRing, .ref g6]), (h1, xI X 8 v_holding), (h2, xI X 7 u.2.1), (h3, xI X 8 v_rowLength), (h4, xJ X 320 u.2.2)] A) args s 0 0 A) (F0 m 81 ls []) := by
    intro _ hf H locs hH ls hl
    refine lv_aload_n hx hb dX7_copy_81 rfl (lv_at hl 0 rfl) ?_
    refine x_get hC fd_RX7_22 hH.1 0 rfl rfl dX7_copy_82 ?_
    refine lv_iload_n hx hb dX7_copy_85 rfl (lv_at hl 1 rfl) ?_
    obtain ⟨n14, hf⟩ := xok hf
    refine x_iald hC hH.1 1 rfl n14 dX7_copy_86 ?_
    refine lv_if_lt (tgt := 99) hx hb dX7_copy_87 (by decide) (fun c15 => ?_) (fun c15 => ?_)
    · have hf := xt c15 hf
      refine lv_aload_n hx hb dX7_copy_99 rfl (lv_at hl 0 rfl) ?_
      refine lv_bipush (v := (-4 : Int32)) hx hb dX7_copy_100 (by decide) ?_
      obtain ⟨u16, hf16, hf⟩ := xb hf
      refine x_ranw (ws' := [(h0, xO 7 [.int v_laws, .ref g0, .ref g1, .int v_inForce, .int v_depth, .int v_miss, .long v_ring, .int v_size, .int v_people, .ref g2, .int v_seed, .int v_taped, .ref g3, .int v_from, .int v_to, .int v_token, .int v_value, .ref h1, .ref h3, .ref h4, .ref h2, .int v_imaged, .ref g4, .long v_oldRing, .ref g5, .long v_aheadRing, .ref g6]), (h1, xI X 8 v_holding), (h2, xI X 7 u16.2), (h3, xI X 8 v_rowLength), (h4, xJ X 320 v_rowOf)]) (x_runV (q0 := 0) (rest := []) (As := [.int (-4 : Int32)]) hC mw_143 md_X7_no (c_X7_no (X := X) hf16) hH [0, 2] rfl (by decide) rfl rfl rfl hl.1 rfl rfl (Nat.le_of_ble_eq_true rfl) dX7_copy_102 ⟨Nat.le_of_ble_eq_true rfl, Nat.le_of_ble_eq_true rfl⟩ ⟨rfl, rfl⟩ ⟨Nat.le_refl _, Nat.le_refl _⟩) hH [0, 2] rfl rfl rfl rfl rfl (fun hz16 H locs hH => ?_)
      exact x_retiw (φ := fun _ => True) (f := fun u : Int32 × (Nat → Int32) × (Nat → Int64) => u.1) (wf := fun u : Int32 × (Nat → Int32) × (Nat → Int64) => [(h0, xO 7 [.int v_laws, .ref g0, .ref g1, .int v_inForce, .int v_depth, .int v_miss, .long v_ring, .int v_size, .int v_people, .ref g2, .int v_seed, .int v_taped, .ref g3, .int v_from, .int v_to, .int v_token, .int v_value, .ref h1, .ref h3, .ref h4, .ref h2, .int v_imaged, .ref g4, .long v_oldRing, .ref g5, .long v_aheadRing, .ref g6]), (h1, xI X 8 v_holding), (h2, xI X 7 u.2.1), (h3, xI X 8 v_rowLength), (h4, xJ X 320 u.2.2)]) hC hr hlk trivial hf hH rfl rfl dX7_copy_105
    · have hf := xe c15 hf
      refine lv_aload_n hx hb dX7_copy_90 rfl (lv_at hl 0 rfl) ?_
      refine x_get hC fd_RX7_22 hH.1 0 rfl rfl dX7_copy_91 ?_
      refine lv_iload_n hx hb dX7_copy_94 rfl (lv_at hl 2 rfl) ?_
      obtain ⟨n17, hf⟩ := xok hf
      refine x_iald hC hH.1 1 rfl n17 dX7_copy_95 ?_
      refine lv_if_ge (tgt := 106) hx hb dX7_copy_96 (by decide) (fun c18 => ?_) (fun c18 => ?_)
      · have hf := xt c18 hf
        refine lv_iload hx hb dX7_copy_106 (lv_at hl 5 rfl) ?_
        refine lv_if_lt (tgt := 155) hx hb dX7_copy_108 (by decide) (fun c19 => ?_) (fun c19 => ?_)
        · have hf := xt c19 hf
          refine lv_aload_n hx hb dX7_copy_155 rfl (lv_at hl 0 rfl) ?_
          refine lv_bipush (v := (-2 : Int32)) hx hb dX7_copy_156 (by decide) ?_
          obtain ⟨u20, hf20, hf⟩ := xb hf
          refine x_ranw (ws' := [(h0, xO 7 [.int v_laws, .ref g0, .ref g1, .int v_inForce, .int v_depth, .int v_miss, .long v_ring, .int v_size, .int v_people, .ref g2, .int v_seed, .int v_taped, .ref g3, .int v_from, .int v_to, .int v_token, .int v_value, .ref h1, .ref h3, .ref h4, .ref h2, .int v_imaged, .ref g4, .long v_oldRing, .ref g5, .long v_aheadRing, .ref g6]), (h1, xI X 8 v_holding), (h2, xI X 7 u20.2), (h3, xI X 8 v_rowLength), (h4, xJ X 320 v_rowOf)]) (x_runV (q0 := 0) (rest := []) (As := [.int (-2 : Int32)]) hC mw_143 md_X7_no (c_X7_no (X := X) hf20) hH [0, 2] rfl (by decide) rfl rfl rfl hl.1 rfl rfl (Nat.le_of_ble_eq_true rfl) dX7_copy_158 ⟨Nat.le_of_ble_eq_true rfl, Nat.le_of_ble_eq_true rfl⟩ ⟨rfl, rfl⟩ ⟨Nat.le_refl _, Nat.le_refl _⟩) hH [0, 2] rfl rfl rfl rfl rfl (fun hz20 H locs hH => ?_)
          exact x_retiw (φ := fun _ => True) (f := fun u : Int32 × (Nat → Int32) × (Nat → Int64) => u.1) (wf := fun u : Int32 × (Nat → Int32) × (Nat → Int64) => [(h0, xO 7 [.int v_laws, .ref g0, .ref g1, .int v_inForce, .int v_depth, .int v_miss, .long v_ring, .int v_size, .int v_people, .ref g2, .int v_seed, .int v_taped, .ref g3, .int v_from, .int v_to, .int v_token, .int v_value, .ref h1, .ref h3, .ref h4, .ref h2, .int v_imaged, .ref g4, .long v_oldRing, .ref g5, .long v_aheadRing, .ref g6]), (h1, xI X 8 v_holding), (h2, xI X 7 u.2.1), (h3, xI X 8 v_rowLength), (h4, xJ X 320 u.2.2)]) hC hr hlk trivial hf hH rfl rfl dX7_copy_161
        · have hf := xe c19 hf
          refine lv_iload_n hx hb dX7_copy_111 rfl (lv_at hl 3 rfl) ?_
          refine lv_if_lt (tgt := 155) hx hb dX7_copy_112 (by decide) (fun c21 => ?_) (fun c21 => ?_)
          · have hf := xt c21 hf
            refine lv_aload_n hx hb dX7_copy_155 rfl (lv_at hl 0 rfl) ?_
            refine lv_bipush (v := (-2 : Int32)) hx hb dX7_copy_156 (by decide) ?_
            obtain ⟨u22, hf22, hf⟩ := xb hf
            refine x_ranw (ws' := [(h0, xO 7 [.int v_laws, .ref g0, .ref g1, .int v_inForce, .int v_depth, .int v_miss, .long v_ring, .int v_size, .int v_people, .ref g2, .int v_seed, .int v_taped, .ref g3, .int v_from, .int v_to, .int v_token, .int v_value, .ref h1, .ref h3, .ref h4, .ref h2, .int v_imaged, .ref g4, .long v_oldRing, .ref g5, .long v_aheadRing, .ref g6]), (h1, xI X 8 v_holding), (h2, xI X 7 u22.2), (h3, xI X 8 v_rowLength), (h4, xJ X 320 v_rowOf)]) (x_runV (q0 := 0) (rest := []) (As := [.int (-2 : Int32)]) hC mw_143 md_X7_no (c_X7_no (X := X) hf22) hH [0, 2] rfl (by decide) rfl rfl rfl hl.1 rfl rfl (Nat.le_of_ble_eq_true rfl) dX7_copy_158 ⟨Nat.le_of_ble_eq_true rfl, Nat.le_of_ble_eq_true rfl⟩ ⟨rfl, rfl⟩ ⟨Nat.le_refl _, Nat.le_refl _⟩) hH [0, 2] rfl rfl rfl rfl rfl (fun hz22 H locs hH => ?_)
            exact x_retiw (φ := fun _ => True) (f := fun u : Int32 × (Nat → Int32) × (Nat → Int64) => u.1) (wf := fun u : Int32 × (Nat → Int32) × (Nat → Int64) => [(h0, xO 7 [.int v_laws, .ref g0, .ref g1, .int v_inForce, .int v_depth, .int v_miss, .long v_ring, .int v_size, .int v_people, .ref g2, .int v_seed, .int v_taped, .ref g3, .int v_from, .int v_to, .int v_token, .int v_value, .ref h1, .ref h3, .ref h4, .ref h2, .int v_imaged, .ref g4, .long v_oldRing, .ref g5, .long v_aheadRing, .ref g6]), (h1, xI X 8 v_holding), (h2, xI X 7 u.2.1), (h3, xI X 8 v_rowLength), (h4, xJ X 320 u.2.2)]) hC hr hlk trivial hf hH rfl rfl dX7_copy_161
          · have hf := xe c21 hf
            refine lv_iload hx hb dX7_copy_115 (lv_at hl 4 rfl) ?_
            refine lv_if_lt (tgt := 155) hx hb dX7_copy_117 (by decide) (fun c23 => ?_) (fun c23 => ?_)
            · have hf := xt c23 hf
              refine lv_aload_n hx hb dX7_copy_155 rfl (lv_at hl 0 rfl) ?_
              refine lv_bipush (v := (-2 : Int32)) hx hb dX7_copy_156 (by decide) ?_
              obtain ⟨u24, hf24, hf⟩ := xb hf
              refine x_ranw (ws' := [(h0, xO 7 [.int v_laws, .ref g0, .ref g1, .int v_inForce, .int v_depth, .int v_miss, .long v_ring, .int v_size, .int v_people, .ref g2, .int v_seed, .int v_taped, .ref g3, .int v_from, .int v_to, .int v_token, .int v_value, .ref h1, .ref h3, .ref h4, .ref h2, .int v_imaged, .ref g4, .long v_oldRing, .ref g5, .long v_aheadRing, .ref g6]), (h1, xI X 8 v_holding), (h2, xI X 7 u24.2), (h3, xI X 8 v_rowLength), (h4, xJ X 320 v_rowOf)]) (x_runV (q0 := 0) (rest := []) (As := [.int (-2 : Int32)]) hC mw_143 md_X7_no (c_X7_no (X := X) hf24) hH [0, 2] rfl (by decide) rfl rfl rfl hl.1 rfl rfl (Nat.le_of_ble_eq_true rfl) dX7_copy_158 ⟨Nat.le_of_ble_eq_true rfl, Nat.le_of_ble_eq_true rfl⟩ ⟨rfl, rfl⟩ ⟨Nat.le_refl _, Nat.le_refl _⟩) hH [0, 2] rfl rfl rfl rfl rfl (fun hz24 H locs hH => ?_)
              exact x_retiw (φ := fun _ => True) (f := fun u : Int32 × (Nat → Int32) × (Nat → Int64) => u.1) (wf := fun u : Int32 × (Nat → Int32) × (Nat → Int64) => [(h0, xO 7 [.int v_laws, .ref g0, .ref g1, .int v_inForce, .int v_depth, .int v_miss, .long v_ring, .int v_size, .int v_people, .ref g2, .int v_seed, .int v_taped, .ref g3, .int v_from, .int v_to, .int v_token, .int v_value, .ref h1, .ref h3, .ref h4, .ref h2, .int v_imaged, .ref g4, .long v_oldRing, .ref g5, .long v_aheadRing, .ref g6]), (h1, xI X 8 v_holding), (h2, xI X 7 u.2.1), (h3, xI X 8 v_rowLength), (h4, xJ X 320 u.2.2)]) hC hr hlk trivial hf hH rfl rfl dX7_copy_161
            · have hf := xe c23 hf
              refine lv_iload_n hx hb dX7_copy_120 rfl (lv_at hl 3 rfl) ?_
              refine lv_i2l hx hb dX7_copy_121 rfl ?_
              refine lv_iload hx hb dX7_copy_122 (lv_at hl 5 rfl) ?_
              refine lv_i2l hx hb dX7_copy_124 rfl ?_
              refine lv_ladd hx hb dX7_copy_125 ?_
              refine lv_aload_n hx hb dX7_copy_126 rfl (lv_at hl 0 rfl) ?_
              refine x_get hC fd_RX7_25 hH.1 0 rfl rfl dX7_copy_127 ?_
              refine lv_iload_n hx hb dX7_copy_130 rfl (lv_at hl 1 rfl) ?_
              obtain ⟨n25, hf⟩ := xok hf
              refine x_iald hC hH.1 3 rfl n25 dX7_copy_131 ?_
              refine lv_i2l hx hb dX7_copy_132 rfl ?_
              refine x_lcmp hx hb dX7_copy_133 ?_
              refine lv_if_gt (tgt := 155) hx hb dX7_copy_134 (by decide) (fun c26 => ?_) (fun c26 => ?_)
              · have hf := xt c26 hf
                refine lv_aload_n hx hb dX7_copy_155 rfl (lv_at hl 0 rfl) ?_
                refine lv_bipush (v := (-2 : Int32)) hx hb dX7_copy_156 (by decide) ?_
                obtain ⟨u27, hf27, hf⟩ := xb hf
                refine x_ranw (ws' := [(h0, xO 7 [.int v_laws, .ref g0, .ref g1, .int v_inForce, .int v_depth, .int v_miss, .long v_ring, .int v_size, .int v_people, .ref g2, .int v_seed, .int v_taped, .ref g3, .int v_from, .int v_to, .int v_token, .int v_value, .ref h1, .ref h3, .ref h4, .ref h2, .int v_imaged, .ref g4, .long v_oldRing, .ref g5, .long v_aheadRing, .ref g6]), (h1, xI X 8 v_holding), (h2, xI X 7 u27.2), (h3, xI X 8 v_rowLength), (h4, xJ X 320 v_rowOf)]) (x_runV (q0 := 0) (rest := []) (As := [.int (-2 : Int32)]) hC mw_143 md_X7_no (c_X7_no (X := X) hf27) hH [0, 2] rfl (by decide) rfl rfl rfl hl.1 rfl rfl (Nat.le_of_ble_eq_true rfl) dX7_copy_158 ⟨Nat.le_of_ble_eq_true rfl, Nat.le_of_ble_eq_true rfl⟩ ⟨rfl, rfl⟩ ⟨Nat.le_refl _, Nat.le_refl _⟩) hH [0, 2] rfl rfl rfl rfl rfl (fun hz27 H locs hH => ?_)
                exact x_retiw (φ := fun _ => True) (f := fun u : Int32 × (Nat → Int32) × (Nat → Int64) => u.1) (wf := fun u : Int32 × (Nat → Int32) × (Nat → Int64) => [(h0, xO 7 [.int v_laws, .ref g0, .ref g1, .int v_inForce, .int v_depth, .int v_miss, .long v_ring, .int v_size, .int v_people, .ref g2, .int v_seed, .int v_taped, .ref g3, .int v_from, .int v_to, .int v_token, .int v_value, .ref h1, .ref h3, .ref h4, .ref h2, .int v_imaged, .ref g4, .long v_oldRing, .ref g5, .long v_aheadRing, .ref g6]), (h1, xI X 8 v_holding), (h2, xI X 7 u.2.1), (h3, xI X 8 v_rowLength), (h4, xJ X 320 u.2.2)]) hC hr hlk trivial hf hH rfl rfl dX7_copy_161
              · have hf := xe c26 hf
                refine lv_iload hx hb dX7_copy_137 (lv_at hl 4 rfl) ?_
                refine lv_i2l hx hb dX7_copy_139 rfl ?_
                refine lv_iload hx hb dX7_copy_140 (lv_at hl 5 rfl) ?_
                refine lv_i2l hx hb dX7_copy_142 rfl ?_
                refine lv_ladd hx hb dX7_copy_143 ?_
                refine lv_aload_n hx hb dX7_copy_144 rfl (lv_at hl 0 rfl) ?_
                refine x_get hC fd_RX7_25 hH.1 0 rfl rfl dX7_copy_145 ?_
                refine lv_iload_n hx hb dX7_copy_148 rfl (lv_at hl 2 rfl) ?_
                obtain ⟨n28, hf⟩ := xok hf
                refine x_iald hC hH.1 3 rfl n28 dX7_copy_149 ?_
                refine lv_i2l hx hb dX7_copy_150 rfl ?_
                refine x_lcmp hx hb dX7_copy_151 ?_
                refine lv_if_le (tgt := 162) hx hb dX7_copy_152 (by decide) (fun c29 => ?_) (fun c29 => ?_)
                · have hf := xt c29 hf
                  refine lv_iload_n hx hb dX7_copy_162 rfl (lv_at hl 1 rfl) ?_
                  refine lv_iload_n hx hb dX7_copy_163 rfl (lv_at hl 2 rfl) ?_
                  refine lv_icmp_ne (tgt := 222) hx hb dX7_copy_164 (by decide) (fun c30 => ?_) (fun c30 => ?_)
                  · have hf := xe c30 hf
                    refine lv_iconst (v := (nI 0)) hx hb dX7_copy_222 (by decide) ?_
                    refine lv_istore (lv' := [(6, .int (nI 0)), (0, .ref h0), (1, .int p1), (2, .int p2), (3, .int p3), (4, .int p4), (5, .int p5)]) hx hb dX7_copy_223 hl (by decide) rfl (fun ls hl => ?_)
                    exact L225 xN ((nI 0), v_rowOf) hf _ _ hH ls (lv_sub hl [1, 2, 3, 4, 5, 6, 0] rfl)
                  · have hf := xt c30 hf
                    refine lv_iload_n hx hb dX7_copy_167 rfl (lv_at hl 3 rfl) ?_
                    refine lv_iload hx hb dX7_copy_168 (lv_at hl 4 rfl) ?_
                    refine lv_icmp_ge (tgt := 222) hx hb dX7_copy_170 (by decide) (fun c34 => ?_) (fun c34 => ?_)
                    · have hf := xt c34 hf
                      refine lv_iconst (v := (nI 0)) hx hb dX7_copy_222 (by decide) ?_
                      refine lv_istore (lv' := [(6, .int (nI 0)), (0, .ref h0), (1, .int p1), (2, .int p2), (3, .int p3), (4, .int p4), (5, .int p5)]) hx hb dX7_copy_223 hl (by decide) rfl (fun ls hl => ?_)
                      exact L225 xN ((nI 0), v_rowOf) hf _ _ hH ls (lv_sub hl [1, 2, 3, 4, 5, 6, 0] rfl)
                    · have hf := xe c34 hf
                      refine lv_iload hx hb dX7_copy_173 (lv_at hl 5 rfl) ?_
                      refine lv_iconst (v := (nI 1)) hx hb dX7_copy_175 (by decide) ?_
                      refine lv_isub hx hb dX7_copy_176 ?_
                      refine lv_istore (lv' := [(6, .int (p5 - (nI 1))), (0, .ref h0), (1, .int p1), (2, .int p2), (3, .int p3), (4, .int p4), (5, .int p5)]) hx hb dX7_copy_177 hl (by decide) rfl (fun ls hl => ?_)
                      exact L179 xN (p5 - (nI 1), v_rowOf) hf _ _ hH ls (lv_sub hl [1, 2, 3, 4, 5, 6, 0] rfl)
                · have hf := xe c29 hf
                  refine lv_aload_n hx hb dX7_copy_155 rfl (lv_at hl 0 rfl) ?_
                  refine lv_bipush (v := (-2 : Int32)) hx hb dX7_copy_156 (by decide) ?_
                  obtain ⟨u38, hf38, hf⟩ := xb hf
                  refine x_ranw (ws' := [(h0, xO 7 [.int v_laws, .ref g0, .ref g1, .int v_inForce, .int v_depth, .int v_miss, .long v_ring, .int v_size, .int v_people, .ref g2, .int v_seed, .int v_taped, .ref g3, .int v_from, .int v_to, .int v_token, .int v_value, .ref h1, .ref h3, .ref h4, .ref h2, .int v_imaged, .ref g4, .long v_oldRing, .ref g5, .long v_aheadRing, .ref g6]), (h1, xI X 8 v_holding), (h2, xI X 7 u38.2), (h3, xI X 8 v_rowLength), (h4, xJ X 320 v_rowOf)]) (x_runV (q0 := 0) (rest := []) (As := [.int (-2 : Int32)]) hC mw_143 md_X7_no (c_X7_no (X := X) hf38) hH [0, 2] rfl (by decide) rfl rfl rfl hl.1 rfl rfl (Nat.le_of_ble_eq_true rfl) dX7_copy_158 ⟨Nat.le_of_ble_eq_true rfl, Nat.le_of_ble_eq_true rfl⟩ ⟨rfl, rfl⟩ ⟨Nat.le_refl _, Nat.le_refl _⟩) hH [0, 2] rfl rfl rfl rfl rfl (fun hz38 H locs hH => ?_)
                  exact x_retiw (φ := fun _ => True) (f := fun u : Int32 × (Nat → Int32) × (Nat → Int64) => u.1) (wf := fun u : Int32 × (Nat → Int32) × (Nat → Int64) => [(h0, xO 7 [.int v_laws, .ref g0, .ref g1, .int v_inForce, .int v_depth, .int v_miss, .long v_ring, .int v_size, .int v_people, .ref g2, .int v_seed, .int v_taped, .ref g3, .int v_from, .int v_to, .int v_token, .int v_value, .ref h1, .ref h3, .ref h4, .ref h2, .int v_imaged, .ref g4, .long v_oldRing, .ref g5, .long v_aheadRing, .ref g6]), (h1, xI X 8 v_holding), (h2, xI X 7 u.2.1), (h3, xI X 8 v_rowLength), (h4, xJ X 320 u.2.2)]) hC hr hlk trivial hf hH rfl rfl dX7_copy_161
      · have hf := xe c18 hf
        refine lv_aload_n hx hb dX7_copy_99 rfl (lv_at hl 0 rfl) ?_
        refine lv_bipush (v := (-4 : Int32)) hx hb dX7_copy_100 (by decide) ?_
        obtain ⟨u39, hf39, hf⟩ := xb hf
        refine x_ranw (ws' := [(h0, xO 7 [.int v_laws, .ref g0, .ref g1, .int v_inForce, .int v_depth, .int v_miss, .long v_ring, .int v_size, .int v_people, .ref g2, .int v_seed, .int v_taped, .ref g3, .int v_from, .int v_to, .int v_token, .int v_value, .ref h1, .ref h3, .ref h4, .ref h2, .int v_imaged, .ref g4, .long v_oldRing, .ref g5, .long v_aheadRing, .ref g6]), (h1, xI X 8 v_holding), (h2, xI X 7 u39.2), (h3, xI X 8 v_rowLength), (h4, xJ X 320 v_rowOf)]) (x_runV (q0 := 0) (rest := []) (As := [.int (-4 : Int32)]) hC mw_143 md_X7_no (c_X7_no (X := X) hf39) hH [0, 2] rfl (by decide) rfl rfl rfl hl.1 rfl rfl (Nat.le_of_ble_eq_true rfl) dX7_copy_102 ⟨Nat.le_of_ble_eq_true rfl, Nat.le_of_ble_eq_true rfl⟩ ⟨rfl, rfl⟩ ⟨Nat.le_refl _, Nat.le_refl _⟩) hH [0, 2] rfl rfl rfl rfl rfl (fun hz39 H locs hH => ?_)
        exact x_retiw (φ := fun _ => True) (f := fun u : Int32 × (Nat → Int32) × (Nat → Int64) => u.1) (wf := fun u : Int32 × (Nat → Int32) × (Nat → Int64) => [(h0, xO 7 [.int v_laws, .ref g0, .ref g1, .int v_inForce, .int v_depth, .int v_miss, .long v_ring, .int v_size, .int v_people, .ref g2, .int v_seed, .int v_taped, .ref g3, .int v_from, .int v_to, .int v_token, .int v_value, .ref h1, .ref h3, .ref h4, .ref h2, .int v_imaged, .ref g4, .long v_oldRing, .ref g5, .long v_aheadRing, .ref g6]), (h1, xI X 8 v_holding), (h2, xI X 7 u.2.1), (h3, xI X 8 v_rowLength), (h4, xJ X 320 u.2.2)]) hC hr hlk trivial hf hH rfl rfl dX7_copy_105
  refine lv_iload_n hx hb dX7_copy_0 rfl (lv_at hl 1 rfl) ?_
  obtain ⟨u1, hf1, hf⟩ := xb hf
  refine x_ran (x_runS (rest := []) (As := [.int p1]) hC mw_137 md_X7_isShelf (c_X7_isShelf (X := X) hf1) hH [] rfl (by decide) hl.1 rfl rfl (Nat.le_of_ble_eq_true rfl) dX7_copy_1 ⟨Nat.le_of_ble_eq_true rfl, Nat.le_of_ble_eq_true rfl⟩ ⟨rfl, rfl⟩ ⟨Nat.le_refl _, Nat.le_refl _⟩) rfl (fun hz1 => ?_)
  refine lv_if_eq (tgt := 14) hx hb dX7_copy_4 (by decide) (fun c2 => ?_) (fun c2 => ?_)
  · have hf := xt c2 hf
    refine lv_aload_n hx hb dX7_copy_14 rfl (lv_at hl 0 rfl) ?_
    refine lv_bipush (v := (-2 : Int32)) hx hb dX7_copy_15 (by decide) ?_
    obtain ⟨u3, hf3, hf⟩ := xb hf
    refine x_ranw (ws' := [(h0, xO 7 [.int v_laws, .ref g0, .ref g1, .int v_inForce, .int v_depth, .int v_miss, .long v_ring, .int v_size, .int v_people, .ref g2, .int v_seed, .int v_taped, .ref g3, .int v_from, .int v_to, .int v_token, .int v_value, .ref h1, .ref h3, .ref h4, .ref h2, .int v_imaged, .ref g4, .long v_oldRing, .ref g5, .long v_aheadRing, .ref g6]), (h1, xI X 8 v_holding), (h2, xI X 7 u3.2), (h3, xI X 8 v_rowLength), (h4, xJ X 320 v_rowOf)]) (x_runV (q0 := 0) (rest := []) (As := [.int (-2 : Int32)]) hC mw_143 md_X7_no (c_X7_no (X := X) hf3) hH [0, 2] rfl (by decide) rfl rfl rfl hl.1 rfl rfl (Nat.le_of_ble_eq_true rfl) dX7_copy_17 ⟨Nat.le_of_ble_eq_true rfl, Nat.le_of_ble_eq_true rfl⟩ ⟨rfl, rfl⟩ ⟨Nat.le_refl _, Nat.le_refl _⟩) hH [0, 2] rfl rfl rfl rfl rfl (fun hz3 H locs hH => ?_)
    exact x_retiw (φ := fun _ => True) (f := fun u : Int32 × (Nat → Int32) × (Nat → Int64) => u.1) (wf := fun u : Int32 × (Nat → Int32) × (Nat → Int64) => [(h0, xO 7 [.int v_laws, .ref g0, .ref g1, .int v_inForce, .int v_depth, .int v_miss, .long v_ring, .int v_size, .int v_people, .ref g2, .int v_seed, .int v_taped, .ref g3, .int v_from, .int v_to, .int v_token, .int v_value, .ref h1, .ref h3, .ref h4, .ref h2, .int v_imaged, .ref g4, .long v_oldRing, .ref g5, .long v_aheadRing, .ref g6]), (h1, xI X 8 v_holding), (h2, xI X 7 u.2.1), (h3, xI X 8 v_rowLength), (h4, xJ X 320 u.2.2)]) hC hr hlk trivial hf hH rfl rfl dX7_copy_20
  · have hf := xe c2 hf
    refine lv_iload_n hx hb dX7_copy_7 rfl (lv_at hl 2 rfl) ?_
    obtain ⟨u4, hf4, hf⟩ := xb hf
    refine x_ran (x_runS (rest := []) (As := [.int p2]) hC mw_137 md_X7_isShelf (c_X7_isShelf (X := X) hf4) hH [] rfl (by decide) hl.1 rfl rfl (Nat.le_of_ble_eq_true rfl) dX7_copy_8 ⟨Nat.le_of_ble_eq_true rfl, Nat.le_of_ble_eq_true rfl⟩ ⟨rfl, rfl⟩ ⟨Nat.le_refl _, Nat.le_refl _⟩) rfl (fun hz4 => ?_)
    refine lv_if_ne (tgt := 21) hx hb dX7_copy_11 (by decide) (fun c5 => ?_) (fun c5 => ?_)
    · have hf := xe c5 hf
      refine lv_aload_n hx hb dX7_copy_21 rfl (lv_at hl 0 rfl) ?_
      refine x_get hC fd_RX7_22 hH.1 0 rfl rfl dX7_copy_22 ?_
      refine lv_iload_n hx hb dX7_copy_25 rfl (lv_at hl 1 rfl) ?_
      obtain ⟨n6, hf⟩ := xok hf
      refine x_iald hC hH.1 1 rfl n6 dX7_copy_26 ?_
      refine lv_bipush (v := (nI 10)) hx hb dX7_copy_27 (by decide) ?_
      refine lv_icmp_ge (tgt := 74) hx hb dX7_copy_29 (by decide) (fun c7 => ?_) (fun c7 => ?_)
      · have hf := xt c7 hf
        refine lv_aload_n hx hb dX7_copy_74 rfl (lv_at hl 0 rfl) ?_
        refine lv_bipush (v := (-3 : Int32)) hx hb dX7_copy_75 (by decide) ?_
        obtain ⟨u8, hf8, hf⟩ := xb hf
        refine x_ranw (ws' := [(h0, xO 7 [.int v_laws, .ref g0, .ref g1, .int v_inForce, .int v_depth, .int v_miss, .long v_ring, .int v_size, .int v_people, .ref g2, .int v_seed, .int v_taped, .ref g3, .int v_from, .int v_to, .int v_token, .int v_value, .ref h1, .ref h3, .ref h4, .ref h2, .int v_imaged, .ref g4, .long v_oldRing, .ref g5, .long v_aheadRing, .ref g6]), (h1, xI X 8 v_holding), (h2, xI X 7 u8.2), (h3, xI X 8 v_rowLength), (h4, xJ X 320 v_rowOf)]) (x_runV (q0 := 0) (rest := []) (As := [.int (-3 : Int32)]) hC mw_143 md_X7_no (c_X7_no (X := X) hf8) hH [0, 2] rfl (by decide) rfl rfl rfl hl.1 rfl rfl (Nat.le_of_ble_eq_true rfl) dX7_copy_77 ⟨Nat.le_of_ble_eq_true rfl, Nat.le_of_ble_eq_true rfl⟩ ⟨rfl, rfl⟩ ⟨Nat.le_refl _, Nat.le_refl _⟩) hH [0, 2] rfl rfl rfl rfl rfl (fun hz8 H locs hH => ?_)
        exact x_retiw (φ := fun _ => True) (f := fun u : Int32 × (Nat → Int32) × (Nat → Int64) => u.1) (wf := fun u : Int32 × (Nat → Int32) × (Nat → Int64) => [(h0, xO 7 [.int v_laws, .ref g0, .ref g1, .int v_inForce, .int v_depth, .int v_miss, .long v_ring, .int v_size, .int v_people, .ref g2, .int v_seed, .int v_taped, .ref g3, .int v_from, .int v_to, .int v_token, .int v_value, .ref h1, .ref h3, .ref h4, .ref h2, .int v_imaged, .ref g4, .long v_oldRing, .ref g5, .long v_aheadRing, .ref g6]), (h1, xI X 8 v_holding), (h2, xI X 7 u.2.1), (h3, xI X 8 v_rowLength), (h4, xJ X 320 u.2.2)]) hC hr hlk trivial hf hH rfl rfl dX7_copy_80
      · have hf := xe c7 hf
        refine lv_aload_n hx hb dX7_copy_32 rfl (lv_at hl 0 rfl) ?_
        refine x_get hC fd_RX7_22 hH.1 0 rfl rfl dX7_copy_33 ?_
        refine lv_iload_n hx hb dX7_copy_36 rfl (lv_at hl 2 rfl) ?_
        obtain ⟨n9, hf⟩ := xok hf
        refine x_iald hC hH.1 1 rfl n9 dX7_copy_37 ?_
        refine lv_bipush (v := (nI 10)) hx hb dX7_copy_38 (by decide) ?_
        refine lv_icmp_ge (tgt := 74) hx hb dX7_copy_40 (by decide) (fun c10 => ?_) (fun c10 => ?_)
        · have hf := xt c10 hf
          refine lv_aload_n hx hb dX7_copy_74 rfl (lv_at hl 0 rfl) ?_
          refine lv_bipush (v := (-3 : Int32)) hx hb dX7_copy_75 (by decide) ?_
          obtain ⟨u11, hf11, hf⟩ := xb hf
          refine x_ranw (ws' := [(h0, xO 7 [.int v_laws, .ref g0, .ref g1, .int v_inForce, .int v_depth, .int v_miss, .long v_ring, .int v_size, .int v_people, .ref g2, .int v_seed, .int v_taped, .ref g3, .int v_from, .int v_to, .int v_token, .int v_value, .ref h1, .ref h3, .ref h4, .ref h2, .int v_imaged, .ref g4, .long v_oldRing, .ref g5, .long v_aheadRing, .ref g6]), (h1, xI X 8 v_holding), (h2, xI X 7 u11.2), (h3, xI X 8 v_rowLength), (h4, xJ X 320 v_rowOf)]) (x_runV (q0 := 0) (rest := []) (As := [.int (-3 : Int32)]) hC mw_143 md_X7_no (c_X7_no (X := X) hf11) hH [0, 2] rfl (by decide) rfl rfl rfl hl.1 rfl rfl (Nat.le_of_ble_eq_true rfl) dX7_copy_77 ⟨Nat.le_of_ble_eq_true rfl, Nat.le_of_ble_eq_true rfl⟩ ⟨rfl, rfl⟩ ⟨Nat.le_refl _, Nat.le_refl _⟩) hH [0, 2] rfl rfl rfl rfl rfl (fun hz11 H locs hH => ?_)
          exact x_retiw (φ := fun _ => True) (f := fun u : Int32 × (Nat → Int32) × (Nat → Int64) => u.1) (wf := fun u : Int32 × (Nat → Int32) × (Nat → Int64) => [(h0, xO 7 [.int v_laws, .ref g0, .ref g1, .int v_inForce, .int v_depth, .int v_miss, .long v_ring, .int v_size, .int v_people, .ref g2, .int v_seed, .int v_taped, .ref g3, .int v_from, .int v_to, .int v_token, .int v_value, .ref h1, .ref h3, .ref h4, .ref h2, .int v_imaged, .ref g4, .long v_oldRing, .ref g5, .long v_aheadRing, .ref g6]), (h1, xI X 8 v_holding), (h2, xI X 7 u.2.1), (h3, xI X 8 v_rowLength), (h4, xJ X 320 u.2.2)]) hC hr hlk trivial hf hH rfl rfl dX7_copy_80
        · have hf := xe c10 hf
          refine lv_aload_n hx hb dX7_copy_43 rfl (lv_at hl 0 rfl) ?_
          refine lv_iload_n hx hb dX7_copy_44 rfl (lv_at hl 1 rfl) ?_
          obtain ⟨u12, hf12, hf⟩ := xb hf
          refine x_ran (x_runV (q0 := 0) (rest := []) (As := [.int p1]) hC mw_169 md_X7_isRow (c_X7_isRow (X := X) hf12) hH [0, 1] rfl (by decide) rfl rfl rfl hl.1 rfl rfl (Nat.le_of_ble_eq_true rfl) dX7_copy_45 ⟨Nat.le_of_ble_eq_true rfl, Nat.le_of_ble_eq_true rfl⟩ ⟨rfl, rfl⟩ ⟨Nat.le_refl _, Nat.le_refl _⟩) rfl (fun hz12 => ?_)
          refine lv_if_eq (tgt := 81) hx hb dX7_copy_48 (by decide) (fun c13 => ?_) (fun c13 => ?_)
          · have hf := xt c13 hf
            exact J81 trivial hf _ _ hH ls (lv_sub hl [0, 1, 2, 3, 4, 5] rfl)
          · have hf := xe c13 hf
            refine lv_aload_n hx hb dX7_copy_51 rfl (lv_at hl 0 rfl) ?_
            refine lv_iload_n hx hb dX7_copy_52 rfl (lv_at hl 2 rfl) ?_
            obtain ⟨u40, hf40, hf⟩ := xb hf
            refine x_ran (x_runV (q0 := 0) (rest := []) (As := [.int p2]) hC mw_169 md_X7_isRow (c_X7_isRow (X := X) hf40) hH [0, 1] rfl (by decide) rfl rfl rfl hl.1 rfl rfl (Nat.le_of_ble_eq_true rfl) dX7_copy_53 ⟨Nat.le_of_ble_eq_true rfl, Nat.le_of_ble_eq_true rfl⟩ ⟨rfl, rfl⟩ ⟨Nat.le_refl _, Nat.le_refl _⟩) rfl (fun hz40 => ?_)
            refine lv_if_eq (tgt := 81) hx hb dX7_copy_56 (by decide) (fun c41 => ?_) (fun c41 => ?_)
            · have hf := xt c41 hf
              exact J81 trivial hf _ _ hH ls (lv_sub hl [0, 1, 2, 3, 4, 5] rfl)
            · have hf := xe c41 hf
              refine lv_aload_n hx hb dX7_copy_59 rfl (lv_at hl 0 rfl) ?_
              refine x_get hC fd_RX7_22 hH.1 0 rfl rfl dX7_copy_60 ?_
              refine lv_iload_n hx hb dX7_copy_63 rfl (lv_at hl 1 rfl) ?_
              obtain ⟨n42, hf⟩ := xok hf
              refine x_iald hC hH.1 1 rfl n42 dX7_copy_64 ?_
              refine lv_aload_n hx hb dX7_copy_65 rfl (lv_at hl 0 rfl) ?_
              refine x_get hC fd_RX7_22 hH.1 0 rfl rfl dX7_copy_66 ?_
              refine lv_iload_n hx hb dX7_copy_69 rfl (lv_at hl 2 rfl) ?_
              obtain ⟨n43, hf⟩ := xok hf
              refine x_iald hC hH.1 1 rfl n43 dX7_copy_70 ?_
              refine lv_icmp_eq (tgt := 81) hx hb dX7_copy_71 (by decide) (fun c44 => ?_) (fun c44 => ?_)
              · have hf := xt c44 hf
                exact J81 trivial hf _ _ hH ls (lv_sub hl [0, 1, 2, 3, 4, 5] rfl)
              · have hf := xe c44 hf
                refine lv_aload_n hx hb dX7_copy_74 rfl (lv_at hl 0 rfl) ?_
                refine lv_bipush (v := (-3 : Int32)) hx hb dX7_copy_75 (by decide) ?_
                obtain ⟨u45, hf45, hf⟩ := xb hf
                refine x_ranw (ws' := [(h0, xO 7 [.int v_laws, .ref g0, .ref g1, .int v_inForce, .int v_depth, .int v_miss, .long v_ring, .int v_size, .int v_people, .ref g2, .int v_seed, .int v_taped, .ref g3, .int v_from, .int v_to, .int v_token, .int v_value, .ref h1, .ref h3, .ref h4, .ref h2, .int v_imaged, .ref g4, .long v_oldRing, .ref g5, .long v_aheadRing, .ref g6]), (h1, xI X 8 v_holding), (h2, xI X 7 u45.2), (h3, xI X 8 v_rowLength), (h4, xJ X 320 v_rowOf)]) (x_runV (q0 := 0) (rest := []) (As := [.int (-3 : Int32)]) hC mw_143 md_X7_no (c_X7_no (X := X) hf45) hH [0, 2] rfl (by decide) rfl rfl rfl hl.1 rfl rfl (Nat.le_of_ble_eq_true rfl) dX7_copy_77 ⟨Nat.le_of_ble_eq_true rfl, Nat.le_of_ble_eq_true rfl⟩ ⟨rfl, rfl⟩ ⟨Nat.le_refl _, Nat.le_refl _⟩) hH [0, 2] rfl rfl rfl rfl rfl (fun hz45 H locs hH => ?_)
                exact x_retiw (φ := fun _ => True) (f := fun u : Int32 × (Nat → Int32) × (Nat → Int64) => u.1) (wf := fun u : Int32 × (Nat → Int32) × (Nat → Int64) => [(h0, xO 7 [.int v_laws, .ref g0, .ref g1, .int v_inForce, .int v_depth, .int v_miss, .long v_ring, .int v_size, .int v_people, .ref g2, .int v_seed, .int v_taped, .ref g3, .int v_from, .int v_to, .int v_token, .int v_value, .ref h1, .ref h3, .ref h4, .ref h2, .int v_imaged, .ref g4, .long v_oldRing, .ref g5, .long v_aheadRing, .ref g6]), (h1, xI X 8 v_holding), (h2, xI X 7 u.2.1), (h3, xI X 8 v_rowLength), (h4, xJ X 320 u.2.2)]) hC hr hlk trivial hf hH rfl rfl dX7_copy_80
    · have hf := xt c5 hf
      refine lv_aload_n hx hb dX7_copy_14 rfl (lv_at hl 0 rfl) ?_
      refine lv_bipush (v := (-2 : Int32)) hx hb dX7_copy_15 (by decide) ?_
      obtain ⟨u46, hf46, hf⟩ := xb hf
      refine x_ranw (ws' := [(h0, xO 7 [.int v_laws, .ref g0, .ref g1, .int v_inForce, .int v_depth, .int v_miss, .long v_ring, .int v_size, .int v_people, .ref g2, .int v_seed, .int v_taped, .ref g3, .int v_from, .int v_to, .int v_token, .int v_value, .ref h1, .ref h3, .ref h4, .ref h2, .int v_imaged, .ref g4, .long v_oldRing, .ref g5, .long v_aheadRing, .ref g6]), (h1, xI X 8 v_holding), (h2, xI X 7 u46.2), (h3, xI X 8 v_rowLength), (h4, xJ X 320 v_rowOf)]) (x_runV (q0 := 0) (rest := []) (As := [.int (-2 : Int32)]) hC mw_143 md_X7_no (c_X7_no (X := X) hf46) hH [0, 2] rfl (by decide) rfl rfl rfl hl.1 rfl rfl (Nat.le_of_ble_eq_true rfl) dX7_copy_17 ⟨Nat.le_of_ble_eq_true rfl, Nat.le_of_ble_eq_true rfl⟩ ⟨rfl, rfl⟩ ⟨Nat.le_refl _, Nat.le_refl _⟩) hH [0, 2] rfl rfl rfl rfl rfl (fun hz46 H locs hH => ?_)
      exact x_retiw (φ := fun _ => True) (f := fun u : Int32 × (Nat → Int32) × (Nat → Int64) => u.1) (wf := fun u : Int32 × (Nat → Int32) × (Nat → Int64) => [(h0, xO 7 [.int v_laws, .ref g0, .ref g1, .int v_inForce, .int v_depth, .int v_miss, .long v_ring, .int v_size, .int v_people, .ref g2, .int v_seed, .int v_taped, .ref g3, .int v_from, .int v_to, .int v_token, .int v_value, .ref h1, .ref h3, .ref h4, .ref h2, .int v_imaged, .ref g4, .long v_oldRing, .ref g5, .long v_aheadRing, .ref g6]), (h1, xI X 8 v_holding), (h2, xI X 7 u.2.1), (h3, xI X 8 v_rowLength), (h4, xJ X 320 u.2.2)]) hC hr hlk trivial hf hH rfl rfl dX7_copy_20
