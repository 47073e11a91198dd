def f_X6_element (v_shelves_elements : (Nat → Int64)) (v_shelves_sizes : (Nat → Int32)) (p1 : Int32) (p2 : Int32) : Option (Int64) :=
  (f_X4_elementAt v_shelves_elements v_shelves_sizes p1 p2).bind fun u1 =>
  some u1
set_option maxHeartbeats 4000000 in
set_option maxRecDepth 100000 in
theorem c_X6_element {l : Launch} {X : xG} {h0 h1 h2 h3 g0 g1 g2 g3 g4 : Nat} {v_isKept : Int32} {v_shelves_elements : (Nat → Int64)} {v_shelves_sizes : (Nat → Int32)} {p1 : Int32} {p2 : Int32} {u : Int64} (hf : f_X6_element v_shelves_elements v_shelves_sizes p1 p2 = some u) : Met l yX6_element (xw yX6_element cX6_element 3 (some .long)) (xrm 4 88) (xPc [.ref h0, .int p1, .int p2] X [(h0, xO 6 [.ref g0, .ref g1, .ref g2, .ref h1, .ref g3, .int v_isKept]), (h1, xO 4 [.ref g4, .ref h3, .ref h2]), (h2, xJ X 320 v_shelves_elements), (h3, xI X 8 v_shelves_sizes)]) (xQ True (.returned (some (.long u)))) 0 0 xNo := by
  refine xMet (n := 2) md_X6_element.1 (Nat.le_of_ble_eq_true rfl) ?_
  intro p e s m args below meth c ls A hC hr hlk hH hl
  have hl : lv_has ls 3 [(0, .ref h0), (1, .int p1), (2, .int p2)] := hl
  have hx := hC.1
  have hb := hC.2.1
  refine lv_aload_n hx hb dX6_element_0 rfl (lv_at hl 0 rfl) ?_
  refine x_get hC fd_RX6_29 hH.1 0 rfl rfl dX6_element_1 ?_
  refine lv_iload_n hx hb dX6_element_4 rfl (lv_at hl 1 rfl) ?_
  refine lv_iload_n hx hb dX6_element_5 rfl (lv_at hl 2 rfl) ?_
  obtain ⟨u1, hf1, hf⟩ := xb hf
  refine x_ran (x_runV (q0 := 0) (rest := []) (As := [.int p1, .int p2]) hC mw_209 md_X4_elementAt (c_X4_elementAt (X := X) hf1) hH [1, 2, 3] rfl (by decide) rfl rfl rfl hl.1 rfl rfl (Nat.le_of_ble_eq_true rfl) dX6_element_6 ⟨Nat.le_of_ble_eq_true rfl, Nat.le_of_ble_eq_true rfl⟩ ⟨rfl, rfl⟩ ⟨Nat.le_refl _, Nat.le_refl _⟩) rfl (fun hz1 => ?_)
  exact x_retl hC hr hlk trivial hf dX6_element_9
def f_X6_holds (v_shelves_held : (Nat → Int32)) (p1 : Int32) : Option (Int32) :=
  (f_X4_heldOn v_shelves_held p1).bind fun u1 =>
  some u1
set_option maxHeartbeats 4000000 in
set_option maxRecDepth 100000 in
theorem c_X6_holds {l : Launch} {X : xG} {h0 h1 h2 g0 g1 g2 g3 g4 g5 : Nat} {v_isKept : Int32} {v_shelves_held : (Nat → Int32)} {p1 : Int32} {u : Int32} (hf : f_X6_holds v_shelves_held p1 = some u) : Met l yX6_holds (xw yX6_holds cX6_holds 2 (some .int)) (xrm 2 43) (xPc [.ref h0, .int p1] X [(h0, xO 6 [.ref g0, .ref g1, .ref g2, .ref h1, .ref g3, .int v_isKept]), (h1, xO 4 [.ref h2, .ref g4, .ref g5]), (h2, xI X 8 v_shelves_held)]) (xQ True (.returned (some (.int u)))) 0 0 xNo := by
  refine xMet (n := 1) md_X6_holds.1 (Nat.le_of_ble_eq_true rfl) ?_
  intro p e s m args below meth c ls A hC hr hlk hH hl
  have hl : lv_has ls 2 [(0, .ref h0), (1, .int p1)] := hl
  have hx := hC.1
  have hb := hC.2.1
  refine lv_aload_n hx hb dX6_holds_0 rfl (lv_at hl 0 rfl) ?_
  refine x_get hC fd_RX6_29 hH.1 0 rfl rfl dX6_holds_1 ?_
  refine lv_iload_n hx hb dX6_holds_4 rfl (lv_at hl 1 rfl) ?_
  obtain ⟨u1, hf1, hf⟩ := xb hf
  refine x_ran (x_runV (q0 := 0) (rest := []) (As := [.int p1]) hC mw_188 md_X4_heldOn (c_X4_heldOn (X := X) hf1) hH [1, 2] rfl (by decide) rfl rfl rfl hl.1 rfl rfl (Nat.le_of_ble_eq_true rfl) dX6_holds_5 ⟨Nat.le_of_ble_eq_true rfl, Nat.le_of_ble_eq_true rfl⟩ ⟨rfl, rfl⟩ ⟨Nat.le_refl _, Nat.le_refl _⟩) rfl (fun hz1 => ?_)
  exact x_reti hC hr hlk trivial hf dX6_holds_8
def f_X6_show_J33 (v_refusals : (Nat → Int32)) (v_shelves_held : (Nat → Int32)) (v_shelves_sizes : (Nat → Int32)) (p1 : Int32) (p2 : Int32) : Option (Int32 × (Nat → Int32) × (Nat → Int32) × (Nat → Int32)) :=
  if p2 = (-1 : Int32) then
    (f_X4_putNothing v_shelves_held v_shelves_sizes p1).bind fun u7 =>
    some ((nI 1), v_refusals, u7.1, u7.2)
  else
  (f_X4_putLaw v_shelves_held v_shelves_sizes p1 p2).bind fun u6 =>
  some ((nI 1), v_refusals, u6.1, u6.2)
def f_X6_show (v_now_laws_count : Int32) (v_refusals : (Nat → Int32)) (v_shelves_held : (Nat → Int32)) (v_shelves_sizes : (Nat → Int32)) (p1 : Int32) (p2 : Int32) : Option (Int32 × (Nat → Int32) × (Nat → Int32) × (Nat → Int32)) :=
  (f_X4_isShelf p1).bind fun u1 =>
  if u1 = (nI 0) then
    (f_X6_refuse v_refusals (-2 : Int32)).bind fun u3 =>
    some (u3.1, u3.2, v_shelves_held, v_shelves_sizes)
  else
  if p2 = (-1 : Int32) then
    f_X6_show_J33 v_refusals v_shelves_held v_shelves_sizes p1 p2
  else
  (f_X2_isThere v_now_laws_count p2).bind fun u8 =>
  if u8 = (nI 0) then
    (f_X6_refuse v_refusals (-2 : Int32)).bind fun u10 =>
    some (u10.1, u10.2, v_shelves_held, v_shelves_sizes)
  else
  f_X6_show_J33 v_refusals v_shelves_held v_shelves_sizes p1 p2
set_option maxHeartbeats 4000000 in
set_option maxRecDepth 100000 in
theorem c_X6_show {l : Launch} {X : xG} {h0 h1 h2 h3 h4 h5 h6 g0 g1 g2 g3 g4 g5 : Nat} {v_isKept : Int32} {v_now_inForce : Int32} {v_now_depth : Int32} {v_now_miss : Int32} {v_now_ring : Int64} {v_now_steps : Int32} {v_now_seed : Int32} {v_now_laws_count : Int32} {v_refusals : (Nat → Int32)} {v_shelves_held : (Nat → Int32)} {v_shelves_sizes : (Nat → Int32)} {p1 : Int32} {p2 : Int32} {u : Int32 × (Nat → Int32) × (Nat → Int32) × (Nat → Int32)} (hf : f_X6_show v_now_laws_count v_refusals v_shelves_held v_shelves_sizes p1 p2 = some u) : Met l yX6_show (xw yX6_show cX6_show 3 (some .int)) (xrm 2 45) (xPc [.ref h0, .int p1, .int p2] X [(h0, xO 6 [.ref h1, .ref g0, .ref g1, .ref h4, .ref h3, .int v_isKept]), (h1, xO 0 [.ref h2, .ref g2, .int v_now_inForce, .int v_now_depth, .int v_now_miss, .long v_now_ring, .int v_now_steps, .int v_now_seed]), (h2, xO 2 [.ref g3, .ref g4, .int v_now_laws_count]), (h3, xI X 5 v_refusals), (h4, xO 4 [.ref h5, .ref h6, .ref g5]), (h5, xI X 8 v_shelves_held), (h6, xI X 8 v_shelves_sizes)]) (xQw True (.returned (some (.int u.1))) X [(h0, xO 6 [.ref h1, .ref g0, .ref g1, .ref h4, .ref h3, .int v_isKept]), (h1, xO 0 [.ref h2, .ref g2, .int v_now_inForce, .int v_now_depth, .int v_now_miss, .long v_now_ring, .int v_now_steps, .int v_now_seed]), (h2, xO 2 [.ref g3, .ref g4, .int v_now_laws_count]), (h3, xI X 5 u.2.1), (h4, xO 4 [.ref h5, .ref h6, .ref g5]), (h5, xI X 8 u.2.2.1), (h6, xI X 8 u.2.2.2)] (xAs [(h0, xO 6 [.ref h1, .ref g0, .ref g1, .ref h4, .ref h3, .int v_isKept]), (h1, xO 0 [.ref h2, .ref g2, .int v_now_inForce, .int v_now_depth, .int v_now_miss, .long v_now_ring, .int v_now_steps, .int v_now_seed]), (h2, xO 2 [.ref g3, .ref g4, .int v_now_laws_count]), (h3, xI X 5 v_refusals), (h4, xO 4 [.ref h5, .ref h6, .ref g5]), (h5, xI X 8 v_shelves_held), (h6, xI X 8 v_shelves_sizes)])) 0 0 (xAs [(h0, xO 6 [.ref h1, .ref g0, .ref g1, .ref h4, .ref h3, .int v_isKept]), (h1, xO 0 [.ref h2, .ref g2, .int v_now_inForce, .int v_now_depth, .int v_now_miss, .long v_now_ring, .int v_now_steps, .int v_now_seed]), (h2, xO 2 [.ref g3, .ref g4, .int v_now_laws_count]), (h3, xI X 5 v_refusals), (h4, xO 4 [.ref h5, .ref h6, .ref g5]), (h5, xI X 8 v_shelves_held), (h6, xI X 8 v_shelves_sizes)]) := by
  refine xMetw (Qc := fun A => xQw True (.returned (some (.int u.1))) X [(h0, xO 6 [.ref h1, .ref g0, .ref g1, .ref h4, .ref h3, .int v_isKept]), (h1, xO 0 [.ref h2, .ref g2, .int v_now_inForce, .int v_now_depth, .int v_now_miss, .long v_now_ring, .int v_now_steps, .int v_now_seed]), (h2, xO 2 [.ref g3, .ref g4, .int v_now_laws_count]), (h3, xI X 5 u.2.1), (h4, xO 4 [.ref h5, .ref h6, .ref g5]), (h5, xI X 8 u.2.2.1), (h6, xI X 8 u.2.2.2)] A) (n := 2) md_X6_show.1 (Nat.le_of_ble_eq_true rfl) ?_
  intro p e s m args below meth c ls A hC hr hlk hH hl
  have hl : lv_has ls 3 [(0, .ref h0), (1, .int p1), (2, .int p2)] := hl
  have hx := hC.1
  have hb := hC.2.1
  have J33 : ∀ (_ : True), f_X6_show_J33 v_refusals v_shelves_held v_shelves_sizes p1 p2 = some u → ∀ (H : Heap) (locs : List Loc), xH X A [(h0, xO 6 [.ref h1, .ref g0, .ref g1, .ref h4, .ref h3, .int v_isKept]), (h1, xO 0 [.ref h2, .ref g2, .int v_now_inForce, .int v_now_depth, .int v_now_miss, .long v_now_ring, .int v_now_steps, .int v_now_seed]), (h2, xO 2 [.ref g3, .ref g4, .int v_now_laws_count]), (h3, xI X 5 v_refusals), (h4, xO 4 [.ref h5, .ref h6, .ref g5]), (h5, xI X 8 v_shelves_held), (h6, xI X 8 v_shelves_sizes)] s.heap H locs → ∀ (ls : Array Slot), lv_has ls 3 [(0, .ref h0), (1, .int p1), (2, .int p2)] → W p l e (xrm 2 45) s m args below meth c H locs 0 0 (MQ below (xQw True (.returned (some (.int u.1))) X [(h0, xO 6 [.ref h1, .ref g0, .ref g1, .ref h4, .ref h3, .int v_isKept]), (h1, xO 0 [.ref h2, .ref g2, .int v_now_inForce, .int v_now_depth, .int v_now_miss, .long v_now_ring, .int v_now_steps, .int v_now_seed]), (h2, xO 2 [.ref g3, .ref g4, .int v_now_laws_count]), (h3, xI X 5 u.2.1), (h4, xO 4 [.ref h5, .ref h6, .ref g5]), (h5, xI X 8 u.2.2.1), (h6, xI X 8 u.2.2.2)] A) args s 0 0 A) (F0 m 33 ls []) := by
    intro _ hf H locs hH ls hl
    refine lv_iload_n hx hb dX6_show_33 rfl (lv_at hl 2 rfl) ?_
    refine lv_iconst (v := (-1 : Int32)) hx hb dX6_show_34 (by decide) ?_
    refine lv_icmp_ne (tgt := 49) hx hb dX6_show_35 (by decide) (fun c5 => ?_) (fun c5 => ?_)
    · have hf := xe c5 hf
      refine lv_aload_n hx hb dX6_show_49 rfl (lv_at hl 0 rfl) ?_
      refine x_get hC fd_RX6_29 hH.1 0 rfl rfl dX6_show_50 ?_
      refine lv_iload_n hx hb dX6_show_53 rfl (lv_at hl 1 rfl) ?_
      refine lv_iload_n hx hb dX6_show_54 rfl (lv_at hl 2 rfl) ?_
      obtain ⟨u6, hf6, hf⟩ := xb hf
      refine x_ranw (ws' := [(h0, xO 6 [.ref h1, .ref g0, .ref g1, .ref h4, .ref h3, .int v_isKept]), (h1, xO 0 [.ref h2, .ref g2, .int v_now_inForce, .int v_now_depth, .int v_now_miss, .long v_now_ring, .int v_now_steps, .int v_now_seed]), (h2, xO 2 [.ref g3, .ref g4, .int v_now_laws_count]), (h3, xI X 5 v_refusals), (h4, xO 4 [.ref h5, .ref h6, .ref g5]), (h5, xI X 8 u6.1), (h6, xI X 8 u6.2)]) (x_runV (q0 := 0) (rest := []) (As := [.int p1, .int p2]) hC mw_235 md_X4_putLaw (c_X4_putLaw (X := X) hf6) hH [4, 5, 6] rfl (by decide) rfl rfl rfl hl.1 rfl rfl (Nat.le_of_ble_eq_true rfl) dX6_show_55 ⟨Nat.le_of_ble_eq_true rfl, Nat.le_of_ble_eq_true rfl⟩ ⟨rfl, rfl⟩ ⟨Nat.le_refl _, Nat.le_refl _⟩) hH [4, 5, 6] rfl rfl rfl rfl rfl (fun hz6 H locs hH => ?_)
      refine lv_iconst (v := (nI 1)) hx hb dX6_show_58 (by decide) ?_
      exact x_retiw (φ := fun _ => True) (f := fun u : Int32 × (Nat → Int32) × (Nat → Int32) × (Nat → Int32) => u.1) (wf := fun u : Int32 × (Nat → Int32) × (Nat → Int32) × (Nat → Int32) => [(h0, xO 6 [.ref h1, .ref g0, .ref g1, .ref h4, .ref h3, .int v_isKept]), (h1, xO 0 [.ref h2, .ref g2, .int v_now_inForce, .int v_now_depth, .int v_now_miss, .long v_now_ring, .int v_now_steps, .int v_now_seed]), (h2, xO 2 [.ref g3, .ref g4, .int v_now_laws_count]), (h3, xI X 5 u.2.1), (h4, xO 4 [.ref h5, .ref h6, .ref g5]), (h5, xI X 8 u.2.2.1), (h6, xI X 8 u.2.2.2)]) hC hr hlk trivial hf hH rfl rfl dX6_show_59
    · have hf := xt c5 hf
      refine lv_aload_n hx hb dX6_show_38 rfl (lv_at hl 0 rfl) ?_
      refine x_get hC fd_RX6_29 hH.1 0 rfl rfl dX6_show_39 ?_
      refine lv_iload_n hx hb dX6_show_42 rfl (lv_at hl 1 rfl) ?_
      obtain ⟨u7, hf7, hf⟩ := xb hf
      refine x_ranw (ws' := [(h0, xO 6 [.ref h1, .ref g0, .ref g1, .ref h4, .ref h3, .int v_isKept]), (h1, xO 0 [.ref h2, .ref g2, .int v_now_inForce, .int v_now_depth, .int v_now_miss, .long v_now_ring, .int v_now_steps, .int v_now_seed]), (h2, xO 2 [.ref g3, .ref g4, .int v_now_laws_count]), (h3, xI X 5 v_refusals), (h4, xO 4 [.ref h5, .ref h6, .ref g5]), (h5, xI X 8 u7.1), (h6, xI X 8 u7.2)]) (x_runV (q0 := 0) (rest := []) (As := [.int p1]) hC mw_231 md_X4_putNothing (c_X4_putNothing (X := X) hf7) hH [4, 5, 6] rfl (by decide) rfl rfl rfl hl.1 rfl rfl (Nat.le_of_ble_eq_true rfl) dX6_show_43 ⟨Nat.le_of_ble_eq_true rfl, Nat.le_of_ble_eq_true rfl⟩ ⟨rfl, rfl⟩ ⟨Nat.le_refl _, Nat.le_refl _⟩) hH [4, 5, 6] rfl rfl rfl rfl rfl (fun hz7 H locs hH => ?_)
      refine lv_goto (tgt := 58) hx hb dX6_show_46 (by decide) ?_
      refine lv_iconst (v := (nI 1)) hx hb dX6_show_58 (by decide) ?_
      exact x_retiw (φ := fun _ => True) (f := fun u : Int32 × (Nat → Int32) × (Nat → Int32) × (Nat → Int32) => u.1) (wf := fun u : Int32 × (Nat → Int32) × (Nat → Int32) × (Nat → Int32) => [(h0, xO 6 [.ref h1, .ref g0, .ref g1, .ref h4, .ref h3, .int v_isKept]), (h1, xO 0 [.ref h2, .ref g2, .int v_now_inForce, .int v_now_depth, .int v_now_miss, .long v_now_ring, .int v_now_steps, .int v_now_seed]), (h2, xO 2 [.ref g3, .ref g4, .int v_now_laws_count]), (h3, xI X 5 u.2.1), (h4, xO 4 [.ref h5, .ref h6, .ref g5]), (h5, xI X 8 u.2.2.1), (h6, xI X 8 u.2.2.2)]) hC hr hlk trivial hf hH rfl rfl dX6_show_59
  refine lv_iload_n hx hb dX6_show_0 rfl (lv_at hl 1 rfl) ?_
  obtain ⟨u1, hf1, hf⟩ := xb hf
  refine x_ran (x_runS (rest := []) (As := [.int p1]) hC mw_94 md_X4_isShelf (c_X4_isShelf (X := X) hf1) hH [] rfl (by decide) hl.1 rfl rfl (Nat.le_of_ble_eq_true rfl) dX6_show_1 ⟨Nat.le_of_ble_eq_true rfl, Nat.le_of_ble_eq_true rfl⟩ ⟨rfl, rfl⟩ ⟨Nat.le_refl _, Nat.le_refl _⟩) rfl (fun hz1 => ?_)
  refine lv_if_eq (tgt := 26) hx hb dX6_show_4 (by decide) (fun c2 => ?_) (fun c2 => ?_)
  · have hf := xt c2 hf
    refine lv_aload_n hx hb dX6_show_26 rfl (lv_at hl 0 rfl) ?_
    refine lv_bipush (v := (-2 : Int32)) hx hb dX6_show_27 (by decide) ?_
    obtain ⟨u3, hf3, hf⟩ := xb hf
    refine x_ranw (ws' := [(h0, xO 6 [.ref h1, .ref g0, .ref g1, .ref h4, .ref h3, .int v_isKept]), (h1, xO 0 [.ref h2, .ref g2, .int v_now_inForce, .int v_now_depth, .int v_now_miss, .long v_now_ring, .int v_now_steps, .int v_now_seed]), (h2, xO 2 [.ref g3, .ref g4, .int v_now_laws_count]), (h3, xI X 5 u3.2), (h4, xO 4 [.ref h5, .ref h6, .ref g5]), (h5, xI X 8 v_shelves_held), (h6, xI X 8 v_shelves_sizes)]) (x_runV (q0 := 0) (rest := []) (As := [.int (-2 : Int32)]) hC mw_100 md_X6_refuse (c_X6_refuse (X := X) hf3) hH [0, 3] rfl (by decide) rfl rfl rfl hl.1 rfl rfl (Nat.le_of_ble_eq_true rfl) dX6_show_29 ⟨Nat.le_of_ble_eq_true rfl, Nat.le_of_ble_eq_true rfl⟩ ⟨rfl, rfl⟩ ⟨Nat.le_refl _, Nat.le_refl _⟩) hH [0, 3] rfl rfl rfl rfl rfl (fun hz3 H locs hH => ?_)
    exact x_retiw (φ := fun _ => True) (f := fun u : Int32 × (Nat → Int32) × (Nat → Int32) × (Nat → Int32) => u.1) (wf := fun u : Int32 × (Nat → Int32) × (Nat → Int32) × (Nat → Int32) => [(h0, xO 6 [.ref h1, .ref g0, .ref g1, .ref h4, .ref h3, .int v_isKept]), (h1, xO 0 [.ref h2, .ref g2, .int v_now_inForce, .int v_now_depth, .int v_now_miss, .long v_now_ring, .int v_now_steps, .int v_now_seed]), (h2, xO 2 [.ref g3, .ref g4, .int v_now_laws_count]), (h3, xI X 5 u.2.1), (h4, xO 4 [.ref h5, .ref h6, .ref g5]), (h5, xI X 8 u.2.2.1), (h6, xI X 8 u.2.2.2)]) hC hr hlk trivial hf hH rfl rfl dX6_show_32
  · have hf := xe c2 hf
    refine lv_iload_n hx hb dX6_show_7 rfl (lv_at hl 2 rfl) ?_
    refine lv_iconst (v := (-1 : Int32)) hx hb dX6_show_8 (by decide) ?_
    refine lv_icmp_eq (tgt := 33) hx hb dX6_show_9 (by decide) (fun c4 => ?_) (fun c4 => ?_)
    · have hf := xt c4 hf
      exact J33 trivial hf _ _ hH ls (lv_sub hl [0, 1, 2] rfl)
    · have hf := xe c4 hf
      refine lv_aload_n hx hb dX6_show_12 rfl (lv_at hl 0 rfl) ?_
      refine x_get hC fd_RX6_10 hH.1 0 rfl rfl dX6_show_13 ?_
      refine x_getN hC fd_RX6_81 hH.1 1 rfl rfl dX6_show_16 ?_
      refine lv_iload_n hx hb dX6_show_19 rfl (lv_at hl 2 rfl) ?_
      obtain ⟨u8, hf8, hf⟩ := xb hf
      refine x_ran (x_runV (q0 := 0) (rest := []) (As := [.int p2]) hC mw_226 md_X2_isThere (c_X2_isThere (X := X) hf8) hH [2] rfl (by decide) rfl rfl rfl hl.1 rfl rfl (Nat.le_of_ble_eq_true rfl) dX6_show_20 ⟨Nat.le_of_ble_eq_true rfl, Nat.le_of_ble_eq_true rfl⟩ ⟨rfl, rfl⟩ ⟨Nat.le_refl _, Nat.le_refl _⟩) rfl (fun hz8 => ?_)
      refine lv_if_ne (tgt := 33) hx hb dX6_show_23 (by decide) (fun c9 => ?_) (fun c9 => ?_)
      · have hf := xe c9 hf
        exact J33 trivial hf _ _ hH ls (lv_sub hl [0, 1, 2] rfl)
      · have hf := xt c9 hf
        refine lv_aload_n hx hb dX6_show_26 rfl (lv_at hl 0 rfl) ?_
        refine lv_bipush (v := (-2 : Int32)) hx hb dX6_show_27 (by decide) ?_
        obtain ⟨u10, hf10, hf⟩ := xb hf
        refine x_ranw (ws' := [(h0, xO 6 [.ref h1, .ref g0, .ref g1, .ref h4, .ref h3, .int v_isKept]), (h1, xO 0 [.ref h2, .ref g2, .int v_now_inForce, .int v_now_depth, .int v_now_miss, .long v_now_ring, .int v_now_steps, .int v_now_seed]), (h2, xO 2 [.ref g3, .ref g4, .int v_now_laws_count]), (h3, xI X 5 u10.2), (h4, xO 4 [.ref h5, .ref h6, .ref g5]), (h5, xI X 8 v_shelves_held), (h6, xI X 8 v_shelves_sizes)]) (x_runV (q0 := 0) (rest := []) (As := [.int (-2 : Int32)]) hC mw_100 md_X6_refuse (c_X6_refuse (X := X) hf10) hH [0, 3] rfl (by decide) rfl rfl rfl hl.1 rfl rfl (Nat.le_of_ble_eq_true rfl) dX6_show_29 ⟨Nat.le_of_ble_eq_true rfl, Nat.le_of_ble_eq_true rfl⟩ ⟨rfl, rfl⟩ ⟨Nat.le_refl _, Nat.le_refl _⟩) hH [0, 3] rfl rfl rfl rfl rfl (fun hz10 H locs hH => ?_)
        exact x_retiw (φ := fun _ => True) (f := fun u : Int32 × (Nat → Int32) × (Nat → Int32) × (Nat → Int32) => u.1) (wf := fun u : Int32 × (Nat → Int32) × (Nat → Int32) × (Nat → Int32) => [(h0, xO 6 [.ref h1, .ref g0, .ref g1, .ref h4, .ref h3, .int v_isKept]), (h1, xO 0 [.ref h2, .ref g2, .int v_now_inForce, .int v_now_depth, .int v_now_miss, .long v_now_ring, .int v_now_steps, .int v_now_seed]), (h2, xO 2 [.ref g3, .ref g4, .int v_now_laws_count]), (h3, xI X 5 u.2.1), (h4, xO 4 [.ref h5, .ref h6, .ref g5]), (h5, xI X 8 u.2.2.1), (h6, xI X 8 u.2.2.2)]) hC hr hlk trivial hf hH rfl rfl dX6_show_32
def f_X6_says_J71 (v_now_ring : Int64) (v_now_steps : Int32) (v_now_laws_count : Int32) (v_now_laws_kinds : (Nat → Int32)) (v_now_laws_tunes : (Nat → Int32)) (v_refusals : (Nat → Int32)) (p2 : Int32) (j71_3 : Int32) : Option (Int32 × (Nat → Int32)) :=
  if j71_3 = (-1 : Int32) then
    (f_X6_refuse v_refusals (-4 : Int32)).bind fun u25 =>
    some (u25.1, u25.2)
  else
  if p2 = (nI 0) then
    (f_X2_tuneOf v_now_laws_tunes j71_3).bind fun u13 =>
    some (u13, v_refusals)
  else
  if p2 = (nI 1) then
    (f_X2_kindOf v_now_laws_kinds j71_3).bind fun u15 =>
    (f_X2_tuneOf v_now_laws_tunes j71_3).bind fun u16 =>
    (f_X2_stepsLookedAhead u15 u16).bind fun u17 =>
    some (u17, v_refusals)
  else
  if p2 = (nI 2) then
    (f_X0_timesStruck v_now_steps v_now_laws_count v_now_laws_kinds v_now_laws_tunes j71_3 v_now_ring).bind fun u19 =>
    some (u19, v_refusals)
  else
  if p2 = (nI 3) then
    (f_X2_kindOf v_now_laws_kinds j71_3).bind fun u21 =>
    (f_X2_tuneOf v_now_laws_tunes j71_3).bind fun u22 =>
    (f_X2_stepsLookedAhead u21 u22).bind fun u23 =>
    some (u23, v_refusals)
  else
  (f_X0_timesStruck v_now_steps v_now_laws_count v_now_laws_kinds v_now_laws_tunes j71_3 v_now_ring).bind fun u24 =>
  some (u24, v_refusals)
def f_X6_says (v_now_ring : Int64) (v_now_steps : Int32) (v_now_laws_count : Int32) (v_now_laws_kinds : (Nat → Int32)) (v_now_laws_tunes : (Nat → Int32)) (v_refusals : (Nat → Int32)) (v_shelves_held : (Nat → Int32)) (p1 : Int32) (p2 : Int32) : Option (Int32 × (Nat → Int32)) :=
  (f_X4_isShelf p1).bind fun u1 =>
  if u1 = (nI 0) then
    (f_X6_refuse v_refusals (-2 : Int32)).bind fun u3 =>
    some (u3.1, u3.2)
  else
  (f_X2_isKind p2).bind fun u4 =>
  if u4 = (nI 0) then
    (f_X6_refuse v_refusals (-2 : Int32)).bind fun u30 =>
    some (u30.1, u30.2)
  else
  (f_X4_lawOn v_shelves_held p1).bind fun u6 =>
  (f_X4_holdsRow v_shelves_held p1).bind fun u7 =>
  if u7 = (nI 0) then
    if u6 = (-1 : Int32) then
      f_X6_says_J71 v_now_ring v_now_steps v_now_laws_count v_now_laws_kinds v_now_laws_tunes v_refusals p2 u6
    else
    (f_X2_kindOf v_now_laws_kinds u6).bind fun u26 =>
    (f_X2_isUnder u26 p2).bind fun u27 =>
    if u27 = (nI 0) then
      (f_X6_refuse v_refusals (-3 : Int32)).bind fun u29 =>
      some (u29.1, u29.2)
    else
    f_X6_says_J71 v_now_ring v_now_steps v_now_laws_count v_now_laws_kinds v_now_laws_tunes v_refusals p2 u6
  else
  (f_X6_refuse v_refusals (-3 : Int32)).bind fun u9 =>
  some (u9.1, u9.2)
set_option maxHeartbeats 4000000 in
set_option maxRecDepth 100000 in
theorem c_X6_says {l : Launch} {X : xG} {h0 h1 h2 h3 h4 h5 h6 h7 g0 g1 g2 g3 g4 : Nat} {v_isKept : Int32} {v_now_inForce : Int32} {v_now_depth : Int32} {v_now_miss : Int32} {v_now_ring : Int64} {v_now_steps : Int32} {v_now_seed : Int32} {v_now_laws_count : Int32} {v_now_laws_kinds : (Nat → Int32)} {v_now_laws_tunes : (Nat → Int32)} {v_refusals : (Nat → Int32)} {v_shelves_held : (Nat → Int32)} {p1 : Int32} {p2 : Int32} {u : Int32 × (Nat → Int32)} (hf : f_X6_says v_now_ring v_now_steps v_now_laws_count v_now_laws_kinds v_now_laws_tunes v_refusals v_shelves_held p1 p2 = some u) : Met l yX6_says (xw yX6_says cX6_says 4 (some .int)) (xrm 6 148) (xPc [.ref h0, .int p1, .int p2] X [(h0, xO 6 [.ref h1, .ref g0, .ref g1, .ref h6, .ref h5, .int v_isKept]), (h1, xO 0 [.ref h2, .ref g2, .int v_now_inForce, .int v_now_depth, .int v_now_miss, .long v_now_ring, .int v_now_steps, .int v_now_seed]), (h2, xO 2 [.ref h3, .ref h4, .int v_now_laws_count]), (h3, xI X 6 v_now_laws_kinds), (h4, xI X 6 v_now_laws_tunes), (h5, xI X 5 v_refusals), (h6, xO 4 [.ref h7, .ref g3, .ref g4]), (h7, xI X 8 v_shelves_held)]) (xQw True (.returned (some (.int u.1))) X [(h0, xO 6 [.ref h1, .ref g0, .ref g1, .ref h6, .ref h5, .int v_isKept]), (h1, xO 0 [.ref h2, .ref g2, .int v_now_inForce, .int v_now_depth, .int v_now_miss, .long v_now_ring, .int v_now_steps, .int v_now_seed]), (h2, xO 2 [.ref h3, .ref h4, .int v_now_laws_count]), (h3, xI X 6 v_now_laws_kinds), (h4, xI X 6 v_now_laws_tunes), (h5, xI X 5 u.2), (h6, xO 4 [.ref h7, .ref g3, .ref g4]), (h7, xI X 8 v_shelves_held)] (xAs [(h0, xO 6 [.ref h1, .ref g0, .ref g1, .ref h6, .ref h5, .int v_isKept]), (h1, xO 0 [.ref h2, .ref g2, .int v_now_inForce, .int v_now_depth, .int v_now_miss, .long v_now_ring, .int v_now_steps, .int v_now_seed]), (h2, xO 2 [.ref h3, .ref h4, .int v_now_laws_count]), (h3, xI X 6 v_now_laws_kinds), (h4, xI X 6 v_now_laws_tunes), (h5, xI X 5 v_refusals), (h6, xO 4 [.ref h7, .ref g3, .ref g4]), (h7, xI X 8 v_shelves_held)])) 0 0 (xAs [(h0, xO 6 [.ref h1, .ref g0, .ref g1, .ref h6, .ref h5, .int v_isKept]), (h1, xO 0 [.ref h2, .ref g2, .int v_now_inForce, .int v_now_depth, .int v_now_miss, .long v_now_ring, .int v_now_steps, .int v_now_seed]), (h2, xO 2 [.ref h3, .ref h4, .int v_now_laws_count]), (h3, xI X 6 v_now_laws_kinds), (h4, xI X 6 v_now_laws_tunes), (h5, xI X 5 v_refusals), (h6, xO 4 [.ref h7, .ref g3, .ref g4]), (h7, xI X 8 v_shelves_held)]) := by
  refine xMetw (Qc := fun A => xQw True (.returned (some (.int u.1))) X [(h0, xO 6 [.ref h1, .ref g0, .ref g1, .ref h6, .ref h5, .int v_isKept]), (h1, xO 0 [.ref h2, .ref g2, .int v_now_inForce, .int v_now_depth, .int v_now_miss, .long v_now_ring, .int v_now_steps, .int v_now_seed]), (h2, xO 2 [.ref h3, .ref h4, .int v_now_laws_count]), (h3, xI X 6 v_now_laws_kinds), (h4, xI X 6 v_now_laws_tunes), (h5, xI X 5 u.2), (h6, xO 4 [.ref h7, .ref g3, .ref g4]), (h7, xI X 8 v_shelves_held)] A) (n := 2) md_X6_says.1 (Nat.le_of_ble_eq_true rfl) ?_
  intro p e s m args below meth c ls A hC hr hlk hH hl
  have hl : lv_has ls 4 [(0, .ref h0), (1, .int p1), (2, .int p2)] := hl
  have hx := hC.1
  have hb := hC.2.1
  have J71 : ∀ (j71_3 : Int32), f_X6_says_J71 v_now_ring v_now_steps v_now_laws_count v_now_laws_kinds v_now_laws_tunes v_refusals p2 j71_3 = some u → ∀ (H : Heap) (locs : List Loc), xH X A [(h0, xO 6 [.ref h1, .ref g0, .ref g1, .ref h6, .ref h5, .int v_isKept]), (h1, xO 0 [.ref h2, .ref g2, .int v_now_inForce, .int v_now_depth, .int v_now_miss, .long v_now_ring, .int v_now_steps, .int v_now_seed]), (h2, xO 2 [.ref h3, .ref h4, .int v_now_laws_count]), (h3, xI X 6 v_now_laws_kinds), (h4, xI X 6 v_now_laws_tunes), (h5, xI X 5 v_refusals), (h6, xO 4 [.ref h7, .ref g3, .ref g4]), (h7, xI X 8 v_shelves_held)] s.heap H locs → ∀ (ls : Array Slot), lv_has ls 4 [(0, .ref h0), (2, .int p2), (3, .int j71_3)] → W p l e (xrm 6 148) s m args below meth c H locs 0 0 (MQ below (xQw True (.returned (some (.int u.1))) X [(h0, xO 6 [.ref h1, .ref g0, .ref g1, .ref h6, .ref h5, .int v_isKept]), (h1, xO 0 [.ref h2, .ref g2, .int v_now_inForce, .int v_now_depth, .int v_now_miss, .long v_now_ring, .int v_now_steps, .int v_now_seed]), (h2, xO 2 [.ref h3, .ref h4, .int v_now_laws_count]), (h3, xI X 6 v_now_laws_kinds), (h4, xI X 6 v_now_laws_tunes), (h5, xI X 5 u.2), (h6, xO 4 [.ref h7, .ref g3, .ref g4]), (h7, xI X 8 v_shelves_held)] A) args s 0 0 A) (F0 m 71 ls []) := by
    intro j71_3 hf H locs hH ls hl
    refine lv_iload_n hx hb dX6_says_71 rfl (lv_at hl 2 rfl) ?_
    refine lv_iconst (v := (-1 : Int32)) hx hb dX6_says_72 (by decide) ?_
    refine lv_icmp_ne (tgt := 83) hx hb dX6_says_73 (by decide) (fun c11 => ?_) (fun c11 => ?_)
    · have hf := xe c11 hf
      refine lv_iload_n hx hb dX6_says_83 rfl (lv_at hl 1 rfl) ?_
      by_cases c12 : p2 = (nI 0)
      · have hf := xt c12 hf
        refine x_tin (k := (nI 0)) (tgt := 116) hx hb dX6_says_84 c12 (by decide) (by decide) ?_
        refine lv_aload_n hx hb dX6_says_116 rfl (lv_at hl 0 rfl) ?_
        refine x_get hC fd_RX6_10 hH.1 0 rfl rfl dX6_says_117 ?_
        refine x_getN hC fd_RX6_81 hH.1 1 rfl rfl dX6_says_120 ?_
        refine lv_iload_n hx hb dX6_says_123 rfl (lv_at hl 2 rfl) ?_
        obtain ⟨u13, hf13, hf⟩ := xb hf
        refine x_ran (x_runV (q0 := 0) (rest := []) (As := [.int j71_3]) hC mw_262 md_X2_tuneOf (c_X2_tuneOf (X := X) hf13) hH [2, 4] rfl (by decide) rfl rfl rfl hl.1 rfl rfl (Nat.le_of_ble_eq_true rfl) dX6_says_124 ⟨Nat.le_of_ble_eq_true rfl, Nat.le_of_ble_eq_true rfl⟩ ⟨rfl, rfl⟩ ⟨Nat.le_refl _, Nat.le_refl _⟩) rfl (fun hz13 => ?_)
        exact x_retiw (φ := fun _ => True) (f := fun u : Int32 × (Nat → Int32) => u.1) (wf := fun u : Int32 × (Nat → Int32) => [(h0, xO 6 [.ref h1, .ref g0, .ref g1, .ref h6, .ref h5, .int v_isKept]), (h1, xO 0 [.ref h2, .ref g2, .int v_now_inForce, .int v_now_depth, .int v_now_miss, .long v_now_ring, .int v_now_steps, .int v_now_seed]), (h2, xO 2 [.ref h3, .ref h4, .int v_now_laws_count]), (h3, xI X 6 v_now_laws_kinds), (h4, xI X 6 v_now_laws_tunes), (h5, xI X 5 u.2), (h6, xO 4 [.ref h7, .ref g3, .ref g4]), (h7, xI X 8 v_shelves_held)]) hC hr hlk trivial hf hH rfl rfl dX6_says_127
      · have hf := xe c12 hf
        by_cases c14 : p2 = (nI 1)
        · have hf := xt c14 hf
          refine x_tin (k := (nI 1)) (tgt := 128) hx hb dX6_says_84 c14 (by decide) (by decide) ?_
          refine lv_aload_n hx hb dX6_says_128 rfl (lv_at hl 0 rfl) ?_
          refine x_get hC fd_RX6_10 hH.1 0 rfl rfl dX6_says_129 ?_
          refine x_getN hC fd_RX6_81 hH.1 1 rfl rfl dX6_says_132 ?_
          refine lv_iload_n hx hb dX6_says_135 rfl (lv_at hl 2 rfl) ?_
          obtain ⟨u15, hf15, hf⟩ := xb hf
          refine x_ran (x_runV (q0 := 0) (rest := []) (As := [.int j71_3]) hC mw_255 md_X2_kindOf (c_X2_kindOf (X := X) hf15) hH [2, 3] rfl (by decide) rfl rfl rfl hl.1 rfl rfl (Nat.le_of_ble_eq_true rfl) dX6_says_136 ⟨Nat.le_of_ble_eq_true rfl, Nat.le_of_ble_eq_true rfl⟩ ⟨rfl, rfl⟩ ⟨Nat.le_refl _, Nat.le_refl _⟩) rfl (fun hz15 => ?_)
          refine lv_aload_n hx hb dX6_says_139 rfl (lv_at hl 0 rfl) ?_
          refine x_get hC fd_RX6_10 hH.1 0 rfl rfl dX6_says_140 ?_
          refine x_getN hC fd_RX6_81 hH.1 1 rfl rfl dX6_says_143 ?_
          refine lv_iload_n hx hb dX6_says_146 rfl (lv_at hl 2 rfl) ?_
          obtain ⟨u16, hf16, hf⟩ := xb hf
          refine x_ran (x_runV (q0 := 0) (rest := [.int u15]) (As := [.int j71_3]) hC mw_262 md_X2_tuneOf (c_X2_tuneOf (X := X) hf16) hH [2, 4] rfl (by decide) rfl rfl rfl hl.1 rfl rfl (Nat.le_of_ble_eq_true rfl) dX6_says_147 ⟨Nat.le_of_ble_eq_true rfl, Nat.le_of_ble_eq_true rfl⟩ ⟨rfl, rfl⟩ ⟨Nat.le_refl _, Nat.le_refl _⟩) rfl (fun hz16 => ?_)
          obtain ⟨u17, hf17, hf⟩ := xb hf
          refine x_ran (x_runS (rest := []) (As := [.int u15, .int u16]) hC mw_266 md_X2_stepsLookedAhead (c_X2_stepsLookedAhead (X := X) hf17) hH [] rfl (by decide) hl.1 rfl rfl (Nat.le_of_ble_eq_true rfl) dX6_says_150 ⟨Nat.le_of_ble_eq_true rfl, Nat.le_of_ble_eq_true rfl⟩ ⟨rfl, rfl⟩ ⟨Nat.le_refl _, Nat.le_refl _⟩) rfl (fun hz17 => ?_)
          exact x_retiw (φ := fun _ => True) (f := fun u : Int32 × (Nat → Int32) => u.1) (wf := fun u : Int32 × (Nat → Int32) => [(h0, xO 6 [.ref h1, .ref g0, .ref g1, .ref h6, .ref h5, .int v_isKept]), (h1, xO 0 [.ref h2, .ref g2, .int v_now_inForce, .int v_now_depth, .int v_now_miss, .long v_now_ring, .int v_now_steps, .int v_now_seed]), (h2, xO 2 [.ref h3, .ref h4, .int v_now_laws_count]), (h3, xI X 6 v_now_laws_kinds), (h4, xI X 6 v_now_laws_tunes), (h5, xI X 5 u.2), (h6, xO 4 [.ref h7, .ref g3, .ref g4]), (h7, xI X 8 v_shelves_held)]) hC hr hlk trivial hf hH rfl rfl dX6_says_153
        · have hf := xe c14 hf
          by_cases c18 : p2 = (nI 2)
          · have hf := xt c18 hf
            refine x_tin (k := (nI 2)) (tgt := 154) hx hb dX6_says_84 c18 (by decide) (by decide) ?_
            refine lv_aload_n hx hb dX6_says_154 rfl (lv_at hl 0 rfl) ?_
            refine x_get hC fd_RX6_10 hH.1 0 rfl rfl dX6_says_155 ?_
            refine lv_iload_n hx hb dX6_says_158 rfl (lv_at hl 2 rfl) ?_
            refine lv_aload_n hx hb dX6_says_159 rfl (lv_at hl 0 rfl) ?_
            refine x_get hC fd_RX6_10 hH.1 0 rfl rfl dX6_says_160 ?_
            refine x_getN hC fd_RX6_120 hH.1 1 rfl rfl dX6_says_163 ?_
            obtain ⟨u19, hf19, hf⟩ := xb hf
            refine x_ran (x_runV (q0 := 0) (rest := []) (As := [.int j71_3, .long v_now_ring]) hC mw_269 md_X0_timesStruck (c_X0_timesStruck (X := X) hf19) hH [1, 2, 3, 4] rfl (by decide) rfl rfl rfl hl.1 rfl rfl (Nat.le_of_ble_eq_true rfl) dX6_says_166 ⟨Nat.le_of_ble_eq_true rfl, Nat.le_of_ble_eq_true rfl⟩ ⟨rfl, rfl⟩ ⟨Nat.le_refl _, Nat.le_refl _⟩) rfl (fun hz19 => ?_)
            exact x_retiw (φ := fun _ => True) (f := fun u : Int32 × (Nat → Int32) => u.1) (wf := fun u : Int32 × (Nat → Int32) => [(h0, xO 6 [.ref h1, .ref g0, .ref g1, .ref h6, .ref h5, .int v_isKept]), (h1, xO 0 [.ref h2, .ref g2, .int v_now_inForce, .int v_now_depth, .int v_now_miss, .long v_now_ring, .int v_now_steps, .int v_now_seed]), (h2, xO 2 [.ref h3, .ref h4, .int v_now_laws_count]), (h3, xI X 6 v_now_laws_kinds), (h4, xI X 6 v_now_laws_tunes), (h5, xI X 5 u.2), (h6, xO 4 [.ref h7, .ref g3, .ref g4]), (h7, xI X 8 v_shelves_held)]) hC hr hlk trivial hf hH rfl rfl dX6_says_169
          · have hf := xe c18 hf
            by_cases c20 : p2 = (nI 3)
            · have hf := xt c20 hf
              refine x_tin (k := (nI 3)) (tgt := 128) hx hb dX6_says_84 c20 (by decide) (by decide) ?_
              refine lv_aload_n hx hb dX6_says_128 rfl (lv_at hl 0 rfl) ?_
              refine x_get hC fd_RX6_10 hH.1 0 rfl rfl dX6_says_129 ?_
              refine x_getN hC fd_RX6_81 hH.1 1 rfl rfl dX6_says_132 ?_
              refine lv_iload_n hx hb dX6_says_135 rfl (lv_at hl 2 rfl) ?_
              obtain ⟨u21, hf21, hf⟩ := xb hf
              refine x_ran (x_runV (q0 := 0) (rest := []) (As := [.int j71_3]) hC mw_255 md_X2_kindOf (c_X2_kindOf (X := X) hf21) hH [2, 3] rfl (by decide) rfl rfl rfl hl.1 rfl rfl (Nat.le_of_ble_eq_true rfl) dX6_says_136 ⟨Nat.le_of_ble_eq_true rfl, Nat.le_of_ble_eq_true rfl⟩ ⟨rfl, rfl⟩ ⟨Nat.le_refl _, Nat.le_refl _⟩) rfl (fun hz21 => ?_)
              refine lv_aload_n hx hb dX6_says_139 rfl (lv_at hl 0 rfl) ?_
              refine x_get hC fd_RX6_10 hH.1 0 rfl rfl dX6_says_140 ?_
              refine x_getN hC fd_RX6_81 hH.1 1 rfl rfl dX6_says_143 ?_
              refine lv_iload_n hx hb dX6_says_146 rfl (lv_at hl 2 rfl) ?_
              obtain ⟨u22, hf22, hf⟩ := xb hf
              refine x_ran (x_runV (q0 := 0) (rest := [.int u21]) (As := [.int j71_3]) hC mw_262 md_X2_tuneOf (c_X2_tuneOf (X := X) hf22) hH [2, 4] rfl (by decide) rfl rfl rfl hl.1 rfl rfl (Nat.le_of_ble_eq_true rfl) dX6_says_147 ⟨Nat.le_of_ble_eq_true rfl, Nat.le_of_ble_eq_true rfl⟩ ⟨rfl, rfl⟩ ⟨Nat.le_refl _, Nat.le_refl _⟩) rfl (fun hz22 => ?_)
              obtain ⟨u23, hf23, hf⟩ := xb hf
              refine x_ran (x_runS (rest := []) (As := [.int u21, .int u22]) hC mw_266 md_X2_stepsLookedAhead (c_X2_stepsLookedAhead (X := X) hf23) hH [] rfl (by decide) hl.1 rfl rfl (Nat.le_of_ble_eq_true rfl) dX6_says_150 ⟨Nat.le_of_ble_eq_true rfl, Nat.le_of_ble_eq_true rfl⟩ ⟨rfl, rfl⟩ ⟨Nat.le_refl _, Nat.le_refl _⟩) rfl (fun hz23 => ?_)
              exact x_retiw (φ := fun _ => True) (f := fun u : Int32 × (Nat → Int32) => u.1) (wf := fun u : Int32 × (Nat → Int32) => [(h0, xO 6 [.ref h1, .ref g0, .ref g1, .ref h6, .ref h5, .int v_isKept]), (h1, xO 0 [.ref h2, .ref g2, .int v_now_inForce, .int v_now_depth, .int v_now_miss, .long v_now_ring, .int v_now_steps, .int v_now_seed]), (h2, xO 2 [.ref h3, .ref h4, .int v_now_laws_count]), (h3, xI X 6 v_now_laws_kinds), (h4, xI X 6 v_now_laws_tunes), (h5, xI X 5 u.2), (h6, xO 4 [.ref h7, .ref g3, .ref g4]), (h7, xI X 8 v_shelves_held)]) hC hr hlk trivial hf hH rfl rfl dX6_says_153
            · have hf := xe c20 hf
              refine x_tout (tgt := 154) hx hb dX6_says_84 (fun j hj => match j, hj with | 0, _ => c12 | 1, _ => c14 | 2, _ => c18 | 3, _ => c20 | _ + 4, hj => absurd hj (by simp <;> omega)) (by decide) ?_
              refine lv_aload_n hx hb dX6_says_154 rfl (lv_at hl 0 rfl) ?_
              refine x_get hC fd_RX6_10 hH.1 0 rfl rfl dX6_says_155 ?_
              refine lv_iload_n hx hb dX6_says_158 rfl (lv_at hl 2 rfl) ?_
              refine lv_aload_n hx hb dX6_says_159 rfl (lv_at hl 0 rfl) ?_
              refine x_get hC fd_RX6_10 hH.1 0 rfl rfl dX6_says_160 ?_
              refine x_getN hC fd_RX6_120 hH.1 1 rfl rfl dX6_says_163 ?_
              obtain ⟨u24, hf24, hf⟩ := xb hf
              refine x_ran (x_runV (q0 := 0) (rest := []) (As := [.int j71_3, .long v_now_ring]) hC mw_269 md_X0_timesStruck (c_X0_timesStruck (X := X) hf24) hH [1, 2, 3, 4] rfl (by decide) rfl rfl rfl hl.1 rfl rfl (Nat.le_of_ble_eq_true rfl) dX6_says_166 ⟨Nat.le_of_ble_eq_true rfl, Nat.le_of_ble_eq_true rfl⟩ ⟨rfl, rfl⟩ ⟨Nat.le_refl _, Nat.le_refl _⟩) rfl (fun hz24 => ?_)
              exact x_retiw (φ := fun _ => True) (f := fun u : Int32 × (Nat → Int32) => u.1) (wf := fun u : Int32 × (Nat → Int32) => [(h0, xO 6 [.ref h1, .ref g0, .ref g1, .ref h6, .ref h5, .int v_isKept]), (h1, xO 0 [.ref h2, .ref g2, .int v_now_inForce, .int v_now_depth, .int v_now_miss, .long v_now_ring, .int v_now_steps, .int v_now_seed]), (h2, xO 2 [.ref h3, .ref h4, .int v_now_laws_count]), (h3, xI X 6 v_now_laws_kinds), (h4, xI X 6 v_now_laws_tunes), (h5, xI X 5 u.2), (h6, xO 4 [.ref h7, .ref g3, .ref g4]), (h7, xI X 8 v_shelves_held)]) hC hr hlk trivial hf hH rfl rfl dX6_says_169
    · have hf := xt c11 hf
      refine lv_aload_n hx hb dX6_says_76 rfl (lv_at hl 0 rfl) ?_
      refine lv_bipush (v := (-4 : Int32)) hx hb dX6_says_77 (by decide) ?_
      obtain ⟨u25, hf25, hf⟩ := xb hf
      refine x_ranw (ws' := [(h0, xO 6 [.ref h1, .ref g0, .ref g1, .ref h6, .ref h5, .int v_isKept]), (h1, xO 0 [.ref h2, .ref g2, .int v_now_inForce, .int v_now_depth, .int v_now_miss, .long v_now_ring, .int v_now_steps, .int v_now_seed]), (h2, xO 2 [.ref h3, .ref h4, .int v_now_laws_count]), (h3, xI X 6 v_now_laws_kinds), (h4, xI X 6 v_now_laws_tunes), (h5, xI X 5 u25.2), (h6, xO 4 [.ref h7, .ref g3, .ref g4]), (h7, xI X 8 v_shelves_held)]) (x_runV (q0 := 0) (rest := []) (As := [.int (-4 : Int32)]) hC mw_100 md_X6_refuse (c_X6_refuse (X := X) hf25) hH [0, 5] rfl (by decide) rfl rfl rfl hl.1 rfl rfl (Nat.le_of_ble_eq_true rfl) dX6_says_79 ⟨Nat.le_of_ble_eq_true rfl, Nat.le_of_ble_eq_true rfl⟩ ⟨rfl, rfl⟩ ⟨Nat.le_refl _, Nat.le_refl _⟩) hH [0, 5] rfl rfl rfl rfl rfl (fun hz25 H locs hH => ?_)
      exact x_retiw (φ := fun _ => True) (f := fun u : Int32 × (Nat → Int32) => u.1) (wf := fun u : Int32 × (Nat → Int32) => [(h0, xO 6 [.ref h1, .ref g0, .ref g1, .ref h6, .ref h5, .int v_isKept]), (h1, xO 0 [.ref h2, .ref g2, .int v_now_inForce, .int v_now_depth, .int v_now_miss, .long v_now_ring, .int v_now_steps, .int v_now_seed]), (h2, xO 2 [.ref h3, .ref h4, .int v_now_laws_count]), (h3, xI X 6 v_now_laws_kinds), (h4, xI X 6 v_now_laws_tunes), (h5, xI X 5 u.2), (h6, xO 4 [.ref h7, .ref g3, .ref g4]), (h7, xI X 8 v_shelves_held)]) hC hr hlk trivial hf hH rfl rfl dX6_says_82
  refine lv_iload_n hx hb dX6_says_0 rfl (lv_at hl 1 rfl) ?_
  obtain ⟨u1, hf1, hf⟩ := xb hf
  refine x_ran (x_runS (rest := []) (As := [.int p1]) hC mw_94 md_X4_isShelf (c_X4_isShelf (X := X) hf1) hH [] rfl (by decide) hl.1 rfl rfl (Nat.le_of_ble_eq_true rfl) dX6_says_1 ⟨Nat.le_of_ble_eq_true rfl, Nat.le_of_ble_eq_true rfl⟩ ⟨rfl, rfl⟩ ⟨Nat.le_refl _, Nat.le_refl _⟩) rfl (fun hz1 => ?_)
  refine lv_if_eq (tgt := 14) hx hb dX6_says_4 (by decide) (fun c2 => ?_) (fun c2 => ?_)
  · have hf := xt c2 hf
    refine lv_aload_n hx hb dX6_says_14 rfl (lv_at hl 0 rfl) ?_
    refine lv_bipush (v := (-2 : Int32)) hx hb dX6_says_15 (by decide) ?_
    obtain ⟨u3, hf3, hf⟩ := xb hf
    refine x_ranw (ws' := [(h0, xO 6 [.ref h1, .ref g0, .ref g1, .ref h6, .ref h5, .int v_isKept]), (h1, xO 0 [.ref h2, .ref g2, .int v_now_inForce, .int v_now_depth, .int v_now_miss, .long v_now_ring, .int v_now_steps, .int v_now_seed]), (h2, xO 2 [.ref h3, .ref h4, .int v_now_laws_count]), (h3, xI X 6 v_now_laws_kinds), (h4, xI X 6 v_now_laws_tunes), (h5, xI X 5 u3.2), (h6, xO 4 [.ref h7, .ref g3, .ref g4]), (h7, xI X 8 v_shelves_held)]) (x_runV (q0 := 0) (rest := []) (As := [.int (-2 : Int32)]) hC mw_100 md_X6_refuse (c_X6_refuse (X := X) hf3) hH [0, 5] rfl (by decide) rfl rfl rfl hl.1 rfl rfl (Nat.le_of_ble_eq_true rfl) dX6_says_17 ⟨Nat.le_of_ble_eq_true rfl, Nat.le_of_ble_eq_true rfl⟩ ⟨rfl, rfl⟩ ⟨Nat.le_refl _, Nat.le_refl _⟩) hH [0, 5] rfl rfl rfl rfl rfl (fun hz3 H locs hH => ?_)
    exact x_retiw (φ := fun _ => True) (f := fun u : Int32 × (Nat → Int32) => u.1) (wf := fun u : Int32 × (Nat → Int32) => [(h0, xO 6 [.ref h1, .ref g0, .ref g1, .ref h6, .ref h5, .int v_isKept]), (h1, xO 0 [.ref h2, .ref g2, .int v_now_inForce, .int v_now_depth, .int v_now_miss, .long v_now_ring, .int v_now_steps, .int v_now_seed]), (h2, xO 2 [.ref h3, .ref h4, .int v_now_laws_count]), (h3, xI X 6 v_now_laws_kinds), (h4, xI X 6 v_now_laws_tunes), (h5, xI X 5 u.2), (h6, xO 4 [.ref h7, .ref g3, .ref g4]), (h7, xI X 8 v_shelves_held)]) hC hr hlk trivial hf hH rfl rfl dX6_says_20
  · have hf := xe c2 hf
    refine lv_iload_n hx hb dX6_says_7 rfl (lv_at hl 2 rfl) ?_
    obtain ⟨u4, hf4, hf⟩ := xb hf
    refine x_ran (x_runS (rest := []) (As := [.int p2]) hC mw_252 md_X2_isKind (c_X2_isKind (X := X) hf4) hH [] rfl (by decide) hl.1 rfl rfl (Nat.le_of_ble_eq_true rfl) dX6_says_8 ⟨Nat.le_of_ble_eq_true rfl, Nat.le_of_ble_eq_true rfl⟩ ⟨rfl, rfl⟩ ⟨Nat.le_refl _, Nat.le_refl _⟩) rfl (fun hz4 => ?_)
    refine lv_if_ne (tgt := 21) hx hb dX6_says_11 (by decide) (fun c5 => ?_) (fun c5 => ?_)
    · have hf := xe c5 hf
      refine lv_aload_n hx hb dX6_says_21 rfl (lv_at hl 0 rfl) ?_
      refine x_get hC fd_RX6_29 hH.1 0 rfl rfl dX6_says_22 ?_
      refine lv_iload_n hx hb dX6_says_25 rfl (lv_at hl 1 rfl) ?_
      obtain ⟨u6, hf6, hf⟩ := xb hf
      refine x_ran (x_runV (q0 := 0) (rest := []) (As := [.int p1]) hC mw_155 md_X4_lawOn (c_X4_lawOn (X := X) hf6) hH [6, 7] rfl (by decide) rfl rfl rfl hl.1 rfl rfl (Nat.le_of_ble_eq_true rfl) dX6_says_26 ⟨Nat.le_of_ble_eq_true rfl, Nat.le_of_ble_eq_true rfl⟩ ⟨rfl, rfl⟩ ⟨Nat.le_refl _, Nat.le_refl _⟩) rfl (fun hz6 => ?_)
      refine lv_istore_n (lv' := [(3, .int u6), (0, .ref h0), (1, .int p1), (2, .int p2)]) hx hb dX6_says_29 rfl hl (by decide) rfl (fun ls hl => ?_)
      refine lv_aload_n hx hb dX6_says_30 rfl (lv_at hl 1 rfl) ?_
      refine x_get hC fd_RX6_29 hH.1 0 rfl rfl dX6_says_31 ?_
      refine lv_iload_n hx hb dX6_says_34 rfl (lv_at hl 2 rfl) ?_
      obtain ⟨u7, hf7, hf⟩ := xb hf
      refine x_ran (x_runV (q0 := 0) (rest := []) (As := [.int p1]) hC mw_159 md_X4_holdsRow (c_X4_holdsRow (X := X) hf7) hH [6, 7] rfl (by decide) rfl rfl rfl hl.1 rfl rfl (Nat.le_of_ble_eq_true rfl) dX6_says_35 ⟨Nat.le_of_ble_eq_true rfl, Nat.le_of_ble_eq_true rfl⟩ ⟨rfl, rfl⟩ ⟨Nat.le_refl _, Nat.le_refl _⟩) rfl (fun hz7 => ?_)
      refine lv_if_ne (tgt := 64) hx hb dX6_says_38 (by decide) (fun c8 => ?_) (fun c8 => ?_)
      · have hf := xe c8 hf
        refine lv_aload_n hx hb dX6_says_64 rfl (lv_at hl 1 rfl) ?_
        refine lv_bipush (v := (-3 : Int32)) hx hb dX6_says_65 (by decide) ?_
        obtain ⟨u9, hf9, hf⟩ := xb hf
        refine x_ranw (ws' := [(h0, xO 6 [.ref h1, .ref g0, .ref g1, .ref h6, .ref h5, .int v_isKept]), (h1, xO 0 [.ref h2, .ref g2, .int v_now_inForce, .int v_now_depth, .int v_now_miss, .long v_now_ring, .int v_now_steps, .int v_now_seed]), (h2, xO 2 [.ref h3, .ref h4, .int v_now_laws_count]), (h3, xI X 6 v_now_laws_kinds), (h4, xI X 6 v_now_laws_tunes), (h5, xI X 5 u9.2), (h6, xO 4 [.ref h7, .ref g3, .ref g4]), (h7, xI X 8 v_shelves_held)]) (x_runV (q0 := 0) (rest := []) (As := [.int (-3 : Int32)]) hC mw_100 md_X6_refuse (c_X6_refuse (X := X) hf9) hH [0, 5] rfl (by decide) rfl rfl rfl hl.1 rfl rfl (Nat.le_of_ble_eq_true rfl) dX6_says_67 ⟨Nat.le_of_ble_eq_true rfl, Nat.le_of_ble_eq_true rfl⟩ ⟨rfl, rfl⟩ ⟨Nat.le_refl _, Nat.le_refl _⟩) hH [0, 5] rfl rfl rfl rfl rfl (fun hz9 H locs hH => ?_)
        exact x_retiw (φ := fun _ => True) (f := fun u : Int32 × (Nat → Int32) => u.1) (wf := fun u : Int32 × (Nat → Int32) => [(h0, xO 6 [.ref h1, .ref g0, .ref g1, .ref h6, .ref h5, .int v_isKept]), (h1, xO 0 [.ref h2, .ref g2, .int v_now_inForce, .int v_now_depth, .int v_now_miss, .long v_now_ring, .int v_now_steps, .int v_now_seed]), (h2, xO 2 [.ref h3, .ref h4, .int v_now_laws_count]), (h3, xI X 6 v_now_laws_kinds), (h4, xI X 6 v_now_laws_tunes), (h5, xI X 5 u.2), (h6, xO 4 [.ref h7, .ref g3, .ref g4]), (h7, xI X 8 v_shelves_held)]) hC hr hlk trivial hf hH rfl rfl dX6_says_70
      · have hf := xt c8 hf
        refine lv_iload_n hx hb dX6_says_41 rfl (lv_at hl 0 rfl) ?_
        refine lv_iconst (v := (-1 : Int32)) hx hb dX6_says_42 (by decide) ?_
        refine lv_icmp_eq (tgt := 71) hx hb dX6_says_43 (by decide) (fun c10 => ?_) (fun c10 => ?_)
        · have hf := xt c10 hf
          exact J71 u6 hf _ _ hH ls (lv_sub hl [1, 3, 0] rfl)
        · have hf := xe c10 hf
          refine lv_aload_n hx hb dX6_says_46 rfl (lv_at hl 1 rfl) ?_
          refine x_get hC fd_RX6_10 hH.1 0 rfl rfl dX6_says_47 ?_
          refine x_getN hC fd_RX6_81 hH.1 1 rfl rfl dX6_says_50 ?_
          refine lv_iload_n hx hb dX6_says_53 rfl (lv_at hl 0 rfl) ?_
          obtain ⟨u26, hf26, hf⟩ := xb hf
          refine x_ran (x_runV (q0 := 0) (rest := []) (As := [.int u6]) hC mw_255 md_X2_kindOf (c_X2_kindOf (X := X) hf26) hH [2, 3] rfl (by decide) rfl rfl rfl hl.1 rfl rfl (Nat.le_of_ble_eq_true rfl) dX6_says_54 ⟨Nat.le_of_ble_eq_true rfl, Nat.le_of_ble_eq_true rfl⟩ ⟨rfl, rfl⟩ ⟨Nat.le_refl _, Nat.le_refl _⟩) rfl (fun hz26 => ?_)
          refine lv_iload_n hx hb dX6_says_57 rfl (lv_at hl 3 rfl) ?_
          obtain ⟨u27, hf27, hf⟩ := xb hf
          refine x_ran (x_runS (rest := []) (As := [.int u26, .int p2]) hC mw_259 md_X2_isUnder (c_X2_isUnder (X := X) hf27) hH [] rfl (by decide) hl.1 rfl rfl (Nat.le_of_ble_eq_true rfl) dX6_says_58 ⟨Nat.le_of_ble_eq_true rfl, Nat.le_of_ble_eq_true rfl⟩ ⟨rfl, rfl⟩ ⟨Nat.le_refl _, Nat.le_refl _⟩) rfl (fun hz27 => ?_)
          refine lv_if_ne (tgt := 71) hx hb dX6_says_61 (by decide) (fun c28 => ?_) (fun c28 => ?_)
          · have hf := xe c28 hf
            exact J71 u6 hf _ _ hH ls (lv_sub hl [1, 3, 0] rfl)
          · have hf := xt c28 hf
            refine lv_aload_n hx hb dX6_says_64 rfl (lv_at hl 1 rfl) ?_
            refine lv_bipush (v := (-3 : Int32)) hx hb dX6_says_65 (by decide) ?_
            obtain ⟨u29, hf29, hf⟩ := xb hf
            refine x_ranw (ws' := [(h0, xO 6 [.ref h1, .ref g0, .ref g1, .ref h6, .ref h5, .int v_isKept]), (h1, xO 0 [.ref h2, .ref g2, .int v_now_inForce, .int v_now_depth, .int v_now_miss, .long v_now_ring, .int v_now_steps, .int v_now_seed]), (h2, xO 2 [.ref h3, .ref h4, .int v_now_laws_count]), (h3, xI X 6 v_now_laws_kinds), (h4, xI X 6 v_now_laws_tunes), (h5, xI X 5 u29.2), (h6, xO 4 [.ref h7, .ref g3, .ref g4]), (h7, xI X 8 v_shelves_held)]) (x_runV (q0 := 0) (rest := []) (As := [.int (-3 : Int32)]) hC mw_100 md_X6_refuse (c_X6_refuse (X := X) hf29) hH [0, 5] rfl (by decide) rfl rfl rfl hl.1 rfl rfl (Nat.le_of_ble_eq_true rfl) dX6_says_67 ⟨Nat.le_of_ble_eq_true rfl, Nat.le_of_ble_eq_true rfl⟩ ⟨rfl, rfl⟩ ⟨Nat.le_refl _, Nat.le_refl _⟩) hH [0, 5] rfl rfl rfl rfl rfl (fun hz29 H locs hH => ?_)
            exact x_retiw (φ := fun _ => True) (f := fun u : Int32 × (Nat → Int32) => u.1) (wf := fun u : Int32 × (Nat → Int32) => [(h0, xO 6 [.ref h1, .ref g0, .ref g1, .ref h6, .ref h5, .int v_isKept]), (h1, xO 0 [.ref h2, .ref g2, .int v_now_inForce, .int v_now_depth, .int v_now_miss, .long v_now_ring, .int v_now_steps, .int v_now_seed]), (h2, xO 2 [.ref h3, .ref h4, .int v_now_laws_count]), (h3, xI X 6 v_now_laws_kinds), (h4, xI X 6 v_now_laws_tunes), (h5, xI X 5 u.2), (h6, xO 4 [.ref h7, .ref g3, .ref g4]), (h7, xI X 8 v_shelves_held)]) hC hr hlk trivial hf hH rfl rfl dX6_says_70
    · have hf := xt c5 hf
      refine lv_aload_n hx hb dX6_says_14 rfl (lv_at hl 0 rfl) ?_
      refine lv_bipush (v := (-2 : Int32)) hx hb dX6_says_15 (by decide) ?_
      obtain ⟨u30, hf30, hf⟩ := xb hf
      refine x_ranw (ws' := [(h0, xO 6 [.ref h1, .ref g0, .ref g1, .ref h6, .ref h5, .int v_isKept]), (h1, xO 0 [.ref h2, .ref g2, .int v_now_inForce, .int v_now_depth, .int v_now_miss, .long v_now_ring, .int v_now_steps, .int v_now_seed]), (h2, xO 2 [.ref h3, .ref h4, .int v_now_laws_count]), (h3, xI X 6 v_now_laws_kinds), (h4, xI X 6 v_now_laws_tunes), (h5, xI X 5 u30.2), (h6, xO 4 [.ref h7, .ref g3, .ref g4]), (h7, xI X 8 v_shelves_held)]) (x_runV (q0 := 0) (rest := []) (As := [.int (-2 : Int32)]) hC mw_100 md_X6_refuse (c_X6_refuse (X := X) hf30) hH [0, 5] rfl (by decide) rfl rfl rfl hl.1 rfl rfl (Nat.le_of_ble_eq_true rfl) dX6_says_17 ⟨Nat.le_of_ble_eq_true rfl, Nat.le_of_ble_eq_true rfl⟩ ⟨rfl, rfl⟩ ⟨Nat.le_refl _, Nat.le_refl _⟩) hH [0, 5] rfl rfl rfl rfl rfl (fun hz30 H locs hH => ?_)
      exact x_retiw (φ := fun _ => True) (f := fun u : Int32 × (Nat → Int32) => u.1) (wf := fun u : Int32 × (Nat → Int32) => [(h0, xO 6 [.ref h1, .ref g0, .ref g1, .ref h6, .ref h5, .int v_isKept]), (h1, xO 0 [.ref h2, .ref g2, .int v_now_inForce, .int v_now_depth, .int v_now_miss, .long v_now_ring, .int v_now_steps, .int v_now_seed]), (h2, xO 2 [.ref h3, .ref h4, .int v_now_laws_count]), (h3, xI X 6 v_now_laws_kinds), (h4, xI X 6 v_now_laws_tunes), (h5, xI X 5 u.2), (h6, xO 4 [.ref h7, .ref g3, .ref g4]), (h7, xI X 8 v_shelves_held)]) hC hr hlk trivial hf hH rfl rfl dX6_says_20
def f_X6_law (v_now_laws_count : Int32) (v_now_laws_kinds : (Nat → Int32)) (v_now_laws_tunes : (Nat → Int32)) (v_refusals : (Nat → Int32)) (p1 : Int32) (p2 : Int32) : Option (Int32 × Int32 × (Nat → Int32) × (Nat → Int32) × (Nat → Int32)) :=
  (f_X2_isKind p1).bind fun u1 =>
  if u1 = (nI 0) then
    (f_X6_refuse v_refusals (-2 : Int32)).bind fun u3 =>
    some (u3.1, v_now_laws_count, v_now_laws_kinds, v_now_laws_tunes, u3.2)
  else
  (f_X6_isWithin p2 (nI 0) (nI 9)).bind fun u4 =>
  if u4 = (nI 0) then
    (f_X6_refuse v_refusals (-2 : Int32)).bind fun u10 =>
    some (u10.1, v_now_laws_count, v_now_laws_kinds, v_now_laws_tunes, u10.2)
  else
  (f_X2_hasRoom v_now_laws_count).bind fun u6 =>
  if u6 = (nI 0) then
    (f_X6_refuse v_refusals (-6 : Int32)).bind fun u9 =>
    some (u9.1, v_now_laws_count, v_now_laws_kinds, v_now_laws_tunes, u9.2)
  else
  (f_X2_add v_now_laws_count v_now_laws_kinds v_now_laws_tunes p1 p2).bind fun u8 =>
  some (u8.1, u8.2.1, u8.2.2.1, u8.2.2.2, v_refusals)
set_option maxHeartbeats 4000000 in
set_option maxRecDepth 100000 in
theorem c_X6_law {l : Launch} {X : xG} {h0 h1 h2 h3 h4 h5 g0 g1 g2 g3 : Nat} {v_isKept : Int32} {v_now_inForce : Int32} {v_now_depth : Int32} {v_now_miss : Int32} {v_now_ring : Int64} {v_now_steps : Int32} {v_now_seed : Int32} {v_now_laws_count : Int32} {v_now_laws_kinds : (Nat → Int32)} {v_now_laws_tunes : (Nat → Int32)} {v_refusals : (Nat → Int32)} {p1 : Int32} {p2 : Int32} {u : Int32 × Int32 × (Nat → Int32) × (Nat → Int32) × (Nat → Int32)} (hf : f_X6_law v_now_laws_count v_now_laws_kinds v_now_laws_tunes v_refusals p1 p2 = some u) : Met l yX6_law (xw yX6_law cX6_law 3 (some .int)) (xrm 2 45) (xPc [.ref h0, .int p1, .int p2] X [(h0, xO 6 [.ref h1, .ref g0, .ref g1, .ref g2, .ref h5, .int v_isKept]), (h1, xO 0 [.ref h2, .ref g3, .int v_now_inForce, .int v_now_depth, .int v_now_miss, .long v_now_ring, .int v_now_steps, .int v_now_seed]), (h2, xO 2 [.ref h3, .ref h4, .int v_now_laws_count]), (h3, xI X 6 v_now_laws_kinds), (h4, xI X 6 v_now_laws_tunes), (h5, xI X 5 v_refusals)]) (xQw True (.returned (some (.int u.1))) X [(h0, xO 6 [.ref h1, .ref g0, .ref g1, .ref g2, .ref h5, .int v_isKept]), (h1, xO 0 [.ref h2, .ref g3, .int v_now_inForce, .int v_now_depth, .int v_now_miss, .long v_now_ring, .int v_now_steps, .int v_now_seed]), (h2, xO 2 [.ref h3, .ref h4, .int u.2.1]), (h3, xI X 6 u.2.2.1), (h4, xI X 6 u.2.2.2.1), (h5, xI X 5 u.2.2.2.2)] (xAs [(h0, xO 6 [.ref h1, .ref g0, .ref g1, .ref g2, .ref h5, .int v_isKept]), (h1, xO 0 [.ref h2, .ref g3, .int v_now_inForce, .int v_now_depth, .int v_now_miss, .long v_now_ring, .int v_now_steps, .int v_now_seed]), (h2, xO 2 [.ref h3, .ref h4, .int v_now_laws_count]), (h3, xI X 6 v_now_laws_kinds), (h4, xI X 6 v_now_laws_tunes), (h5, xI X 5 v_refusals)])) 0 0 (xAs [(h0, xO 6 [.ref h1, .ref g0, .ref g1, .ref g2, .ref h5, .int v_isKept]), (h1, xO 0 [.ref h2, .ref g3, .int v_now_inForce, .int v_now_depth, .int v_now_miss, .long v_now_ring, .int v_now_steps, .int v_now_seed]), (h2, xO 2 [.ref h3, .ref h4, .int v_now_laws_count]), (h3, xI X 6 v_now_laws_kinds), (h4, xI X 6 v_now_laws_tunes), (h5, xI X 5 v_refusals)]) := by
  refine xMetw (Qc := fun A => xQw True (.returned (some (.int u.1))) X [(h0, xO 6 [.ref h1, .ref g0, .ref g1, .ref g2, .ref h5, .int v_isKept]), (h1, xO 0 [.ref h2, .ref g3, .int v_now_inForce, .int v_now_depth, .int v_now_miss, .long v_now_ring, .int v_now_steps, .int v_now_seed]), (h2, xO 2 [.ref h3, .ref h4, .int u.2.1]), (h3, xI X 6 u.2.2.1), (h4, xI X 6 u.2.2.2.1), (h5, xI X 5 u.2.2.2.2)] A) (n := 2) md_X6_law.1 (Nat.le_of_ble_eq_true rfl) ?_
  intro p e s m args below meth c ls A hC hr hlk hH hl
  have hl : lv_has ls 3 [(0, .ref h0), (1, .int p1), (2, .int p2)] := hl
  have hx := hC.1
  have hb := hC.2.1
  refine lv_iload_n hx hb dX6_law_0 rfl (lv_at hl 1 rfl) ?_
  obtain ⟨u1, hf1, hf⟩ := xb hf
  refine x_ran (x_runS (rest := []) (As := [.int p1]) hC mw_252 md_X2_isKind (c_X2_isKind (X := X) hf1) hH [] rfl (by decide) hl.1 rfl rfl (Nat.le_of_ble_eq_true rfl) dX6_law_1 ⟨Nat.le_of_ble_eq_true rfl, Nat.le_of_ble_eq_true rfl⟩ ⟨rfl, rfl⟩ ⟨Nat.le_refl _, Nat.le_refl _⟩) rfl (fun hz1 => ?_)
  refine lv_if_eq (tgt := 17) hx hb dX6_law_4 (by decide) (fun c2 => ?_) (fun c2 => ?_)
  · have hf := xt c2 hf
    refine lv_aload_n hx hb dX6_law_17 rfl (lv_at hl 0 rfl) ?_
    refine lv_bipush (v := (-2 : Int32)) hx hb dX6_law_18 (by decide) ?_
    obtain ⟨u3, hf3, hf⟩ := xb hf
    refine x_ranw (ws' := [(h0, xO 6 [.ref h1, .ref g0, .ref g1, .ref g2, .ref h5, .int v_isKept]), (h1, xO 0 [.ref h2, .ref g3, .int v_now_inForce, .int v_now_depth, .int v_now_miss, .long v_now_ring, .int v_now_steps, .int v_now_seed]), (h2, xO 2 [.ref h3, .ref h4, .int v_now_laws_count]), (h3, xI X 6 v_now_laws_kinds), (h4, xI X 6 v_now_laws_tunes), (h5, xI X 5 u3.2)]) (x_runV (q0 := 0) (rest := []) (As := [.int (-2 : Int32)]) hC mw_100 md_X6_refuse (c_X6_refuse (X := X) hf3) hH [0, 5] rfl (by decide) rfl rfl rfl hl.1 rfl rfl (Nat.le_of_ble_eq_true rfl) dX6_law_20 ⟨Nat.le_of_ble_eq_true rfl, Nat.le_of_ble_eq_true rfl⟩ ⟨rfl, rfl⟩ ⟨Nat.le_refl _, Nat.le_refl _⟩) hH [0, 5] rfl rfl rfl rfl rfl (fun hz3 H locs hH => ?_)
    exact x_retiw (φ := fun _ => True) (f := fun u : Int32 × Int32 × (Nat → Int32) × (Nat → Int32) × (Nat → Int32) => u.1) (wf := fun u : Int32 × Int32 × (Nat → Int32) × (Nat → Int32) × (Nat → Int32) => [(h0, xO 6 [.ref h1, .ref g0, .ref g1, .ref g2, .ref h5, .int v_isKept]), (h1, xO 0 [.ref h2, .ref g3, .int v_now_inForce, .int v_now_depth, .int v_now_miss, .long v_now_ring, .int v_now_steps, .int v_now_seed]), (h2, xO 2 [.ref h3, .ref h4, .int u.2.1]), (h3, xI X 6 u.2.2.1), (h4, xI X 6 u.2.2.2.1), (h5, xI X 5 u.2.2.2.2)]) hC hr hlk trivial hf hH rfl rfl dX6_law_23
  · have hf := xe c2 hf
    refine lv_iload_n hx hb dX6_law_7 rfl (lv_at hl 2 rfl) ?_
    refine lv_iconst (v := (nI 0)) hx hb dX6_law_8 (by decide) ?_
    refine lv_bipush (v := (nI 9)) hx hb dX6_law_9 (by decide) ?_
    obtain ⟨u4, hf4, hf⟩ := xb hf
    refine x_ran (x_runS (rest := []) (As := [.int p2, .int (nI 0), .int (nI 9)]) hC mw_99 md_X6_isWithin (c_X6_isWithin (X := X) hf4) hH [] rfl (by decide) hl.1 rfl rfl (Nat.le_of_ble_eq_true rfl) dX6_law_11 ⟨Nat.le_of_ble_eq_true rfl, Nat.le_of_ble_eq_true rfl⟩ ⟨rfl, rfl⟩ ⟨Nat.le_refl _, Nat.le_refl _⟩) rfl (fun hz4 => ?_)
    refine lv_if_ne (tgt := 24) hx hb dX6_law_14 (by decide) (fun c5 => ?_) (fun c5 => ?_)
    · have hf := xe c5 hf
      refine lv_aload_n hx hb dX6_law_24 rfl (lv_at hl 0 rfl) ?_
      refine x_get hC fd_RX6_10 hH.1 0 rfl rfl dX6_law_25 ?_
      refine x_getN hC fd_RX6_81 hH.1 1 rfl rfl dX6_law_28 ?_
      obtain ⟨u6, hf6, hf⟩ := xb hf
      refine x_ran (x_runV (q0 := 0) (rest := []) (As := []) hC mw_347 md_X2_hasRoom (c_X2_hasRoom (X := X) hf6) hH [2] rfl (by decide) rfl rfl rfl hl.1 rfl rfl (Nat.le_of_ble_eq_true rfl) dX6_law_31 ⟨Nat.le_of_ble_eq_true rfl, Nat.le_of_ble_eq_true rfl⟩ ⟨rfl, rfl⟩ ⟨Nat.le_refl _, Nat.le_refl _⟩) rfl (fun hz6 => ?_)
      refine lv_if_ne (tgt := 44) hx hb dX6_law_34 (by decide) (fun c7 => ?_) (fun c7 => ?_)
      · have hf := xe c7 hf
        refine lv_aload_n hx hb dX6_law_44 rfl (lv_at hl 0 rfl) ?_
        refine x_get hC fd_RX6_10 hH.1 0 rfl rfl dX6_law_45 ?_
        refine x_getN hC fd_RX6_81 hH.1 1 rfl rfl dX6_law_48 ?_
        refine lv_iload_n hx hb dX6_law_51 rfl (lv_at hl 1 rfl) ?_
        refine lv_iload_n hx hb dX6_law_52 rfl (lv_at hl 2 rfl) ?_
        obtain ⟨u8, hf8, hf⟩ := xb hf
        refine x_ranw (ws' := [(h0, xO 6 [.ref h1, .ref g0, .ref g1, .ref g2, .ref h5, .int v_isKept]), (h1, xO 0 [.ref h2, .ref g3, .int v_now_inForce, .int v_now_depth, .int v_now_miss, .long v_now_ring, .int v_now_steps, .int v_now_seed]), (h2, xO 2 [.ref h3, .ref h4, .int u8.2.1]), (h3, xI X 6 u8.2.2.1), (h4, xI X 6 u8.2.2.2), (h5, xI X 5 v_refusals)]) (x_runV (q0 := 0) (rest := []) (As := [.int p1, .int p2]) hC mw_351 md_X2_add (c_X2_add (X := X) hf8) hH [2, 3, 4] rfl (by decide) rfl rfl rfl hl.1 rfl rfl (Nat.le_of_ble_eq_true rfl) dX6_law_53 ⟨Nat.le_of_ble_eq_true rfl, Nat.le_of_ble_eq_true rfl⟩ ⟨rfl, rfl⟩ ⟨Nat.le_refl _, Nat.le_refl _⟩) hH [2, 3, 4] rfl rfl rfl rfl rfl (fun hz8 H locs hH => ?_)
        exact x_retiw (φ := fun _ => True) (f := fun u : Int32 × Int32 × (Nat → Int32) × (Nat → Int32) × (Nat → Int32) => u.1) (wf := fun u : Int32 × Int32 × (Nat → Int32) × (Nat → Int32) × (Nat → Int32) => [(h0, xO 6 [.ref h1, .ref g0, .ref g1, .ref g2, .ref h5, .int v_isKept]), (h1, xO 0 [.ref h2, .ref g3, .int v_now_inForce, .int v_now_depth, .int v_now_miss, .long v_now_ring, .int v_now_steps, .int v_now_seed]), (h2, xO 2 [.ref h3, .ref h4, .int u.2.1]), (h3, xI X 6 u.2.2.1), (h4, xI X 6 u.2.2.2.1), (h5, xI X 5 u.2.2.2.2)]) hC hr hlk trivial hf hH rfl rfl dX6_law_56
      · have hf := xt c7 hf
        refine lv_aload_n hx hb dX6_law_37 rfl (lv_at hl 0 rfl) ?_
        refine lv_bipush (v := (-6 : Int32)) hx hb dX6_law_38 (by decide) ?_
        obtain ⟨u9, hf9, hf⟩ := xb hf
        refine x_ranw (ws' := [(h0, xO 6 [.ref h1, .ref g0, .ref g1, .ref g2, .ref h5, .int v_isKept]), (h1, xO 0 [.ref h2, .ref g3, .int v_now_inForce, .int v_now_depth, .int v_now_miss, .long v_now_ring, .int v_now_steps, .int v_now_seed]), (h2, xO 2 [.ref h3, .ref h4, .int v_now_laws_count]), (h3, xI X 6 v_now_laws_kinds), (h4, xI X 6 v_now_laws_tunes), (h5, xI X 5 u9.2)]) (x_runV (q0 := 0) (rest := []) (As := [.int (-6 : Int32)]) hC mw_100 md_X6_refuse (c_X6_refuse (X := X) hf9) hH [0, 5] rfl (by decide) rfl rfl rfl hl.1 rfl rfl (Nat.le_of_ble_eq_true rfl) dX6_law_40 ⟨Nat.le_of_ble_eq_true rfl, Nat.le_of_ble_eq_true rfl⟩ ⟨rfl, rfl⟩ ⟨Nat.le_refl _, Nat.le_refl _⟩) hH [0, 5] rfl rfl rfl rfl rfl (fun hz9 H locs hH => ?_)
        exact x_retiw (φ := fun _ => True) (f := fun u : Int32 × Int32 × (Nat → Int32) × (Nat → Int32) × (Nat → Int32) => u.1) (wf := fun u : Int32 × Int32 × (Nat → Int32) × (Nat → Int32) × (Nat → Int32) => [(h0, xO 6 [.ref h1, .ref g0, .ref g1, .ref g2, .ref h5, .int v_isKept]), (h1, xO 0 [.ref h2, .ref g3, .int v_now_inForce, .int v_now_depth, .int v_now_miss, .long v_now_ring, .int v_now_steps, .int v_now_seed]), (h2, xO 2 [.ref h3, .ref h4, .int u.2.1]), (h3, xI X 6 u.2.2.1), (h4, xI X 6 u.2.2.2.1), (h5, xI X 5 u.2.2.2.2)]) hC hr hlk trivial hf hH rfl rfl dX6_law_43
    · have hf := xt c5 hf
      refine lv_aload_n hx hb dX6_law_17 rfl (lv_at hl 0 rfl) ?_
      refine lv_bipush (v := (-2 : Int32)) hx hb dX6_law_18 (by decide) ?_
      obtain ⟨u10, hf10, hf⟩ := xb hf
      refine x_ranw (ws' := [(h0, xO 6 [.ref h1, .ref g0, .ref g1, .ref g2, .ref h5, .int v_isKept]), (h1, xO 0 [.ref h2, .ref g3, .int v_now_inForce, .int v_now_depth, .int v_now_miss, .long v_now_ring, .int v_now_steps, .int v_now_seed]), (h2, xO 2 [.ref h3, .ref h4, .int v_now_laws_count]), (h3, xI X 6 v_now_laws_kinds), (h4, xI X 6 v_now_laws_tunes), (h5, xI X 5 u10.2)]) (x_runV (q0 := 0) (rest := []) (As := [.int (-2 : Int32)]) hC mw_100 md_X6_refuse (c_X6_refuse (X := X) hf10) hH [0, 5] rfl (by decide) rfl rfl rfl hl.1 rfl rfl (Nat.le_of_ble_eq_true rfl) dX6_law_20 ⟨Nat.le_of_ble_eq_true rfl, Nat.le_of_ble_eq_true rfl⟩ ⟨rfl, rfl⟩ ⟨Nat.le_refl _, Nat.le_refl _⟩) hH [0, 5] rfl rfl rfl rfl rfl (fun hz10 H locs hH => ?_)
      exact x_retiw (φ := fun _ => True) (f := fun u : Int32 × Int32 × (Nat → Int32) × (Nat → Int32) × (Nat → Int32) => u.1) (wf := fun u : Int32 × Int32 × (Nat → Int32) × (Nat → Int32) × (Nat → Int32) => [(h0, xO 6 [.ref h1, .ref g0, .ref g1, .ref g2, .ref h5, .int v_isKept]), (h1, xO 0 [.ref h2, .ref g3, .int v_now_inForce, .int v_now_depth, .int v_now_miss, .long v_now_ring, .int v_now_steps, .int v_now_seed]), (h2, xO 2 [.ref h3, .ref h4, .int u.2.1]), (h3, xI X 6 u.2.2.1), (h4, xI X 6 u.2.2.2.1), (h5, xI X 5 u.2.2.2.2)]) hC hr hlk trivial hf hH rfl rfl dX6_law_23
def f_X6_use (v_now_inForce : Int32) (v_now_laws_count : Int32) (v_refusals : (Nat → Int32)) (p1 : Int32) : Option (Int32 × Int32 × (Nat → Int32)) :=
  (f_X2_isThere v_now_laws_count p1).bind fun u1 =>
  if u1 = (nI 0) then
    (f_X6_refuse v_refusals (-2 : Int32)).bind fun u3 =>
    some (u3.1, v_now_inForce, u3.2)
  else
  some (v_now_inForce, p1, v_refusals)
set_option maxHeartbeats 4000000 in
set_option maxRecDepth 100000 in
theorem c_X6_use {l : Launch} {X : xG} {h0 h1 h2 h3 g0 g1 g2 g3 g4 g5 : Nat} {v_isKept : Int32} {v_now_inForce : Int32} {v_now_depth : Int32} {v_now_miss : Int32} {v_now_ring : Int64} {v_now_steps : Int32} {v_now_seed : Int32} {v_now_laws_count : Int32} {v_refusals : (Nat → Int32)} {p1 : Int32} {u : Int32 × Int32 × (Nat → Int32)} (hf : f_X6_use v_now_inForce v_now_laws_count v_refusals p1 = some u) : Met l yX6_use (xw yX6_use cX6_use 3 (some .int)) (xrm 2 43) (xPc [.ref h0, .int p1] X [(h0, xO 6 [.ref h1, .ref g0, .ref g1, .ref g2, .ref h3, .int v_isKept]), (h1, xO 0 [.ref h2, .ref g3, .int v_now_inForce, .int v_now_depth, .int v_now_miss, .long v_now_ring, .int v_now_steps, .int v_now_seed]), (h2, xO 2 [.ref g4, .ref g5, .int v_now_laws_count]), (h3, xI X 5 v_refusals)]) (xQw True (.returned (some (.int u.1))) X [(h0, xO 6 [.ref h1, .ref g0, .ref g1, .ref g2, .ref h3, .int v_isKept]), (h1, xO 0 [.ref h2, .ref g3, .int u.2.1, .int v_now_depth, .int v_now_miss, .long v_now_ring, .int v_now_steps, .int v_now_seed]), (h2, xO 2 [.ref g4, .ref g5, .int v_now_laws_count]), (h3, xI X 5 u.2.2)] (xAs [(h0, xO 6 [.ref h1, .ref g0, .ref g1, .ref g2, .ref h3, .int v_isKept]), (h1, xO 0 [.ref h2, .ref g3, .int v_now_inForce, .int v_now_depth, .int v_now_miss, .long v_now_ring, .int v_now_steps, .int v_now_seed]), (h2, xO 2 [.ref g4, .ref g5, .int v_now_laws_count]), (h3, xI X 5 v_refusals)])) 0 0 (xAs [(h0, xO 6 [.ref h1, .ref g0, .ref g1, .ref g2, .ref h3, .int v_isKept]), (h1, xO 0 [.ref h2, .ref g3, .int v_now_inForce, .int v_now_depth, .int v_now_miss, .long v_now_ring, .int v_now_steps, .int v_now_seed]), (h2, xO 2 [.ref g4, .ref g5, .int v_now_laws_count]), (h3, xI X 5 v_refusals)]) := by
  refine xMetw (Qc := fun A => xQw True (.returned (some (.int u.1))) X [(h0, xO 6 [.ref h1, .ref g0, .ref g1, .ref g2, .ref h3, .int v_isKept]), (h1, xO 0 [.ref h2, .ref g3, .int u.2.1, .int v_now_depth, .int v_now_miss, .long v_now_ring, .int v_now_steps, .int v_now_seed]), (h2, xO 2 [.ref g4, .ref g5, .int v_now_laws_count]), (h3, xI X 5 u.2.2)] A) (n := 1) md_X6_use.1 (Nat.le_of_ble_eq_true rfl) ?_
  intro p e s m args below meth c ls A hC hr hlk hH hl
  have hl : lv_has ls 3 [(0, .ref h0), (1, .int p1)] := hl
  have hx := hC.1
  have hb := hC.2.1
  refine lv_aload_n hx hb dX6_use_0 rfl (lv_at hl 0 rfl) ?_
  refine x_get hC fd_RX6_10 hH.1 0 rfl rfl dX6_use_1 ?_
  refine x_getN hC fd_RX6_81 hH.1 1 rfl rfl dX6_use_4 ?_
  refine lv_iload_n hx hb dX6_use_7 rfl (lv_at hl 1 rfl) ?_
  obtain ⟨u1, hf1, hf⟩ := xb hf
  refine x_ran (x_runV (q0 := 0) (rest := []) (As := [.int p1]) hC mw_226 md_X2_isThere (c_X2_isThere (X := X) hf1) hH [2] rfl (by decide) rfl rfl rfl hl.1 rfl rfl (Nat.le_of_ble_eq_true rfl) dX6_use_8 ⟨Nat.le_of_ble_eq_true rfl, Nat.le_of_ble_eq_true rfl⟩ ⟨rfl, rfl⟩ ⟨Nat.le_refl _, Nat.le_refl _⟩) rfl (fun hz1 => ?_)
  refine lv_if_ne (tgt := 21) hx hb dX6_use_11 (by decide) (fun c2 => ?_) (fun c2 => ?_)
  · have hf := xe c2 hf
    refine lv_aload_n hx hb dX6_use_21 rfl (lv_at hl 0 rfl) ?_
    refine x_get hC fd_RX6_10 hH.1 0 rfl rfl dX6_use_22 ?_
    refine x_getN hC fd_RX6_135 hH.1 1 rfl rfl dX6_use_25 ?_
    refine lv_istore_n (lv' := [(2, .int v_now_inForce), (0, .ref h0), (1, .int p1)]) hx hb dX6_use_28 rfl hl (by decide) rfl (fun ls hl => ?_)
    refine lv_aload_n hx hb dX6_use_29 rfl (lv_at hl 1 rfl) ?_
    refine x_get hC fd_RX6_10 hH.1 0 rfl rfl dX6_use_30 ?_
    refine lv_iload_n hx hb dX6_use_33 rfl (lv_at hl 2 rfl) ?_
    refine x_putN (ws' := [(h0, xO 6 [.ref h1, .ref g0, .ref g1, .ref g2, .ref h3, .int v_isKept]), (h1, xO 0 [.ref h2, .ref g3, .int p1, .int v_now_depth, .int v_now_miss, .long v_now_ring, .int v_now_steps, .int v_now_seed]), (h2, xO 2 [.ref g4, .ref g5, .int v_now_laws_count]), (h3, xI X 5 v_refusals)]) hC fd_RX6_135 hH 1 rfl (Nat.le_of_ble_eq_true rfl) rfl rfl dX6_use_34 rfl (fun H locs hH => ?_)
    refine lv_iload_n hx hb dX6_use_37 rfl (lv_at hl 0 rfl) ?_
    exact x_retiw (φ := fun _ => True) (f := fun u : Int32 × Int32 × (Nat → Int32) => u.1) (wf := fun u : Int32 × Int32 × (Nat → Int32) => [(h0, xO 6 [.ref h1, .ref g0, .ref g1, .ref g2, .ref h3, .int v_isKept]), (h1, xO 0 [.ref h2, .ref g3, .int u.2.1, .int v_now_depth, .int v_now_miss, .long v_now_ring, .int v_now_steps, .int v_now_seed]), (h2, xO 2 [.ref g4, .ref g5, .int v_now_laws_count]), (h3, xI X 5 u.2.2)]) hC hr hlk trivial hf hH rfl rfl dX6_use_38
  · have hf := xt c2 hf
    refine lv_aload_n hx hb dX6_use_14 rfl (lv_at hl 0 rfl) ?_
    refine lv_bipush (v := (-2 : Int32)) hx hb dX6_use_15 (by decide) ?_
    obtain ⟨u3, hf3, hf⟩ := xb hf
    refine x_ranw (ws' := [(h0, xO 6 [.ref h1, .ref g0, .ref g1, .ref g2, .ref h3, .int v_isKept]), (h1, xO 0 [.ref h2, .ref g3, .int v_now_inForce, .int v_now_depth, .int v_now_miss, .long v_now_ring, .int v_now_steps, .int v_now_seed]), (h2, xO 2 [.ref g4, .ref g5, .int v_now_laws_count]), (h3, xI X 5 u3.2)]) (x_runV (q0 := 0) (rest := []) (As := [.int (-2 : Int32)]) hC mw_100 md_X6_refuse (c_X6_refuse (X := X) hf3) hH [0, 3] rfl (by decide) rfl rfl rfl hl.1 rfl rfl (Nat.le_of_ble_eq_true rfl) dX6_use_17 ⟨Nat.le_of_ble_eq_true rfl, Nat.le_of_ble_eq_true rfl⟩ ⟨rfl, rfl⟩ ⟨Nat.le_refl _, Nat.le_refl _⟩) hH [0, 3] rfl rfl rfl rfl rfl (fun hz3 H locs hH => ?_)
    exact x_retiw (φ := fun _ => True) (f := fun u : Int32 × Int32 × (Nat → Int32) => u.1) (wf := fun u : Int32 × Int32 × (Nat → Int32) => [(h0, xO 6 [.ref h1, .ref g0, .ref g1, .ref g2, .ref h3, .int v_isKept]), (h1, xO 0 [.ref h2, .ref g3, .int u.2.1, .int v_now_depth, .int v_now_miss, .long v_now_ring, .int v_now_steps, .int v_now_seed]), (h2, xO 2 [.ref g4, .ref g5, .int v_now_laws_count]), (h3, xI X 5 u.2.2)]) hC hr hlk trivial hf hH rfl rfl dX6_use_20
def f_X6_ask_J56 (v_now_depth : Int32) (v_now_miss : Int32) (v_refusals : (Nat → Int32)) (p1 : Int32) (p2 : Int32) (j56_s0 : Int32) : Option (Int32 × Int32 × Int32 × (Nat → Int32)) :=
  if p1 = (nI 0) then
    some (j56_s0, p2, v_now_miss, v_refusals)
  else
  some (j56_s0, v_now_depth, p2, v_refusals)
def f_X6_ask_J22 (v_now_depth : Int32) (v_now_miss : Int32) (v_refusals : (Nat → Int32)) (p1 : Int32) (p2 : Int32) (j22_s0 : Int32) (j22_s1 : Int32) (j22_s2 : Int32) : Option (Int32 × Int32 × Int32 × (Nat → Int32)) :=
  (f_X6_isWithin j22_s0 j22_s1 j22_s2).bind fun u5 =>
  if u5 = (nI 0) then
    (f_X6_refuse v_refusals (-2 : Int32)).bind fun u9 =>
    some (u9.1, v_now_depth, v_now_miss, u9.2)
  else
  if p1 = (nI 0) then
    f_X6_ask_J56 v_now_depth v_now_miss v_refusals p1 p2 v_now_depth
  else
  f_X6_ask_J56 v_now_depth v_now_miss v_refusals p1 p2 v_now_miss
def f_X6_ask (v_now_depth : Int32) (v_now_miss : Int32) (v_refusals : (Nat → Int32)) (p1 : Int32) (p2 : Int32) : Option (Int32 × Int32 × Int32 × (Nat → Int32)) :=
  (f_X6_isWithin p1 (nI 0) (nI 1)).bind fun u1 =>
  if u1 = (nI 0) then
    (f_X6_refuse v_refusals (-2 : Int32)).bind fun u3 =>
    some (u3.1, v_now_depth, v_now_miss, u3.2)
  else
  if p1 = (nI 0) then
    f_X6_ask_J22 v_now_depth v_now_miss v_refusals p1 p2 p2 (nI 0) (nI 9)
  else
  f_X6_ask_J22 v_now_depth v_now_miss v_refusals p1 p2 p2 (nI 0) (nI 100)
set_option maxHeartbeats 4000000 in
set_option maxRecDepth 100000 in
theorem c_X6_ask {l : Launch} {X : xG} {h0 h1 h2 g0 g1 g2 g3 g4 : Nat} {v_isKept : Int32} {v_now_inForce : Int32} {v_now_depth : Int32} {v_now_miss : Int32} {v_now_ring : Int64} {v_now_steps : Int32} {v_now_seed : Int32} {v_refusals : (Nat → Int32)} {p1 : Int32} {p2 : Int32} {u : Int32 × Int32 × Int32 × (Nat → Int32)} (hf : f_X6_ask v_now_depth v_now_miss v_refusals p1 p2 = some u) : Met l yX6_ask (xw yX6_ask cX6_ask 4 (some .int)) (xrm 1 22) (xPc [.ref h0, .int p1, .int p2] X [(h0, xO 6 [.ref h1, .ref g0, .ref g1, .ref g2, .ref h2, .int v_isKept]), (h1, xO 0 [.ref g3, .ref g4, .int v_now_inForce, .int v_now_depth, .int v_now_miss, .long v_now_ring, .int v_now_steps, .int v_now_seed]), (h2, xI X 5 v_refusals)]) (xQw True (.returned (some (.int u.1))) X [(h0, xO 6 [.ref h1, .ref g0, .ref g1, .ref g2, .ref h2, .int v_isKept]), (h1, xO 0 [.ref g3, .ref g4, .int v_now_inForce, .int u.2.1, .int u.2.2.1, .long v_now_ring, .int v_now_steps, .int v_now_seed]), (h2, xI X 5 u.2.2.2)] (xAs [(h0, xO 6 [.ref h1, .ref g0, .ref g1, .ref g2, .ref h2, .int v_isKept]), (h1, xO 0 [.ref g3, .ref g4, .int v_now_inForce, .int v_now_depth, .int v_now_miss, .long v_now_ring, .int v_now_steps, .int v_now_seed]), (h2, xI X 5 v_refusals)])) 0 0 (xAs [(h0, xO 6 [.ref h1, .ref g0, .ref g1, .ref g2, .ref h2, .int v_isKept]), (h1, xO 0 [.ref g3, .ref g4, .int v_now_inForce, .int v_now_depth, .int v_now_miss, .long v_now_ring, .int v_now_steps, .int v_now_seed]), (h2, xI X 5 v_refusals)]) := by
  refine xMetw (Qc := fun A => xQw True (.returned (some (.int u.1))) X [(h0, xO 6 [.ref h1, .ref g0, .ref g1, .ref g2, .ref h2, .int v_isKept]), (h1, xO 0 [.ref g3, .ref g4, .int v_now_inForce, .int u.2.1, .int u.2.2.1, .long v_now_ring, .int v_now_steps, .int v_now_seed]), (h2, xI X 5 u.2.2.2)] A) (n := 2) md_X6_ask.1 (Nat.le_of_ble_eq_true rfl) ?_
  intro p e s m args below meth c ls A hC hr hlk hH hl
  have hl : lv_has ls 4 [(0, .ref h0), (1, .int p1), (2, .int p2)] := hl
  have hx := hC.1
  have hb := hC.2.1
  have J56 : ∀ (j56_s0 : Int32), f_X6_ask_J56 v_now_depth v_now_miss v_refusals p1 p2 j56_s0 = some u → ∀ (H : Heap) (locs : List Loc), xH X A [(h0, xO 6 [.ref h1, .ref g0, .ref g1, .ref g2, .ref h2, .int v_isKept]), (h1, xO 0 [.ref g3, .ref g4, .int v_now_inForce, .int v_now_depth, .int v_now_miss, .long v_now_ring, .int v_now_steps, .int v_now_seed]), (h2, xI X 5 v_refusals)] s.heap H locs → ∀ (ls : Array Slot), lv_has ls 4 [(0, .ref h0), (1, .int p1), (2, .int p2)] → W p l e (xrm 1 22) s m args below meth c H locs 0 0 (MQ below (xQw True (.returned (some (.int u.1))) X [(h0, xO 6 [.ref h1, .ref g0, .ref g1, .ref g2, .ref h2, .int v_isKept]), (h1, xO 0 [.ref g3, .ref g4, .int v_now_inForce, .int u.2.1, .int u.2.2.1, .long v_now_ring, .int v_now_steps, .int v_now_seed]), (h2, xI X 5 u.2.2.2)] A) args s 0 0 A) (F0 m 56 ls [.int j56_s0]) := by
    intro j56_s0 hf H locs hH ls hl
    refine lv_istore_n (lv' := [(3, .int j56_s0), (0, .ref h0), (1, .int p1), (2, .int p2)]) hx hb dX6_ask_56 rfl hl (by decide) rfl (fun ls hl => ?_)
    refine lv_iload_n hx hb dX6_ask_57 rfl (lv_at hl 2 rfl) ?_
    refine lv_if_ne (tgt := 72) hx hb dX6_ask_58 (by decide) (fun c8 => ?_) (fun c8 => ?_)
    · have hf := xe c8 hf
      refine lv_aload_n hx hb dX6_ask_72 rfl (lv_at hl 1 rfl) ?_
      refine x_get hC fd_RX6_10 hH.1 0 rfl rfl dX6_ask_73 ?_
      refine lv_iload_n hx hb dX6_ask_76 rfl (lv_at hl 3 rfl) ?_
      refine x_putN (ws' := [(h0, xO 6 [.ref h1, .ref g0, .ref g1, .ref g2, .ref h2, .int v_isKept]), (h1, xO 0 [.ref g3, .ref g4, .int v_now_inForce, .int v_now_depth, .int p2, .long v_now_ring, .int v_now_steps, .int v_now_seed]), (h2, xI X 5 v_refusals)]) hC fd_RX6_142 hH 1 rfl (Nat.le_of_ble_eq_true rfl) rfl rfl dX6_ask_77 rfl (fun H locs hH => ?_)
      refine lv_iload_n hx hb dX6_ask_80 rfl (lv_at hl 0 rfl) ?_
      exact x_retiw (φ := fun _ => True) (f := fun u : Int32 × Int32 × Int32 × (Nat → Int32) => u.1) (wf := fun u : Int32 × Int32 × Int32 × (Nat → Int32) => [(h0, xO 6 [.ref h1, .ref g0, .ref g1, .ref g2, .ref h2, .int v_isKept]), (h1, xO 0 [.ref g3, .ref g4, .int v_now_inForce, .int u.2.1, .int u.2.2.1, .long v_now_ring, .int v_now_steps, .int v_now_seed]), (h2, xI X 5 u.2.2.2)]) hC hr hlk trivial hf hH rfl rfl dX6_ask_81
    · have hf := xt c8 hf
      refine lv_aload_n hx hb dX6_ask_61 rfl (lv_at hl 1 rfl) ?_
      refine x_get hC fd_RX6_10 hH.1 0 rfl rfl dX6_ask_62 ?_
      refine lv_iload_n hx hb dX6_ask_65 rfl (lv_at hl 3 rfl) ?_
      refine x_putN (ws' := [(h0, xO 6 [.ref h1, .ref g0, .ref g1, .ref g2, .ref h2, .int v_isKept]), (h1, xO 0 [.ref g3, .ref g4, .int v_now_inForce, .int p2, .int v_now_miss, .long v_now_ring, .int v_now_steps, .int v_now_seed]), (h2, xI X 5 v_refusals)]) hC fd_RX6_139 hH 1 rfl (Nat.le_of_ble_eq_true rfl) rfl rfl dX6_ask_66 rfl (fun H locs hH => ?_)
      refine lv_goto (tgt := 80) hx hb dX6_ask_69 (by decide) ?_
      refine lv_iload_n hx hb dX6_ask_80 rfl (lv_at hl 0 rfl) ?_
      exact x_retiw (φ := fun _ => True) (f := fun u : Int32 × Int32 × Int32 × (Nat → Int32) => u.1) (wf := fun u : Int32 × Int32 × Int32 × (Nat → Int32) => [(h0, xO 6 [.ref h1, .ref g0, .ref g1, .ref g2, .ref h2, .int v_isKept]), (h1, xO 0 [.ref g3, .ref g4, .int v_now_inForce, .int u.2.1, .int u.2.2.1, .long v_now_ring, .int v_now_steps, .int v_now_seed]), (h2, xI X 5 u.2.2.2)]) hC hr hlk trivial hf hH rfl rfl dX6_ask_81
  have J22 : ∀ (j22_s0 : Int32) (j22_s1 : Int32) (j22_s2 : Int32), f_X6_ask_J22 v_now_depth v_now_miss v_refusals p1 p2 j22_s0 j22_s1 j22_s2 = some u → ∀ (H : Heap) (locs : List Loc), xH X A [(h0, xO 6 [.ref h1, .ref g0, .ref g1, .ref g2, .ref h2, .int v_isKept]), (h1, xO 0 [.ref g3, .ref g4, .int v_now_inForce, .int v_now_depth, .int v_now_miss, .long v_now_ring, .int v_now_steps, .int v_now_seed]), (h2, xI X 5 v_refusals)] s.heap H locs → ∀ (ls : Array Slot), lv_has ls 4 [(0, .ref h0), (1, .int p1), (2, .int p2)] → W p l e (xrm 1 22) s m args below meth c H locs 0 0 (MQ below (xQw True (.returned (some (.int u.1))) X [(h0, xO 6 [.ref h1, .ref g0, .ref g1, .ref g2, .ref h2, .int v_isKept]), (h1, xO 0 [.ref g3, .ref g4, .int v_now_inForce, .int u.2.1, .int u.2.2.1, .long v_now_ring, .int v_now_steps, .int v_now_seed]), (h2, xI X 5 u.2.2.2)] A) args s 0 0 A) (F0 m 22 ls [.int j22_s2, .int j22_s1, .int j22_s0]) := by
    intro j22_s0 j22_s1 j22_s2 hf H locs hH ls hl
    obtain ⟨u5, hf5, hf⟩ := xb hf
    refine x_ran (x_runS (rest := []) (As := [.int j22_s0, .int j22_s1, .int j22_s2]) hC mw_99 md_X6_isWithin (c_X6_isWithin (X := X) hf5) hH [] rfl (by decide) hl.1 rfl rfl (Nat.le_of_ble_eq_true rfl) dX6_ask_22 ⟨Nat.le_of_ble_eq_true rfl, Nat.le_of_ble_eq_true rfl⟩ ⟨rfl, rfl⟩ ⟨Nat.le_refl _, Nat.le_refl _⟩) rfl (fun hz5 => ?_)
    refine lv_if_ne (tgt := 35) hx hb dX6_ask_25 (by decide) (fun c6 => ?_) (fun c6 => ?_)
    · have hf := xe c6 hf
      refine lv_iload_n hx hb dX6_ask_35 rfl (lv_at hl 1 rfl) ?_
      refine lv_if_ne (tgt := 49) hx hb dX6_ask_36 (by decide) (fun c7 => ?_) (fun c7 => ?_)
      · have hf := xe c7 hf
        refine lv_aload_n hx hb dX6_ask_49 rfl (lv_at hl 0 rfl) ?_
        refine x_get hC fd_RX6_10 hH.1 0 rfl rfl dX6_ask_50 ?_
        refine x_getN hC fd_RX6_142 hH.1 1 rfl rfl dX6_ask_53 ?_
        exact J56 v_now_miss hf _ _ hH ls (lv_sub hl [0, 1, 2] rfl)
      · have hf := xt c7 hf
        refine lv_aload_n hx hb dX6_ask_39 rfl (lv_at hl 0 rfl) ?_
        refine x_get hC fd_RX6_10 hH.1 0 rfl rfl dX6_ask_40 ?_
        refine x_getN hC fd_RX6_139 hH.1 1 rfl rfl dX6_ask_43 ?_
        refine lv_goto (tgt := 56) hx hb dX6_ask_46 (by decide) ?_
        exact J56 v_now_depth hf _ _ hH ls (lv_sub hl [0, 1, 2] rfl)
    · have hf := xt c6 hf
      refine lv_aload_n hx hb dX6_ask_28 rfl (lv_at hl 0 rfl) ?_
      refine lv_bipush (v := (-2 : Int32)) hx hb dX6_ask_29 (by decide) ?_
      obtain ⟨u9, hf9, hf⟩ := xb hf
      refine x_ranw (ws' := [(h0, xO 6 [.ref h1, .ref g0, .ref g1, .ref g2, .ref h2, .int v_isKept]), (h1, xO 0 [.ref g3, .ref g4, .int v_now_inForce, .int v_now_depth, .int v_now_miss, .long v_now_ring, .int v_now_steps, .int v_now_seed]), (h2, xI X 5 u9.2)]) (x_runV (q0 := 0) (rest := []) (As := [.int (-2 : Int32)]) hC mw_100 md_X6_refuse (c_X6_refuse (X := X) hf9) hH [0, 2] rfl (by decide) rfl rfl rfl hl.1 rfl rfl (Nat.le_of_ble_eq_true rfl) dX6_ask_31 ⟨Nat.le_of_ble_eq_true rfl, Nat.le_of_ble_eq_true rfl⟩ ⟨rfl, rfl⟩ ⟨Nat.le_refl _, Nat.le_refl _⟩) hH [0, 2] rfl rfl rfl rfl rfl (fun hz9 H locs hH => ?_)
      exact x_retiw (φ := fun _ => True) (f := fun u : Int32 × Int32 × Int32 × (Nat → Int32) => u.1) (wf := fun u : Int32 × Int32 × Int32 × (Nat → Int32) => [(h0, xO 6 [.ref h1, .ref g0, .ref g1, .ref g2, .ref h2, .int v_isKept]), (h1, xO 0 [.ref g3, .ref g4, .int v_now_inForce, .int u.2.1, .int u.2.2.1, .long v_now_ring, .int v_now_steps, .int v_now_seed]), (h2, xI X 5 u.2.2.2)]) hC hr hlk trivial hf hH rfl rfl dX6_ask_34
  refine lv_iload_n hx hb dX6_ask_0 rfl (lv_at hl 1 rfl) ?_
  refine lv_iconst (v := (nI 0)) hx hb dX6_ask_1 (by decide) ?_
  refine lv_iconst (v := (nI 1)) hx hb dX6_ask_2 (by decide) ?_
  obtain ⟨u1, hf1, hf⟩ := xb hf
  refine x_ran (x_runS (rest := []) (As := [.int p1, .int (nI 0), .int (nI 1)]) hC mw_99 md_X6_isWithin (c_X6_isWithin (X := X) hf1) hH [] rfl (by decide) hl.1 rfl rfl (Nat.le_of_ble_eq_true rfl) dX6_ask_3 ⟨Nat.le_of_ble_eq_true rfl, Nat.le_of_ble_eq_true rfl⟩ ⟨rfl, rfl⟩ ⟨Nat.le_refl _, Nat.le_refl _⟩) rfl (fun hz1 => ?_)
  refine lv_if_eq (tgt := 28) hx hb dX6_ask_6 (by decide) (fun c2 => ?_) (fun c2 => ?_)
  · have hf := xt c2 hf
    refine lv_aload_n hx hb dX6_ask_28 rfl (lv_at hl 0 rfl) ?_
    refine lv_bipush (v := (-2 : Int32)) hx hb dX6_ask_29 (by decide) ?_
    obtain ⟨u3, hf3, hf⟩ := xb hf
    refine x_ranw (ws' := [(h0, xO 6 [.ref h1, .ref g0, .ref g1, .ref g2, .ref h2, .int v_isKept]), (h1, xO 0 [.ref g3, .ref g4, .int v_now_inForce, .int v_now_depth, .int v_now_miss, .long v_now_ring, .int v_now_steps, .int v_now_seed]), (h2, xI X 5 u3.2)]) (x_runV (q0 := 0) (rest := []) (As := [.int (-2 : Int32)]) hC mw_100 md_X6_refuse (c_X6_refuse (X := X) hf3) hH [0, 2] rfl (by decide) rfl rfl rfl hl.1 rfl rfl (Nat.le_of_ble_eq_true rfl) dX6_ask_31 ⟨Nat.le_of_ble_eq_true rfl, Nat.le_of_ble_eq_true rfl⟩ ⟨rfl, rfl⟩ ⟨Nat.le_refl _, Nat.le_refl _⟩) hH [0, 2] rfl rfl rfl rfl rfl (fun hz3 H locs hH => ?_)
    exact x_retiw (φ := fun _ => True) (f := fun u : Int32 × Int32 × Int32 × (Nat → Int32) => u.1) (wf := fun u : Int32 × Int32 × Int32 × (Nat → Int32) => [(h0, xO 6 [.ref h1, .ref g0, .ref g1, .ref g2, .ref h2, .int v_isKept]), (h1, xO 0 [.ref g3, .ref g4, .int v_now_inForce, .int u.2.1, .int u.2.2.1, .long v_now_ring, .int v_now_steps, .int v_now_seed]), (h2, xI X 5 u.2.2.2)]) hC hr hlk trivial hf hH rfl rfl dX6_ask_34
  · have hf := xe c2 hf
    refine lv_iload_n hx hb dX6_ask_9 rfl (lv_at hl 2 rfl) ?_
    refine lv_iconst (v := (nI 0)) hx hb dX6_ask_10 (by decide) ?_
    refine lv_iload_n hx hb dX6_ask_11 rfl (lv_at hl 1 rfl) ?_
    refine lv_if_ne (tgt := 20) hx hb dX6_ask_12 (by decide) (fun c4 => ?_) (fun c4 => ?_)
    · have hf := xe c4 hf
      refine lv_bipush (v := (nI 100)) hx hb dX6_ask_20 (by decide) ?_
      exact J22 p2 (nI 0) (nI 100) hf _ _ hH ls (lv_sub hl [0, 1, 2] rfl)
    · have hf := xt c4 hf
      refine lv_bipush (v := (nI 9)) hx hb dX6_ask_15 (by decide) ?_
      refine lv_goto (tgt := 22) hx hb dX6_ask_17 (by decide) ?_
      exact J22 p2 (nI 0) (nI 9) hf _ _ hH ls (lv_sub hl [0, 1, 2] rfl)
def f_X6_person (v_now_people_count : Int32) (v_now_people_ages : (Nat → Int32)) (v_refusals : (Nat → Int32)) (p1 : Int32) : Option (Int32 × Int32 × (Nat → Int32) × (Nat → Int32)) :=
  (f_X6_isWithin p1 (nI 1) (nI 99)).bind fun u1 =>
  if u1 = (nI 0) then
    (f_X6_refuse v_refusals (-2 : Int32)).bind fun u7 =>
    some (u7.1, v_now_people_count, v_now_people_ages, u7.2)
  else
  (f_X3_hasRoom v_now_people_count).bind fun u3 =>
  if u3 = (nI 0) then
    (f_X6_refuse v_refusals (-6 : Int32)).bind fun u6 =>
    some (u6.1, v_now_people_count, v_now_people_ages, u6.2)
  else
  (f_X3_add v_now_people_count v_now_people_ages p1).bind fun u5 =>
  some (u5.1, u5.2.1, u5.2.2, v_refusals)
set_option maxHeartbeats 4000000 in
set_option maxRecDepth 100000 in
theorem c_X6_person {l : Launch} {X : xG} {h0 h1 h2 h3 h4 g0 g1 g2 g3 g4 : Nat} {v_isKept : Int32} {v_now_inForce : Int32} {v_now_depth : Int32} {v_now_miss : Int32} {v_now_ring : Int64} {v_now_steps : Int32} {v_now_seed : Int32} {v_now_people_count : Int32} {v_now_people_ages : (Nat → Int32)} {v_refusals : (Nat → Int32)} {p1 : Int32} {u : Int32 × Int32 × (Nat → Int32) × (Nat → Int32)} (hf : f_X6_person v_now_people_count v_now_people_ages v_refusals p1 = some u) : Met l yX6_person (xw yX6_person cX6_person 2 (some .int)) (xrm 2 43) (xPc [.ref h0, .int p1] X [(h0, xO 6 [.ref h1, .ref g0, .ref g1, .ref g2, .ref h4, .int v_isKept]), (h1, xO 0 [.ref g3, .ref h2, .int v_now_inForce, .int v_now_depth, .int v_now_miss, .long v_now_ring, .int v_now_steps, .int v_now_seed]), (h2, xO 3 [.ref h3, .ref g4, .int v_now_people_count]), (h3, xI X 10 v_now_people_ages), (h4, xI X 5 v_refusals)]) (xQw True (.returned (some (.int u.1))) X [(h0, xO 6 [.ref h1, .ref g0, .ref g1, .ref g2, .ref h4, .int v_isKept]), (h1, xO 0 [.ref g3, .ref h2, .int v_now_inForce, .int v_now_depth, .int v_now_miss, .long v_now_ring, .int v_now_steps, .int v_now_seed]), (h2, xO 3 [.ref h3, .ref g4, .int u.2.1]), (h3, xI X 10 u.2.2.1), (h4, xI X 5 u.2.2.2)] (xAs [(h0, xO 6 [.ref h1, .ref g0, .ref g1, .ref g2, .ref h4, .int v_isKept]), (h1, xO 0 [.ref g3, .ref h2, .int v_now_inForce, .int v_now_depth, .int v_now_miss, .long v_now_ring, .int v_now_steps, .int v_now_seed]), (h2, xO 3 [.ref h3, .ref g4, .int v_now_people_count]), (h3, xI X 10 v_now_people_ages), (h4, xI X 5 v_refusals)])) 0 0 (xAs [(h0, xO 6 [.ref h1, .ref g0, .ref g1, .ref g2, .ref h4, .int v_isKept]), (h1, xO 0 [.ref g3, .ref h2, .int v_now_inForce, .int v_now_depth, .int v_now_miss, .long v_now_ring, .int v_now_steps, .int v_now_seed]), (h2, xO 3 [.ref h3, .ref g4, .int v_now_people_count]), (h3, xI X 10 v_now_people_ages), (h4, xI X 5 v_refusals)]) := by
  refine xMetw (Qc := fun A => xQw True (.returned (some (.int u.1))) X [(h0, xO 6 [.ref h1, .ref g0, .ref g1, .ref g2, .ref h4, .int v_isKept]), (h1, xO 0 [.ref g3, .ref h2, .int v_now_inForce, .int v_now_depth, .int v_now_miss, .long v_now_ring, .int v_now_steps, .int v_now_seed]), (h2, xO 3 [.ref h3, .ref g4, .int u.2.1]), (h3, xI X 10 u.2.2.1), (h4, xI X 5 u.2.2.2)] A) (n := 1) md_X6_person.1 (Nat.le_of_ble_eq_true rfl) ?_
  intro p e s m args below meth c ls A hC hr hlk hH hl
  have hl : lv_has ls 2 [(0, .ref h0), (1, .int p1)] := hl
  have hx := hC.1
  have hb := hC.2.1
  refine lv_iload_n hx hb dX6_person_0 rfl (lv_at hl 1 rfl) ?_
  refine lv_iconst (v := (nI 1)) hx hb dX6_person_1 (by decide) ?_
  refine lv_bipush (v := (nI 99)) hx hb dX6_person_2 (by decide) ?_
  obtain ⟨u1, hf1, hf⟩ := xb hf
  refine x_ran (x_runS (rest := []) (As := [.int p1, .int (nI 1), .int (nI 99)]) hC mw_99 md_X6_isWithin (c_X6_isWithin (X := X) hf1) hH [] rfl (by decide) hl.1 rfl rfl (Nat.le_of_ble_eq_true rfl) dX6_person_4 ⟨Nat.le_of_ble_eq_true rfl, Nat.le_of_ble_eq_true rfl⟩ ⟨rfl, rfl⟩ ⟨Nat.le_refl _, Nat.le_refl _⟩) rfl (fun hz1 => ?_)
  refine lv_if_ne (tgt := 17) hx hb dX6_person_7 (by decide) (fun c2 => ?_) (fun c2 => ?_)
  · have hf := xe c2 hf
    refine lv_aload_n hx hb dX6_person_17 rfl (lv_at hl 0 rfl) ?_
    refine x_get hC fd_RX6_10 hH.1 0 rfl rfl dX6_person_18 ?_
    refine x_getN hC fd_RX6_145 hH.1 1 rfl rfl dX6_person_21 ?_
    obtain ⟨u3, hf3, hf⟩ := xb hf
    refine x_ran (x_runV (q0 := 0) (rest := []) (As := []) hC mw_389 md_X3_hasRoom (c_X3_hasRoom (X := X) hf3) hH [2] rfl (by decide) rfl rfl rfl hl.1 rfl rfl (Nat.le_of_ble_eq_true rfl) dX6_person_24 ⟨Nat.le_of_ble_eq_true rfl, Nat.le_of_ble_eq_true rfl⟩ ⟨rfl, rfl⟩ ⟨Nat.le_refl _, Nat.le_refl _⟩) rfl (fun hz3 => ?_)
    refine lv_if_ne (tgt := 37) hx hb dX6_person_27 (by decide) (fun c4 => ?_) (fun c4 => ?_)
    · have hf := xe c4 hf
      refine lv_aload_n hx hb dX6_person_37 rfl (lv_at hl 0 rfl) ?_
      refine x_get hC fd_RX6_10 hH.1 0 rfl rfl dX6_person_38 ?_
      refine x_getN hC fd_RX6_145 hH.1 1 rfl rfl dX6_person_41 ?_
      refine lv_iload_n hx hb dX6_person_44 rfl (lv_at hl 1 rfl) ?_
      obtain ⟨u5, hf5, hf⟩ := xb hf
      refine x_ranw (ws' := [(h0, xO 6 [.ref h1, .ref g0, .ref g1, .ref g2, .ref h4, .int v_isKept]), (h1, xO 0 [.ref g3, .ref h2, .int v_now_inForce, .int v_now_depth, .int v_now_miss, .long v_now_ring, .int v_now_steps, .int v_now_seed]), (h2, xO 3 [.ref h3, .ref g4, .int u5.2.1]), (h3, xI X 10 u5.2.2), (h4, xI X 5 v_refusals)]) (x_runV (q0 := 0) (rest := []) (As := [.int p1]) hC mw_394 md_X3_add (c_X3_add (X := X) hf5) hH [2, 3] rfl (by decide) rfl rfl rfl hl.1 rfl rfl (Nat.le_of_ble_eq_true rfl) dX6_person_45 ⟨Nat.le_of_ble_eq_true rfl, Nat.le_of_ble_eq_true rfl⟩ ⟨rfl, rfl⟩ ⟨Nat.le_refl _, Nat.le_refl _⟩) hH [2, 3] rfl rfl rfl rfl rfl (fun hz5 H locs hH => ?_)
      exact x_retiw (φ := fun _ => True) (f := fun u : Int32 × Int32 × (Nat → Int32) × (Nat → Int32) => u.1) (wf := fun u : Int32 × Int32 × (Nat → Int32) × (Nat → Int32) => [(h0, xO 6 [.ref h1, .ref g0, .ref g1, .ref g2, .ref h4, .int v_isKept]), (h1, xO 0 [.ref g3, .ref h2, .int v_now_inForce, .int v_now_depth, .int v_now_miss, .long v_now_ring, .int v_now_steps, .int v_now_seed]), (h2, xO 3 [.ref h3, .ref g4, .int u.2.1]), (h3, xI X 10 u.2.2.1), (h4, xI X 5 u.2.2.2)]) hC hr hlk trivial hf hH rfl rfl dX6_person_48
    · have hf := xt c4 hf
      refine lv_aload_n hx hb dX6_person_30 rfl (lv_at hl 0 rfl) ?_
      refine lv_bipush (v := (-6 : Int32)) hx hb dX6_person_31 (by decide) ?_
      obtain ⟨u6, hf6, hf⟩ := xb hf
      refine x_ranw (ws' := [(h0, xO 6 [.ref h1, .ref g0, .ref g1, .ref g2, .ref h4, .int v_isKept]), (h1, xO 0 [.ref g3, .ref h2, .int v_now_inForce, .int v_now_depth, .int v_now_miss, .long v_now_ring, .int v_now_steps, .int v_now_seed]), (h2, xO 3 [.ref h3, .ref g4, .int v_now_people_count]), (h3, xI X 10 v_now_people_ages), (h4, xI X 5 u6.2)]) (x_runV (q0 := 0) (rest := []) (As := [.int (-6 : Int32)]) hC mw_100 md_X6_refuse (c_X6_refuse (X := X) hf6) hH [0, 4] rfl (by decide) rfl rfl rfl hl.1 rfl rfl (Nat.le_of_ble_eq_true rfl) dX6_person_33 ⟨Nat.le_of_ble_eq_true rfl, Nat.le_of_ble_eq_true rfl⟩ ⟨rfl, rfl⟩ ⟨Nat.le_refl _, Nat.le_refl _⟩) hH [0, 4] rfl rfl rfl rfl rfl (fun hz6 H locs hH => ?_)
      exact x_retiw (φ := fun _ => True) (f := fun u : Int32 × Int32 × (Nat → Int32) × (Nat → Int32) => u.1) (wf := fun u : Int32 × Int32 × (Nat → Int32) × (Nat → Int32) => [(h0, xO 6 [.ref h1, .ref g0, .ref g1, .ref g2, .ref h4, .int v_isKept]), (h1, xO 0 [.ref g3, .ref h2, .int v_now_inForce, .int v_now_depth, .int v_now_miss, .long v_now_ring, .int v_now_steps, .int v_now_seed]), (h2, xO 3 [.ref h3, .ref g4, .int u.2.1]), (h3, xI X 10 u.2.2.1), (h4, xI X 5 u.2.2.2)]) hC hr hlk trivial hf hH rfl rfl dX6_person_36
  · have hf := xt c2 hf
    refine lv_aload_n hx hb dX6_person_10 rfl (lv_at hl 0 rfl) ?_
    refine lv_bipush (v := (-2 : Int32)) hx hb dX6_person_11 (by decide) ?_
    obtain ⟨u7, hf7, hf⟩ := xb hf
    refine x_ranw (ws' := [(h0, xO 6 [.ref h1, .ref g0, .ref g1, .ref g2, .ref h4, .int v_isKept]), (h1, xO 0 [.ref g3, .ref h2, .int v_now_inForce, .int v_now_depth, .int v_now_miss, .long v_now_ring, .int v_now_steps, .int v_now_seed]), (h2, xO 3 [.ref h3, .ref g4, .int v_now_people_count]), (h3, xI X 10 v_now_people_ages), (h4, xI X 5 u7.2)]) (x_runV (q0 := 0) (rest := []) (As := [.int (-2 : Int32)]) hC mw_100 md_X6_refuse (c_X6_refuse (X := X) hf7) hH [0, 4] rfl (by decide) rfl rfl rfl hl.1 rfl rfl (Nat.le_of_ble_eq_true rfl) dX6_person_13 ⟨Nat.le_of_ble_eq_true rfl, Nat.le_of_ble_eq_true rfl⟩ ⟨rfl, rfl⟩ ⟨Nat.le_refl _, Nat.le_refl _⟩) hH [0, 4] rfl rfl rfl rfl rfl (fun hz7 H locs hH => ?_)
    exact x_retiw (φ := fun _ => True) (f := fun u : Int32 × Int32 × (Nat → Int32) × (Nat → Int32) => u.1) (wf := fun u : Int32 × Int32 × (Nat → Int32) × (Nat → Int32) => [(h0, xO 6 [.ref h1, .ref g0, .ref g1, .ref g2, .ref h4, .int v_isKept]), (h1, xO 0 [.ref g3, .ref h2, .int v_now_inForce, .int v_now_depth, .int v_now_miss, .long v_now_ring, .int v_now_steps, .int v_now_seed]), (h2, xO 3 [.ref h3, .ref g4, .int u.2.1]), (h3, xI X 10 u.2.2.1), (h4, xI X 5 u.2.2.2)]) hC hr hlk trivial hf hH rfl rfl dX6_person_16
def f_X6_feed (v_reader_tape_size : Int32) (v_reader_tape_bytes : (Nat → Int32)) (v_refusals : (Nat → Int32)) (p1 : Int32) : Option (Int32 × Int32 × (Nat → Int32) × (Nat → Int32)) :=
  (f_X6_isWithin p1 (nI 0) (nI 255)).bind fun u1 =>
  if u1 = (nI 0) then
    (f_X6_refuse v_refusals (-2 : Int32)).bind fun u7 =>
    some (u7.1, v_reader_tape_size, v_reader_tape_bytes, u7.2)
  else
  (f_X5_hasRoom v_reader_tape_size).bind fun u3 =>
  if u3 = (nI 0) then
    (f_X6_refuse v_refusals (-6 : Int32)).bind fun u6 =>
    some (u6.1, v_reader_tape_size, v_reader_tape_bytes, u6.2)
  else
  (f_X5_add v_reader_tape_size v_reader_tape_bytes p1).bind fun u5 =>
  some (u5.1, u5.2.1, u5.2.2, v_refusals)
set_option maxHeartbeats 4000000 in
set_option maxRecDepth 100000 in
theorem c_X6_feed {l : Launch} {X : xG} {h0 h1 h2 h3 h4 g0 g1 g2 g3 : Nat} {v_isKept : Int32} {v_reader_number : Int32} {v_reader_tape_size : Int32} {v_reader_tape_token : Int32} {v_reader_tape_tokenStart : Int32} {v_reader_tape_tokenEnd : Int32} {v_reader_tape_bytes : (Nat → Int32)} {v_refusals : (Nat → Int32)} {p1 : Int32} {u : Int32 × Int32 × (Nat → Int32) × (Nat → Int32)} (hf : f_X6_feed v_reader_tape_size v_reader_tape_bytes v_refusals p1 = some u) : Met l yX6_feed (xw yX6_feed cX6_feed 2 (some .int)) (xrm 1 22) (xPc [.ref h0, .int p1] X [(h0, xO 6 [.ref g0, .ref g1, .ref h1, .ref g2, .ref h4, .int v_isKept]), (h1, xO 1 [.ref h2, .ref g3, .int v_reader_number]), (h2, xO 5 [.ref h3, .int v_reader_tape_size, .int v_reader_tape_token, .int v_reader_tape_tokenStart, .int v_reader_tape_tokenEnd]), (h3, xI X 250 v_reader_tape_bytes), (h4, xI X 5 v_refusals)]) (xQw True (.returned (some (.int u.1))) X [(h0, xO 6 [.ref g0, .ref g1, .ref h1, .ref g2, .ref h4, .int v_isKept]), (h1, xO 1 [.ref h2, .ref g3, .int v_reader_number]), (h2, xO 5 [.ref h3, .int u.2.1, .int v_reader_tape_token, .int v_reader_tape_tokenStart, .int v_reader_tape_tokenEnd]), (h3, xI X 250 u.2.2.1), (h4, xI X 5 u.2.2.2)] (xAs [(h0, xO 6 [.ref g0, .ref g1, .ref h1, .ref g2, .ref h4, .int v_isKept]), (h1, xO 1 [.ref h2, .ref g3, .int v_reader_number]), (h2, xO 5 [.ref h3, .int v_reader_tape_size, .int v_reader_tape_token, .int v_reader_tape_tokenStart, .int v_reader_tape_tokenEnd]), (h3, xI X 250 v_reader_tape_bytes), (h4, xI X 5 v_refusals)])) 0 0 (xAs [(h0, xO 6 [.ref g0, .ref g1, .ref h1, .ref g2, .ref h4, .int v_isKept]), (h1, xO 1 [.ref h2, .ref g3, .int v_reader_number]), (h2, xO 5 [.ref h3, .int v_reader_tape_size, .int v_reader_tape_token, .int v_reader_tape_tokenStart, .int v_reader_tape_tokenEnd]), (h3, xI X 250 v_reader_tape_bytes), (h4, xI X 5 v_refusals)]) := by
  refine xMetw (Qc := fun A => xQw True (.returned (some (.int u.1))) X [(h0, xO 6 [.ref g0, .ref g1, .ref h1, .ref g2, .ref h4, .int v_isKept]), (h1, xO 1 [.ref h2, .ref g3, .int v_reader_number]), (h2, xO 5 [.ref h3, .int u.2.1, .int v_reader_tape_token, .int v_reader_tape_tokenStart, .int v_reader_tape_tokenEnd]), (h3, xI X 250 u.2.2.1), (h4, xI X 5 u.2.2.2)] A) (n := 1) md_X6_feed.1 (Nat.le_of_ble_eq_true rfl) ?_
  intro p e s m args below meth c ls A hC hr hlk hH hl
  have hl : lv_has ls 2 [(0, .ref h0), (1, .int p1)] := hl
  have hx := hC.1
  have hb := hC.2.1
  refine lv_iload_n hx hb dX6_feed_0 rfl (lv_at hl 1 rfl) ?_
  refine lv_iconst (v := (nI 0)) hx hb dX6_feed_1 (by decide) ?_
  refine lv_sipush (v := (nI 255)) hx hb dX6_feed_2 (by decide) ?_
  obtain ⟨u1, hf1, hf⟩ := xb hf
  refine x_ran (x_runS (rest := []) (As := [.int p1, .int (nI 0), .int (nI 255)]) hC mw_99 md_X6_isWithin (c_X6_isWithin (X := X) hf1) hH [] rfl (by decide) hl.1 rfl rfl (Nat.le_of_ble_eq_true rfl) dX6_feed_5 ⟨Nat.le_of_ble_eq_true rfl, Nat.le_of_ble_eq_true rfl⟩ ⟨rfl, rfl⟩ ⟨Nat.le_refl _, Nat.le_refl _⟩) rfl (fun hz1 => ?_)
  refine lv_if_ne (tgt := 18) hx hb dX6_feed_8 (by decide) (fun c2 => ?_) (fun c2 => ?_)
  · have hf := xe c2 hf
    refine lv_aload_n hx hb dX6_feed_18 rfl (lv_at hl 0 rfl) ?_
    refine x_get hC fd_RX6_22 hH.1 0 rfl rfl dX6_feed_19 ?_
    refine x_getN hC fd_RX6_154 hH.1 1 rfl rfl dX6_feed_22 ?_
    obtain ⟨u3, hf3, hf⟩ := xb hf
    refine x_ran (x_runV (q0 := 0) (rest := []) (As := []) hC mw_415 md_X5_hasRoom (c_X5_hasRoom (X := X) hf3) hH [2] rfl (by decide) rfl rfl rfl hl.1 rfl rfl (Nat.le_of_ble_eq_true rfl) dX6_feed_25 ⟨Nat.le_of_ble_eq_true rfl, Nat.le_of_ble_eq_true rfl⟩ ⟨rfl, rfl⟩ ⟨Nat.le_refl _, Nat.le_refl _⟩) rfl (fun hz3 => ?_)
    refine lv_if_ne (tgt := 38) hx hb dX6_feed_28 (by decide) (fun c4 => ?_) (fun c4 => ?_)
    · have hf := xe c4 hf
      refine lv_aload_n hx hb dX6_feed_38 rfl (lv_at hl 0 rfl) ?_
      refine x_get hC fd_RX6_22 hH.1 0 rfl rfl dX6_feed_39 ?_
      refine x_getN hC fd_RX6_154 hH.1 1 rfl rfl dX6_feed_42 ?_
      refine lv_iload_n hx hb dX6_feed_45 rfl (lv_at hl 1 rfl) ?_
      obtain ⟨u5, hf5, hf⟩ := xb hf
      refine x_ranw (ws' := [(h0, xO 6 [.ref g0, .ref g1, .ref h1, .ref g2, .ref h4, .int v_isKept]), (h1, xO 1 [.ref h2, .ref g3, .int v_reader_number]), (h2, xO 5 [.ref h3, .int u5.2.1, .int v_reader_tape_token, .int v_reader_tape_tokenStart, .int v_reader_tape_tokenEnd]), (h3, xI X 250 u5.2.2), (h4, xI X 5 v_refusals)]) (x_runV (q0 := 0) (rest := []) (As := [.int p1]) hC mw_420 md_X5_add (c_X5_add (X := X) hf5) hH [2, 3] rfl (by decide) rfl rfl rfl hl.1 rfl rfl (Nat.le_of_ble_eq_true rfl) dX6_feed_46 ⟨Nat.le_of_ble_eq_true rfl, Nat.le_of_ble_eq_true rfl⟩ ⟨rfl, rfl⟩ ⟨Nat.le_refl _, Nat.le_refl _⟩) hH [2, 3] rfl rfl rfl rfl rfl (fun hz5 H locs hH => ?_)
      exact x_retiw (φ := fun _ => True) (f := fun u : Int32 × Int32 × (Nat → Int32) × (Nat → Int32) => u.1) (wf := fun u : Int32 × Int32 × (Nat → Int32) × (Nat → Int32) => [(h0, xO 6 [.ref g0, .ref g1, .ref h1, .ref g2, .ref h4, .int v_isKept]), (h1, xO 1 [.ref h2, .ref g3, .int v_reader_number]), (h2, xO 5 [.ref h3, .int u.2.1, .int v_reader_tape_token, .int v_reader_tape_tokenStart, .int v_reader_tape_tokenEnd]), (h3, xI X 250 u.2.2.1), (h4, xI X 5 u.2.2.2)]) hC hr hlk trivial hf hH rfl rfl dX6_feed_49
    · have hf := xt c4 hf
      refine lv_aload_n hx hb dX6_feed_31 rfl (lv_at hl 0 rfl) ?_
      refine lv_bipush (v := (-6 : Int32)) hx hb dX6_feed_32 (by decide) ?_
      obtain ⟨u6, hf6, hf⟩ := xb hf
      refine x_ranw (ws' := [(h0, xO 6 [.ref g0, .ref g1, .ref h1, .ref g2, .ref h4, .int v_isKept]), (h1, xO 1 [.ref h2, .ref g3, .int v_reader_number]), (h2, xO 5 [.ref h3, .int v_reader_tape_size, .int v_reader_tape_token, .int v_reader_tape_tokenStart, .int v_reader_tape_tokenEnd]), (h3, xI X 250 v_reader_tape_bytes), (h4, xI X 5 u6.2)]) (x_runV (q0 := 0) (rest := []) (As := [.int (-6 : Int32)]) hC mw_100 md_X6_refuse (c_X6_refuse (X := X) hf6) hH [0, 4] rfl (by decide) rfl rfl rfl hl.1 rfl rfl (Nat.le_of_ble_eq_true rfl) dX6_feed_34 ⟨Nat.le_of_ble_eq_true rfl, Nat.le_of_ble_eq_true rfl⟩ ⟨rfl, rfl⟩ ⟨Nat.le_refl _, Nat.le_refl _⟩) hH [0, 4] rfl rfl rfl rfl rfl (fun hz6 H locs hH => ?_)
      exact x_retiw (φ := fun _ => True) (f := fun u : Int32 × Int32 × (Nat → Int32) × (Nat → Int32) => u.1) (wf := fun u : Int32 × Int32 × (Nat → Int32) × (Nat → Int32) => [(h0, xO 6 [.ref g0, .ref g1, .ref h1, .ref g2, .ref h4, .int v_isKept]), (h1, xO 1 [.ref h2, .ref g3, .int v_reader_number]), (h2, xO 5 [.ref h3, .int u.2.1, .int v_reader_tape_token, .int v_reader_tape_tokenStart, .int v_reader_tape_tokenEnd]), (h3, xI X 250 u.2.2.1), (h4, xI X 5 u.2.2.2)]) hC hr hlk trivial hf hH rfl rfl dX6_feed_37
  · have hf := xt c2 hf
    refine lv_aload_n hx hb dX6_feed_11 rfl (lv_at hl 0 rfl) ?_
    refine lv_bipush (v := (-2 : Int32)) hx hb dX6_feed_12 (by decide) ?_
    obtain ⟨u7, hf7, hf⟩ := xb hf
    refine x_ranw (ws' := [(h0, xO 6 [.ref g0, .ref g1, .ref h1, .ref g2, .ref h4, .int v_isKept]), (h1, xO 1 [.ref h2, .ref g3, .int v_reader_number]), (h2, xO 5 [.ref h3, .int v_reader_tape_size, .int v_reader_tape_token, .int v_reader_tape_tokenStart, .int v_reader_tape_tokenEnd]), (h3, xI X 250 v_reader_tape_bytes), (h4, xI X 5 u7.2)]) (x_runV (q0 := 0) (rest := []) (As := [.int (-2 : Int32)]) hC mw_100 md_X6_refuse (c_X6_refuse (X := X) hf7) hH [0, 4] rfl (by decide) rfl rfl rfl hl.1 rfl rfl (Nat.le_of_ble_eq_true rfl) dX6_feed_14 ⟨Nat.le_of_ble_eq_true rfl, Nat.le_of_ble_eq_true rfl⟩ ⟨rfl, rfl⟩ ⟨Nat.le_refl _, Nat.le_refl _⟩) hH [0, 4] rfl rfl rfl rfl rfl (fun hz7 H locs hH => ?_)
    exact x_retiw (φ := fun _ => True) (f := fun u : Int32 × Int32 × (Nat → Int32) × (Nat → Int32) => u.1) (wf := fun u : Int32 × Int32 × (Nat → Int32) × (Nat → Int32) => [(h0, xO 6 [.ref g0, .ref g1, .ref h1, .ref g2, .ref h4, .int v_isKept]), (h1, xO 1 [.ref h2, .ref g3, .int v_reader_number]), (h2, xO 5 [.ref h3, .int u.2.1, .int v_reader_tape_token, .int v_reader_tape_tokenStart, .int v_reader_tape_tokenEnd]), (h3, xI X 250 u.2.2.1), (h4, xI X 5 u.2.2.2)]) hC hr hlk trivial hf hH rfl rfl dX6_feed_17
def f_X6_wipe (v_reader_tape_size : Int32) : Option (Int32 × Int32) :=
  some (v_reader_tape_size, (nI 0))
set_option maxHeartbeats 4000000 in
set_option maxRecDepth 100000 in
theorem c_X6_wipe {l : Launch} {X : xG} {h0 h1 h2 g0 g1 g2 g3 g4 g5 : Nat} {v_isKept : Int32} {v_reader_number : Int32} {v_reader_tape_size : Int32} {v_reader_tape_token : Int32} {v_reader_tape_tokenStart : Int32} {v_reader_tape_tokenEnd : Int32} {u : Int32 × Int32} (hf : f_X6_wipe v_reader_tape_size = some u) : Met l yX6_wipe (xw yX6_wipe cX6_wipe 2 (some .int)) (xrm 0 0) (xPc [.ref h0] X [(h0, xO 6 [.ref g0, .ref g1, .ref h1, .ref g2, .ref g3, .int v_isKept]), (h1, xO 1 [.ref h2, .ref g4, .int v_reader_number]), (h2, xO 5 [.ref g5, .int v_reader_tape_size, .int v_reader_tape_token, .int v_reader_tape_tokenStart, .int v_reader_tape_tokenEnd])]) (xQw True (.returned (some (.int u.1))) X [(h0, xO 6 [.ref g0, .ref g1, .ref h1, .ref g2, .ref g3, .int v_isKept]), (h1, xO 1 [.ref h2, .ref g4, .int v_reader_number]), (h2, xO 5 [.ref g5, .int u.2, .int v_reader_tape_token, .int v_reader_tape_tokenStart, .int v_reader_tape_tokenEnd])] (xAs [(h0, xO 6 [.ref g0, .ref g1, .ref h1, .ref g2, .ref g3, .int v_isKept]), (h1, xO 1 [.ref h2, .ref g4, .int v_reader_number]), (h2, xO 5 [.ref g5, .int v_reader_tape_size, .int v_reader_tape_token, .int v_reader_tape_tokenStart, .int v_reader_tape_tokenEnd])])) 0 0 (xAs [(h0, xO 6 [.ref g0, .ref g1, .ref h1, .ref g2, .ref g3, .int v_isKept]), (h1, xO 1 [.ref h2, .ref g4, .int v_reader_number]), (h2, xO 5 [.ref g5, .int v_reader_tape_size, .int v_reader_tape_token, .int v_reader_tape_tokenStart, .int v_reader_tape_tokenEnd])]) := by
  refine xMetw (Qc := fun A => xQw True (.returned (some (.int u.1))) X [(h0, xO 6 [.ref g0, .ref g1, .ref h1, .ref g2, .ref g3, .int v_isKept]), (h1, xO 1 [.ref h2, .ref g4, .int v_reader_number]), (h2, xO 5 [.ref g5, .int u.2, .int v_reader_tape_token, .int v_reader_tape_tokenStart, .int v_reader_tape_tokenEnd])] A) (n := 0) md_X6_wipe.1 (Nat.le_of_ble_eq_true rfl) ?_
  intro p e s m args below meth c ls A hC hr hlk hH hl
  have hl : lv_has ls 2 [(0, .ref h0)] := hl
  have hx := hC.1
  have hb := hC.2.1
  refine lv_aload_n hx hb dX6_wipe_0 rfl (lv_at hl 0 rfl) ?_
  refine x_get hC fd_RX6_22 hH.1 0 rfl rfl dX6_wipe_1 ?_
  refine x_getN hC fd_RX6_154 hH.1 1 rfl rfl dX6_wipe_4 ?_
  refine x_getN hC fd_RX6_162 hH.1 2 rfl rfl dX6_wipe_7 ?_
  refine lv_istore_n (lv' := [(1, .int v_reader_tape_size), (0, .ref h0)]) hx hb dX6_wipe_10 rfl hl (by decide) rfl (fun ls hl => ?_)
  refine lv_aload_n hx hb dX6_wipe_11 rfl (lv_at hl 1 rfl) ?_
  refine x_get hC fd_RX6_22 hH.1 0 rfl rfl dX6_wipe_12 ?_
  refine x_getN hC fd_RX6_154 hH.1 1 rfl rfl dX6_wipe_15 ?_
  refine lv_iconst (v := (nI 0)) hx hb dX6_wipe_18 (by decide) ?_
  refine x_putN (ws' := [(h0, xO 6 [.ref g0, .ref g1, .ref h1, .ref g2, .ref g3, .int v_isKept]), (h1, xO 1 [.ref h2, .ref g4, .int v_reader_number]), (h2, xO 5 [.ref g5, .int (nI 0), .int v_reader_tape_token, .int v_reader_tape_tokenStart, .int v_reader_tape_tokenEnd])]) hC fd_RX6_162 hH 2 rfl (Nat.le_of_ble_eq_true rfl) rfl rfl dX6_wipe_19 rfl (fun H locs hH => ?_)
  refine lv_iload_n hx hb dX6_wipe_22 rfl (lv_at hl 0 rfl) ?_
  exact x_retiw (φ := fun _ => True) (f := fun u : Int32 × Int32 => u.1) (wf := fun u : Int32 × Int32 => [(h0, xO 6 [.ref g0, .ref g1, .ref h1, .ref g2, .ref g3, .int v_isKept]), (h1, xO 1 [.ref h2, .ref g4, .int v_reader_number]), (h2, xO 5 [.ref g5, .int u.2, .int v_reader_tape_token, .int v_reader_tape_tokenStart, .int v_reader_tape_tokenEnd])]) hC hr hlk trivial hf hH rfl rfl dX6_wipe_23
def f_X6_lake (v_now_inForce : Int32) (v_now_depth : Int32) (v_now_miss : Int32) (v_now_ring : Int64) (v_now_steps : Int32) (v_now_seed : Int32) (v_now_laws_count : Int32) (v_now_laws_kinds : (Nat → Int32)) (v_now_laws_tunes : (Nat → Int32)) (v_now_people_count : Int32) (v_now_people_ages : (Nat → Int32)) (v_reader_number : Int32) (v_reader_draft_inForce : Int32) (v_reader_draft_depth : Int32) (v_reader_draft_miss : Int32) (v_reader_draft_ring : Int64) (v_reader_draft_steps : Int32) (v_reader_draft_seed : Int32) (v_reader_draft_laws_count : Int32) (v_reader_draft_laws_kinds : (Nat → Int32)) (v_reader_draft_laws_tunes : (Nat → Int32)) (v_reader_draft_people_count : Int32) (v_reader_draft_people_ages : (Nat → Int32)) (v_reader_tape_size : Int32) (v_reader_tape_token : Int32) (v_reader_tape_tokenStart : Int32) (v_reader_tape_tokenEnd : Int32) (v_reader_tape_bytes : (Nat → Int32)) (v_refusals : (Nat → Int32)) : Option (Int32 × Int32 × Int32 × Int32 × Int64 × Int32 × Int32 × Int32 × (Nat → Int32) × (Nat → Int32) × Int32 × (Nat → Int32) × Int32 × Int32 × Int32 × Int32 × Int64 × Int32 × Int32 × Int32 × (Nat → Int32) × (Nat → Int32) × Int32 × (Nat → Int32) × Int32 × Int32 × Int32 × Int32 × (Nat → Int32)) :=
  (f_X0_takeFrom v_reader_draft_inForce v_reader_draft_depth v_reader_draft_miss v_reader_draft_ring v_reader_draft_steps v_reader_draft_seed v_reader_draft_laws_count v_reader_draft_laws_kinds v_reader_draft_laws_tunes v_reader_draft_people_count v_reader_draft_people_ages v_now_inForce v_now_depth v_now_miss v_now_ring v_now_steps v_now_seed v_now_laws_count v_now_laws_kinds v_now_laws_tunes v_now_people_count v_now_people_ages).bind fun u1 =>
  (f_X1_readLake v_reader_number u1.1 u1.2.1 u1.2.2.1 u1.2.2.2.1 u1.2.2.2.2.1 u1.2.2.2.2.2.2.1 u1.2.2.2.2.2.2.2.1 u1.2.2.2.2.2.2.2.2.1 u1.2.2.2.2.2.2.2.2.2.1 u1.2.2.2.2.2.2.2.2.2.2 v_reader_tape_size v_reader_tape_token v_reader_tape_tokenStart v_reader_tape_tokenEnd v_reader_tape_bytes).bind fun u2 =>
  if u2.1 = (-1 : Int32) then
    (f_X6_refuse v_refusals (-2 : Int32)).bind fun u5 =>
    some ((-20 : Int32) - u2.2.2.2.2.2.2.2.2.2.2.2.2.2.1, v_now_inForce, v_now_depth, v_now_miss, v_now_ring, v_now_steps, v_now_seed, v_now_laws_count, v_now_laws_kinds, v_now_laws_tunes, v_now_people_count, v_now_people_ages, u2.2.1, u2.2.2.1, u2.2.2.2.1, u2.2.2.2.2.1, u2.2.2.2.2.2.1, u2.2.2.2.2.2.2.1, u1.2.2.2.2.2.1, u2.2.2.2.2.2.2.2.1, u2.2.2.2.2.2.2.2.2.1, u2.2.2.2.2.2.2.2.2.2.1, u2.2.2.2.2.2.2.2.2.2.2.1, u2.2.2.2.2.2.2.2.2.2.2.2.1, (nI 0), u2.2.2.2.2.2.2.2.2.2.2.2.2.1, u2.2.2.2.2.2.2.2.2.2.2.2.2.2.1, u2.2.2.2.2.2.2.2.2.2.2.2.2.2.2, u5.2)
  else
  (f_X0_takeFrom v_now_inForce v_now_depth v_now_miss v_now_ring v_now_steps v_now_seed v_now_laws_count v_now_laws_kinds v_now_laws_tunes v_now_people_count v_now_people_ages u2.2.2.1 u2.2.2.2.1 u2.2.2.2.2.1 u2.2.2.2.2.2.1 u2.2.2.2.2.2.2.1 u1.2.2.2.2.2.1 u2.2.2.2.2.2.2.2.1 u2.2.2.2.2.2.2.2.2.1 u2.2.2.2.2.2.2.2.2.2.1 u2.2.2.2.2.2.2.2.2.2.2.1 u2.2.2.2.2.2.2.2.2.2.2.2.1).bind fun u4 =>
  some (u2.1, u4.1, u4.2.1, u4.2.2.1, u4.2.2.2.1, u4.2.2.2.2.1, u4.2.2.2.2.2.1, u4.2.2.2.2.2.2.1, u4.2.2.2.2.2.2.2.1, u4.2.2.2.2.2.2.2.2.1, u4.2.2.2.2.2.2.2.2.2.1, u4.2.2.2.2.2.2.2.2.2.2, u2.2.1, u2.2.2.1, u2.2.2.2.1, u2.2.2.2.2.1, u2.2.2.2.2.2.1, u2.2.2.2.2.2.2.1, u1.2.2.2.2.2.1, u2.2.2.2.2.2.2.2.1, u2.2.2.2.2.2.2.2.2.1, u2.2.2.2.2.2.2.2.2.2.1, u2.2.2.2.2.2.2.2.2.2.2.1, u2.2.2.2.2.2.2.2.2.2.2.2.1, (nI 0), u2.2.2.2.2.2.2.2.2.2.2.2.2.1, u2.2.2.2.2.2.2.2.2.2.2.2.2.2.1, u2.2.2.2.2.2.2.2.2.2.2.2.2.2.2, v_refusals)
set_option maxHeartbeats 4000000 in
set_option maxRecDepth 100000 in
theorem c_X6_lake {l : Launch} {X : xG} {h0 h1 h2 h3 h4 h5 h6 h7 h8 h9 h10 h11 h12 h13 h14 h15 h16 g0 g1 g2 g3 : Nat} {v_isKept : Int32} {v_now_inForce : Int32} {v_now_depth : Int32} {v_now_miss : Int32} {v_now_ring : Int64} {v_now_steps : Int32} {v_now_seed : Int32} {v_now_laws_count : Int32} {v_now_laws_kinds : (Nat → Int32)} {v_now_laws_tunes : (Nat → Int32)} {v_now_people_count : Int32} {v_now_people_ages : (Nat → Int32)} {v_reader_number : Int32} {v_reader_draft_inForce : Int32} {v_reader_draft_depth : Int32} {v_reader_draft_miss : Int32} {v_reader_draft_ring : Int64} {v_reader_draft_steps : Int32} {v_reader_draft_seed : Int32} {v_reader_draft_laws_count : Int32} {v_reader_draft_laws_kinds : (Nat → Int32)} {v_reader_draft_laws_tunes : (Nat → Int32)} {v_reader_draft_people_count : Int32} {v_reader_draft_people_ages : (Nat → Int32)} {v_reader_tape_size : Int32} {v_reader_tape_token : Int32} {v_reader_tape_tokenStart : Int32} {v_reader_tape_tokenEnd : Int32} {v_reader_tape_bytes : (Nat → Int32)} {v_refusals : (Nat → Int32)} {u : Int32 × Int32 × Int32 × Int32 × Int64 × Int32 × Int32 × Int32 × (Nat → Int32) × (Nat → Int32) × Int32 × (Nat → Int32) × Int32 × Int32 × Int32 × Int32 × Int64 × Int32 × Int32 × Int32 × (Nat → Int32) × (Nat → Int32) × Int32 × (Nat → Int32) × Int32 × Int32 × Int32 × Int32 × (Nat → Int32)} (hf : f_X6_lake v_now_inForce v_now_depth v_now_miss v_now_ring v_now_steps v_now_seed v_now_laws_count v_now_laws_kinds v_now_laws_tunes v_now_people_count v_now_people_ages v_reader_number v_reader_draft_inForce v_reader_draft_depth v_reader_draft_miss v_reader_draft_ring v_reader_draft_steps v_reader_draft_seed v_reader_draft_laws_count v_reader_draft_laws_kinds v_reader_draft_laws_tunes v_reader_draft_people_count v_reader_draft_people_ages v_reader_tape_size v_reader_tape_token v_reader_tape_tokenStart v_reader_tape_tokenEnd v_reader_tape_bytes v_refusals = some u) : Met l yX6_lake (xw yX6_lake cX6_lake 2 (some .int)) (xrm 7 148) (xPc [.ref h0] X [(h0, xO 6 [.ref h1, .ref g0, .ref h7, .ref g1, .ref h16, .int v_isKept]), (h1, xO 0 [.ref h2, .ref h5, .int v_now_inForce, .int v_now_depth, .int v_now_miss, .long v_now_ring, .int v_now_steps, .int v_now_seed]), (h2, xO 2 [.ref h3, .ref h4, .int v_now_laws_count]), (h3, xI X 6 v_now_laws_kinds), (h4, xI X 6 v_now_laws_tunes), (h5, xO 3 [.ref h6, .ref g2, .int v_now_people_count]), (h6, xI X 10 v_now_people_ages), (h7, xO 1 [.ref h14, .ref h8, .int v_reader_number]), (h8, xO 0 [.ref h9, .ref h12, .int v_reader_draft_inForce, .int v_reader_draft_depth, .int v_reader_draft_miss, .long v_reader_draft_ring, .int v_reader_draft_steps, .int v_reader_draft_seed]), (h9, xO 2 [.ref h10, .ref h11, .int v_reader_draft_laws_count]), (h10, xI X 6 v_reader_draft_laws_kinds), (h11, xI X 6 v_reader_draft_laws_tunes), (h12, xO 3 [.ref h13, .ref g3, .int v_reader_draft_people_count]), (h13, xI X 10 v_reader_draft_people_ages), (h14, xO 5 [.ref h15, .int v_reader_tape_size, .int v_reader_tape_token, .int v_reader_tape_tokenStart, .int v_reader_tape_tokenEnd]), (h15, xI X 250 v_reader_tape_bytes), (h16, xI X 5 v_refusals)]) (xQw True (.returned (some (.int u.1))) X [(h0, xO 6 [.ref h1, .ref g0, .ref h7, .ref g1, .ref h16, .int v_isKept]), (h1, xO 0 [.ref h2, .ref h5, .int u.2.1, .int u.2.2.1, .int u.2.2.2.1, .long u.2.2.2.2.1, .int u.2.2.2.2.2.1, .int u.2.2.2.2.2.2.1]), (h2, xO 2 [.ref h3, .ref h4, .int u.2.2.2.2.2.2.2.1]), (h3, xI X 6 u.2.2.2.2.2.2.2.2.1), (h4, xI X 6 u.2.2.2.2.2.2.2.2.2.1), (h5, xO 3 [.ref h6, .ref g2, .int u.2.2.2.2.2.2.2.2.2.2.1]), (h6, xI X 10 u.2.2.2.2.2.2.2.2.2.2.2.1), (h7, xO 1 [.ref h14, .ref h8, .int u.2.2.2.2.2.2.2.2.2.2.2.2.1]), (h8, xO 0 [.ref h9, .ref h12, .int u.2.2.2.2.2.2.2.2.2.2.2.2.2.1, .int u.2.2.2.2.2.2.2.2.2.2.2.2.2.2.1, .int u.2.2.2.2.2.2.2.2.2.2.2.2.2.2.2.1, .long u.2.2.2.2.2.2.2.2.2.2.2.2.2.2.2.2.1, .int u.2.2.2.2.2.2.2.2.2.2.2.2.2.2.2.2.2.1, .int u.2.2.2.2.2.2.2.2.2.2.2.2.2.2.2.2.2.2.1]), (h9, xO 2 [.ref h10, .ref h11, .int u.2.2.2.2.2.2.2.2.2.2.2.2.2.2.2.2.2.2.2.1]), (h10, xI X 6 u.2.2.2.2.2.2.2.2.2.2.2.2.2.2.2.2.2.2.2.2.1), (h11, xI X 6 u.2.2.2.2.2.2.2.2.2.2.2.2.2.2.2.2.2.2.2.2.2.1), (h12, xO 3 [.ref h13, .ref g3, .int u.2.2.2.2.2.2.2.2.2.2.2.2.2.2.2.2.2.2.2.2.2.2.1]), (h13, xI X 10 u.2.2.2.2.2.2.2.2.2.2.2.2.2.2.2.2.2.2.2.2.2.2.2.1), (h14, xO 5 [.ref h15, .int u.2.2.2.2.2.2.2.2.2.2.2.2.2.2.2.2.2.2.2.2.2.2.2.2.1, .int u.2.2.2.2.2.2.2.2.2.2.2.2.2.2.2.2.2.2.2.2.2.2.2.2.2.1, .int u.2.2.2.2.2.2.2.2.2.2.2.2.2.2.2.2.2.2.2.2.2.2.2.2.2.2.1, .int u.2.2.2.2.2.2.2.2.2.2.2.2.2.2.2.2.2.2.2.2.2.2.2.2.2.2.2.1]), (h15, xI X 250 v_reader_tape_bytes), (h16, xI X 5 u.2.2.2.2.2.2.2.2.2.2.2.2.2.2.2.2.2.2.2.2.2.2.2.2.2.2.2.2)] (xAs [(h0, xO 6 [.ref h1, .ref g0, .ref h7, .ref g1, .ref h16, .int v_isKept]), (h1, xO 0 [.ref h2, .ref h5, .int v_now_inForce, .int v_now_depth, .int v_now_miss, .long v_now_ring, .int v_now_steps, .int v_now_seed]), (h2, xO 2 [.ref h3, .ref h4, .int v_now_laws_count]), (h3, xI X 6 v_now_laws_kinds), (h4, xI X 6 v_now_laws_tunes), (h5, xO 3 [.ref h6, .ref g2, .int v_now_people_count]), (h6, xI X 10 v_now_people_ages), (h7, xO 1 [.ref h14, .ref h8, .int v_reader_number]), (h8, xO 0 [.ref h9, .ref h12, .int v_reader_draft_inForce, .int v_reader_draft_depth, .int v_reader_draft_miss, .long v_reader_draft_ring, .int v_reader_draft_steps, .int v_reader_draft_seed]), (h9, xO 2 [.ref h10, .ref h11, .int v_reader_draft_laws_count]), (h10, xI X 6 v_reader_draft_laws_kinds), (h11, xI X 6 v_reader_draft_laws_tunes), (h12, xO 3 [.ref h13, .ref g3, .int v_reader_draft_people_count]), (h13, xI X 10 v_reader_draft_people_ages), (h14, xO 5 [.ref h15, .int v_reader_tape_size, .int v_reader_tape_token, .int v_reader_tape_tokenStart, .int v_reader_tape_tokenEnd]), (h15, xI X 250 v_reader_tape_bytes), (h16, xI X 5 v_refusals)])) 0 0 (xAs [(h0, xO 6 [.ref h1, .ref g0, .ref h7, .ref g1, .ref h16, .int v_isKept]), (h1, xO 0 [.ref h2, .ref h5, .int v_now_inForce, .int v_now_depth, .int v_now_miss, .long v_now_ring, .int v_now_steps, .int v_now_seed]), (h2, xO 2 [.ref h3, .ref h4, .int v_now_laws_count]), (h3, xI X 6 v_now_laws_kinds), (h4, xI X 6 v_now_laws_tunes), (h5, xO 3 [.ref h6, .ref g2, .int v_now_people_count]), (h6, xI X 10 v_now_people_ages), (h7, xO 1 [.ref h14, .ref h8, .int v_reader_number]), (h8, xO 0 [.ref h9, .ref h12, .int v_reader_draft_inForce, .int v_reader_draft_depth, .int v_reader_draft_miss, .long v_reader_draft_ring, .int v_reader_draft_steps, .int v_reader_draft_seed]), (h9, xO 2 [.ref h10, .ref h11, .int v_reader_draft_laws_count]), (h10, xI X 6 v_reader_draft_laws_kinds), (h11, xI X 6 v_reader_draft_laws_tunes), (h12, xO 3 [.ref h13, .ref g3, .int v_reader_draft_people_count]), (h13, xI X 10 v_reader_draft_people_ages), (h14, xO 5 [.ref h15, .int v_reader_tape_size, .int v_reader_tape_token, .int v_reader_tape_tokenStart, .int v_reader_tape_tokenEnd]), (h15, xI X 250 v_reader_tape_bytes), (h16, xI X 5 v_refusals)]) := by
  refine xMetw (Qc := fun A => xQw True (.returned (some (.int u.1))) X [(h0, xO 6 [.ref h1, .ref g0, .ref h7, .ref g1, .ref h16, .int v_isKept]), (h1, xO 0 [.ref h2, .ref h5, .int u.2.1, .int u.2.2.1, .int u.2.2.2.1, .long u.2.2.2.2.1, .int u.2.2.2.2.2.1, .int u.2.2.2.2.2.2.1]), (h2, xO 2 [.ref h3, .ref h4, .int u.2.2.2.2.2.2.2.1]), (h3, xI X 6 u.2.2.2.2.2.2.2.2.1), (h4, xI X 6 u.2.2.2.2.2.2.2.2.2.1), (h5, xO 3 [.ref h6, .ref g2, .int u.2.2.2.2.2.2.2.2.2.2.1]), (h6, xI X 10 u.2.2.2.2.2.2.2.2.2.2.2.1), (h7, xO 1 [.ref h14, .ref h8, .int u.2.2.2.2.2.2.2.2.2.2.2.2.1]), (h8, xO 0 [.ref h9, .ref h12, .int u.2.2.2.2.2.2.2.2.2.2.2.2.2.1, .int u.2.2.2.2.2.2.2.2.2.2.2.2.2.2.1, .int u.2.2.2.2.2.2.2.2.2.2.2.2.2.2.2.1, .long u.2.2.2.2.2.2.2.2.2.2.2.2.2.2.2.2.1, .int u.2.2.2.2.2.2.2.2.2.2.2.2.2.2.2.2.2.1, .int u.2.2.2.2.2.2.2.2.2.2.2.2.2.2.2.2.2.2.1]), (h9, xO 2 [.ref h10, .ref h11, .int u.2.2.2.2.2.2.2.2.2.2.2.2.2.2.2.2.2.2.2.1]), (h10, xI X 6 u.2.2.2.2.2.2.2.2.2.2.2.2.2.2.2.2.2.2.2.2.1), (h11, xI X 6 u.2.2.2.2.2.2.2.2.2.2.2.2.2.2.2.2.2.2.2.2.2.1), (h12, xO 3 [.ref h13, .ref g3, .int u.2.2.2.2.2.2.2.2.2.2.2.2.2.2.2.2.2.2.2.2.2.2.1]), (h13, xI X 10 u.2.2.2.2.2.2.2.2.2.2.2.2.2.2.2.2.2.2.2.2.2.2.2.1), (h14, xO 5 [.ref h15, .int u.2.2.2.2.2.2.2.2.2.2.2.2.2.2.2.2.2.2.2.2.2.2.2.2.1, .int u.2.2.2.2.2.2.2.2.2.2.2.2.2.2.2.2.2.2.2.2.2.2.2.2.2.1, .int u.2.2.2.2.2.2.2.2.2.2.2.2.2.2.2.2.2.2.2.2.2.2.2.2.2.2.1, .int u.2.2.2.2.2.2.2.2.2.2.2.2.2.2.2.2.2.2.2.2.2.2.2.2.2.2.2.1]), (h15, xI X 250 v_reader_tape_bytes), (h16, xI X 5 u.2.2.2.2.2.2.2.2.2.2.2.2.2.2.2.2.2.2.2.2.2.2.2.2.2.2.2.2)] A) (n := 0) md_X6_lake.1 (Nat.le_of_ble_eq_true rfl) ?_
  intro p e s m args below meth c ls A hC hr hlk hH hl
  have hl : lv_has ls 2 [(0, .ref h0)] := hl
  have hx := hC.1
  have hb := hC.2.1
  refine lv_aload_n hx hb dX6_lake_0 rfl (lv_at hl 0 rfl) ?_
  refine x_get hC fd_RX6_22 hH.1 0 rfl rfl dX6_lake_1 ?_
  refine x_getN hC fd_RX6_165 hH.1 7 rfl rfl dX6_lake_4 ?_
  refine lv_aload_n hx hb dX6_lake_7 rfl (lv_at hl 0 rfl) ?_
  refine x_get hC fd_RX6_10 hH.1 0 rfl rfl dX6_lake_8 ?_
  obtain ⟨u1, hf1, hf⟩ := xb hf
  refine x_ranw (ws' := [(h0, xO 6 [.ref h1, .ref g0, .ref h7, .ref g1, .ref h16, .int v_isKept]), (h1, xO 0 [.ref h2, .ref h5, .int v_now_inForce, .int v_now_depth, .int v_now_miss, .long v_now_ring, .int v_now_steps, .int v_now_seed]), (h2, xO 2 [.ref h3, .ref h4, .int v_now_laws_count]), (h3, xI X 6 v_now_laws_kinds), (h4, xI X 6 v_now_laws_tunes), (h5, xO 3 [.ref h6, .ref g2, .int v_now_people_count]), (h6, xI X 10 v_now_people_ages), (h7, xO 1 [.ref h14, .ref h8, .int v_reader_number]), (h8, xO 0 [.ref h9, .ref h12, .int u1.1, .int u1.2.1, .int u1.2.2.1, .long u1.2.2.2.1, .int u1.2.2.2.2.1, .int u1.2.2.2.2.2.1]), (h9, xO 2 [.ref h10, .ref h11, .int u1.2.2.2.2.2.2.1]), (h10, xI X 6 u1.2.2.2.2.2.2.2.1), (h11, xI X 6 u1.2.2.2.2.2.2.2.2.1), (h12, xO 3 [.ref h13, .ref g3, .int u1.2.2.2.2.2.2.2.2.2.1]), (h13, xI X 10 u1.2.2.2.2.2.2.2.2.2.2), (h14, xO 5 [.ref h15, .int v_reader_tape_size, .int v_reader_tape_token, .int v_reader_tape_tokenStart, .int v_reader_tape_tokenEnd]), (h15, xI X 250 v_reader_tape_bytes), (h16, xI X 5 v_refusals)]) (x_runV (q0 := 0) (rest := []) (As := [.ref h1]) hC mw_441 md_X0_takeFrom (c_X0_takeFrom (X := X) hf1) hH [8, 9, 10, 11, 12, 13, 1, 2, 3, 4, 5, 6] rfl (by decide) rfl rfl rfl hl.1 rfl rfl (Nat.le_of_ble_eq_true rfl) dX6_lake_11 ⟨Nat.le_of_ble_eq_true rfl, Nat.le_of_ble_eq_true rfl⟩ ⟨rfl, rfl⟩ ⟨Nat.le_refl _, Nat.le_refl _⟩) hH [8, 9, 10, 11, 12, 13, 1, 2, 3, 4, 5, 6] rfl rfl rfl rfl rfl (fun hz1 H locs hH => ?_)
  refine lv_aload_n hx hb dX6_lake_14 rfl (lv_at hl 0 rfl) ?_
  refine x_get hC fd_RX6_22 hH.1 0 rfl rfl dX6_lake_15 ?_
  obtain ⟨u2, hf2, hf⟩ := xb hf
  refine x_ranw (ws' := [(h0, xO 6 [.ref h1, .ref g0, .ref h7, .ref g1, .ref h16, .int v_isKept]), (h1, xO 0 [.ref h2, .ref h5, .int v_now_inForce, .int v_now_depth, .int v_now_miss, .long v_now_ring, .int v_now_steps, .int v_now_seed]), (h2, xO 2 [.ref h3, .ref h4, .int v_now_laws_count]), (h3, xI X 6 v_now_laws_kinds), (h4, xI X 6 v_now_laws_tunes), (h5, xO 3 [.ref h6, .ref g2, .int v_now_people_count]), (h6, xI X 10 v_now_people_ages), (h7, xO 1 [.ref h14, .ref h8, .int u2.2.1]), (h8, xO 0 [.ref h9, .ref h12, .int u2.2.2.1, .int u2.2.2.2.1, .int u2.2.2.2.2.1, .long u2.2.2.2.2.2.1, .int u2.2.2.2.2.2.2.1, .int u1.2.2.2.2.2.1]), (h9, xO 2 [.ref h10, .ref h11, .int u2.2.2.2.2.2.2.2.1]), (h10, xI X 6 u2.2.2.2.2.2.2.2.2.1), (h11, xI X 6 u2.2.2.2.2.2.2.2.2.2.1), (h12, xO 3 [.ref h13, .ref g3, .int u2.2.2.2.2.2.2.2.2.2.2.1]), (h13, xI X 10 u2.2.2.2.2.2.2.2.2.2.2.2.1), (h14, xO 5 [.ref h15, .int v_reader_tape_size, .int u2.2.2.2.2.2.2.2.2.2.2.2.2.1, .int u2.2.2.2.2.2.2.2.2.2.2.2.2.2.1, .int u2.2.2.2.2.2.2.2.2.2.2.2.2.2.2]), (h15, xI X 250 v_reader_tape_bytes), (h16, xI X 5 v_refusals)]) (x_runV (q0 := 0) (rest := []) (As := []) hC mw_460 md_X1_readLake (c_X1_readLake (X := X) hf2) hH [7, 8, 9, 10, 11, 12, 13, 14, 15] rfl (by decide) rfl rfl rfl hl.1 rfl rfl (Nat.le_of_ble_eq_true rfl) dX6_lake_18 ⟨Nat.le_of_ble_eq_true rfl, Nat.le_of_ble_eq_true rfl⟩ ⟨rfl, rfl⟩ ⟨Nat.le_refl _, Nat.le_refl _⟩) hH [7, 8, 9, 10, 11, 12, 13, 14, 15] rfl rfl rfl rfl rfl (fun hz2 H locs hH => ?_)
  refine lv_istore_n (lv' := [(1, .int u2.1), (0, .ref h0)]) hx hb dX6_lake_21 rfl hl (by decide) rfl (fun ls hl => ?_)
  refine lv_aload_n hx hb dX6_lake_22 rfl (lv_at hl 1 rfl) ?_
  refine x_get hC fd_RX6_22 hH.1 0 rfl rfl dX6_lake_23 ?_
  refine x_getN hC fd_RX6_154 hH.1 7 rfl rfl dX6_lake_26 ?_
  refine lv_iconst (v := (nI 0)) hx hb dX6_lake_29 (by decide) ?_
  refine x_putN (ws' := [(h0, xO 6 [.ref h1, .ref g0, .ref h7, .ref g1, .ref h16, .int v_isKept]), (h1, xO 0 [.ref h2, .ref h5, .int v_now_inForce, .int v_now_depth, .int v_now_miss, .long v_now_ring, .int v_now_steps, .int v_now_seed]), (h2, xO 2 [.ref h3, .ref h4, .int v_now_laws_count]), (h3, xI X 6 v_now_laws_kinds), (h4, xI X 6 v_now_laws_tunes), (h5, xO 3 [.ref h6, .ref g2, .int v_now_people_count]), (h6, xI X 10 v_now_people_ages), (h7, xO 1 [.ref h14, .ref h8, .int u2.2.1]), (h8, xO 0 [.ref h9, .ref h12, .int u2.2.2.1, .int u2.2.2.2.1, .int u2.2.2.2.2.1, .long u2.2.2.2.2.2.1, .int u2.2.2.2.2.2.2.1, .int u1.2.2.2.2.2.1]), (h9, xO 2 [.ref h10, .ref h11, .int u2.2.2.2.2.2.2.2.1]), (h10, xI X 6 u2.2.2.2.2.2.2.2.2.1), (h11, xI X 6 u2.2.2.2.2.2.2.2.2.2.1), (h12, xO 3 [.ref h13, .ref g3, .int u2.2.2.2.2.2.2.2.2.2.2.1]), (h13, xI X 10 u2.2.2.2.2.2.2.2.2.2.2.2.1), (h14, xO 5 [.ref h15, .int (nI 0), .int u2.2.2.2.2.2.2.2.2.2.2.2.2.1, .int u2.2.2.2.2.2.2.2.2.2.2.2.2.2.1, .int u2.2.2.2.2.2.2.2.2.2.2.2.2.2.2]), (h15, xI X 250 v_reader_tape_bytes), (h16, xI X 5 v_refusals)]) hC fd_RX6_162 hH 14 rfl (Nat.le_of_ble_eq_true rfl) rfl rfl dX6_lake_30 rfl (fun H locs hH => ?_)
  refine lv_iload_n hx hb dX6_lake_33 rfl (lv_at hl 0 rfl) ?_
  refine lv_iconst (v := (-1 : Int32)) hx hb dX6_lake_34 (by decide) ?_
  refine lv_icmp_ne (tgt := 59) hx hb dX6_lake_35 (by decide) (fun c3 => ?_) (fun c3 => ?_)
  · have hf := xe c3 hf
    refine lv_aload_n hx hb dX6_lake_59 rfl (lv_at hl 1 rfl) ?_
    refine x_get hC fd_RX6_10 hH.1 0 rfl rfl dX6_lake_60 ?_
    refine lv_aload_n hx hb dX6_lake_63 rfl (lv_at hl 1 rfl) ?_
    refine x_get hC fd_RX6_22 hH.1 0 rfl rfl dX6_lake_64 ?_
    refine x_getN hC fd_RX6_165 hH.1 7 rfl rfl dX6_lake_67 ?_
    obtain ⟨u4, hf4, hf⟩ := xb hf
    refine x_ranw (ws' := [(h0, xO 6 [.ref h1, .ref g0, .ref h7, .ref g1, .ref h16, .int v_isKept]), (h1, xO 0 [.ref h2, .ref h5, .int u4.1, .int u4.2.1, .int u4.2.2.1, .long u4.2.2.2.1, .int u4.2.2.2.2.1, .int u4.2.2.2.2.2.1]), (h2, xO 2 [.ref h3, .ref h4, .int u4.2.2.2.2.2.2.1]), (h3, xI X 6 u4.2.2.2.2.2.2.2.1), (h4, xI X 6 u4.2.2.2.2.2.2.2.2.1), (h5, xO 3 [.ref h6, .ref g2, .int u4.2.2.2.2.2.2.2.2.2.1]), (h6, xI X 10 u4.2.2.2.2.2.2.2.2.2.2), (h7, xO 1 [.ref h14, .ref h8, .int u2.2.1]), (h8, xO 0 [.ref h9, .ref h12, .int u2.2.2.1, .int u2.2.2.2.1, .int u2.2.2.2.2.1, .long u2.2.2.2.2.2.1, .int u2.2.2.2.2.2.2.1, .int u1.2.2.2.2.2.1]), (h9, xO 2 [.ref h10, .ref h11, .int u2.2.2.2.2.2.2.2.1]), (h10, xI X 6 u2.2.2.2.2.2.2.2.2.1), (h11, xI X 6 u2.2.2.2.2.2.2.2.2.2.1), (h12, xO 3 [.ref h13, .ref g3, .int u2.2.2.2.2.2.2.2.2.2.2.1]), (h13, xI X 10 u2.2.2.2.2.2.2.2.2.2.2.2.1), (h14, xO 5 [.ref h15, .int (nI 0), .int u2.2.2.2.2.2.2.2.2.2.2.2.2.1, .int u2.2.2.2.2.2.2.2.2.2.2.2.2.2.1, .int u2.2.2.2.2.2.2.2.2.2.2.2.2.2.2]), (h15, xI X 250 v_reader_tape_bytes), (h16, xI X 5 v_refusals)]) (x_runV (q0 := 0) (rest := []) (As := [.ref h8]) hC mw_441 md_X0_takeFrom (c_X0_takeFrom (X := X) hf4) hH [1, 2, 3, 4, 5, 6, 8, 9, 10, 11, 12, 13] rfl (by decide) rfl rfl rfl hl.1 rfl rfl (Nat.le_of_ble_eq_true rfl) dX6_lake_70 ⟨Nat.le_of_ble_eq_true rfl, Nat.le_of_ble_eq_true rfl⟩ ⟨rfl, rfl⟩ ⟨Nat.le_refl _, Nat.le_refl _⟩) hH [1, 2, 3, 4, 5, 6, 8, 9, 10, 11, 12, 13] rfl rfl rfl rfl rfl (fun hz4 H locs hH => ?_)
    refine lv_iload_n hx hb dX6_lake_73 rfl (lv_at hl 0 rfl) ?_
    exact x_retiw (φ := fun _ => True) (f := fun u : Int32 × Int32 × Int32 × Int32 × Int64 × Int32 × Int32 × Int32 × (Nat → Int32) × (Nat → Int32) × Int32 × (Nat → Int32) × Int32 × Int32 × Int32 × Int32 × Int64 × Int32 × Int32 × Int32 × (Nat → Int32) × (Nat → Int32) × Int32 × (Nat → Int32) × Int32 × Int32 × Int32 × Int32 × (Nat → Int32) => u.1) (wf := fun u : Int32 × Int32 × Int32 × Int32 × Int64 × Int32 × Int32 × Int32 × (Nat → Int32) × (Nat → Int32) × Int32 × (Nat → Int32) × Int32 × Int32 × Int32 × Int32 × Int64 × Int32 × Int32 × Int32 × (Nat → Int32) × (Nat → Int32) × Int32 × (Nat → Int32) × Int32 × Int32 × Int32 × Int32 × (Nat → Int32) => [(h0, xO 6 [.ref h1, .ref g0, .ref h7, .ref g1, .ref h16, .int v_isKept]), (h1, xO 0 [.ref h2, .ref h5, .int u.2.1, .int u.2.2.1, .int u.2.2.2.1, .long u.2.2.2.2.1, .int u.2.2.2.2.2.1, .int u.2.2.2.2.2.2.1]), (h2, xO 2 [.ref h3, .ref h4, .int u.2.2.2.2.2.2.2.1]), (h3, xI X 6 u.2.2.2.2.2.2.2.2.1), (h4, xI X 6 u.2.2.2.2.2.2.2.2.2.1), (h5, xO 3 [.ref h6, .ref g2, .int u.2.2.2.2.2.2.2.2.2.2.1]), (h6, xI X 10 u.2.2.2.2.2.2.2.2.2.2.2.1), (h7, xO 1 [.ref h14, .ref h8, .int u.2.2.2.2.2.2.2.2.2.2.2.2.1]), (h8, xO 0 [.ref h9, .ref h12, .int u.2.2.2.2.2.2.2.2.2.2.2.2.2.1, .int u.2.2.2.2.2.2.2.2.2.2.2.2.2.2.1, .int u.2.2.2.2.2.2.2.2.2.2.2.2.2.2.2.1, .long u.2.2.2.2.2.2.2.2.2.2.2.2.2.2.2.2.1, .int u.2.2.2.2.2.2.2.2.2.2.2.2.2.2.2.2.2.1, .int u.2.2.2.2.2.2.2.2.2.2.2.2.2.2.2.2.2.2.1]), (h9, xO 2 [.ref h10, .ref h11, .int u.2.2.2.2.2.2.2.2.2.2.2.2.2.2.2.2.2.2.2.1]), (h10, xI X 6 u.2.2.2.2.2.2.2.2.2.2.2.2.2.2.2.2.2.2.2.2.1), (h11, xI X 6 u.2.2.2.2.2.2.2.2.2.2.2.2.2.2.2.2.2.2.2.2.2.1), (h12, xO 3 [.ref h13, .ref g3, .int u.2.2.2.2.2.2.2.2.2.2.2.2.2.2.2.2.2.2.2.2.2.2.1]), (h13, xI X 10 u.2.2.2.2.2.2.2.2.2.2.2.2.2.2.2.2.2.2.2.2.2.2.2.1), (h14, xO 5 [.ref h15, .int u.2.2.2.2.2.2.2.2.2.2.2.2.2.2.2.2.2.2.2.2.2.2.2.2.1, .int u.2.2.2.2.2.2.2.2.2.2.2.2.2.2.2.2.2.2.2.2.2.2.2.2.2.1, .int u.2.2.2.2.2.2.2.2.2.2.2.2.2.2.2.2.2.2.2.2.2.2.2.2.2.2.1, .int u.2.2.2.2.2.2.2.2.2.2.2.2.2.2.2.2.2.2.2.2.2.2.2.2.2.2.2.1]), (h15, xI X 250 v_reader_tape_bytes), (h16, xI X 5 u.2.2.2.2.2.2.2.2.2.2.2.2.2.2.2.2.2.2.2.2.2.2.2.2.2.2.2.2)]) hC hr hlk trivial hf hH rfl rfl dX6_lake_74
  · have hf := xt c3 hf
    refine lv_aload_n hx hb dX6_lake_38 rfl (lv_at hl 1 rfl) ?_
    refine lv_bipush (v := (-2 : Int32)) hx hb dX6_lake_39 (by decide) ?_
    obtain ⟨u5, hf5, hf⟩ := xb hf
    refine x_ranw (ws' := [(h0, xO 6 [.ref h1, .ref g0, .ref h7, .ref g1, .ref h16, .int v_isKept]), (h1, xO 0 [.ref h2, .ref h5, .int v_now_inForce, .int v_now_depth, .int v_now_miss, .long v_now_ring, .int v_now_steps, .int v_now_seed]), (h2, xO 2 [.ref h3, .ref h4, .int v_now_laws_count]), (h3, xI X 6 v_now_laws_kinds), (h4, xI X 6 v_now_laws_tunes), (h5, xO 3 [.ref h6, .ref g2, .int v_now_people_count]), (h6, xI X 10 v_now_people_ages), (h7, xO 1 [.ref h14, .ref h8, .int u2.2.1]), (h8, xO 0 [.ref h9, .ref h12, .int u2.2.2.1, .int u2.2.2.2.1, .int u2.2.2.2.2.1, .long u2.2.2.2.2.2.1, .int u2.2.2.2.2.2.2.1, .int u1.2.2.2.2.2.1]), (h9, xO 2 [.ref h10, .ref h11, .int u2.2.2.2.2.2.2.2.1]), (h10, xI X 6 u2.2.2.2.2.2.2.2.2.1), (h11, xI X 6 u2.2.2.2.2.2.2.2.2.2.1), (h12, xO 3 [.ref h13, .ref g3, .int u2.2.2.2.2.2.2.2.2.2.2.1]), (h13, xI X 10 u2.2.2.2.2.2.2.2.2.2.2.2.1), (h14, xO 5 [.ref h15, .int (nI 0), .int u2.2.2.2.2.2.2.2.2.2.2.2.2.1, .int u2.2.2.2.2.2.2.2.2.2.2.2.2.2.1, .int u2.2.2.2.2.2.2.2.2.2.2.2.2.2.2]), (h15, xI X 250 v_reader_tape_bytes), (h16, xI X 5 u5.2)]) (x_runV (q0 := 0) (rest := []) (As := [.int (-2 : Int32)]) hC mw_100 md_X6_refuse (c_X6_refuse (X := X) hf5) hH [0, 16] rfl (by decide) rfl rfl rfl hl.1 rfl rfl (Nat.le_of_ble_eq_true rfl) dX6_lake_41 ⟨Nat.le_of_ble_eq_true rfl, Nat.le_of_ble_eq_true rfl⟩ ⟨rfl, rfl⟩ ⟨Nat.le_refl _, Nat.le_refl _⟩) hH [0, 16] rfl rfl rfl rfl rfl (fun hz5 H locs hH => ?_)
    refine lv_pop hx hb dX6_lake_44 rfl ?_
    refine lv_bipush (v := (-20 : Int32)) hx hb dX6_lake_45 (by decide) ?_
    refine lv_aload_n hx hb dX6_lake_47 rfl (lv_at hl 1 rfl) ?_
    refine x_get hC fd_RX6_22 hH.1 0 rfl rfl dX6_lake_48 ?_
    refine x_getN hC fd_RX6_154 hH.1 7 rfl rfl dX6_lake_51 ?_
    refine x_getN hC fd_RX6_176 hH.1 14 rfl rfl dX6_lake_54 ?_
    refine lv_isub hx hb dX6_lake_57 ?_
    exact x_retiw (φ := fun _ => True) (f := fun u : Int32 × Int32 × Int32 × Int32 × Int64 × Int32 × Int32 × Int32 × (Nat → Int32) × (Nat → Int32) × Int32 × (Nat → Int32) × Int32 × Int32 × Int32 × Int32 × Int64 × Int32 × Int32 × Int32 × (Nat → Int32) × (Nat → Int32) × Int32 × (Nat → Int32) × Int32 × Int32 × Int32 × Int32 × (Nat → Int32) => u.1) (wf := fun u : Int32 × Int32 × Int32 × Int32 × Int64 × Int32 × Int32 × Int32 × (Nat → Int32) × (Nat → Int32) × Int32 × (Nat → Int32) × Int32 × Int32 × Int32 × Int32 × Int64 × Int32 × Int32 × Int32 × (Nat → Int32) × (Nat → Int32) × Int32 × (Nat → Int32) × Int32 × Int32 × Int32 × Int32 × (Nat → Int32) => [(h0, xO 6 [.ref h1, .ref g0, .ref h7, .ref g1, .ref h16, .int v_isKept]), (h1, xO 0 [.ref h2, .ref h5, .int u.2.1, .int u.2.2.1, .int u.2.2.2.1, .long u.2.2.2.2.1, .int u.2.2.2.2.2.1, .int u.2.2.2.2.2.2.1]), (h2, xO 2 [.ref h3, .ref h4, .int u.2.2.2.2.2.2.2.1]), (h3, xI X 6 u.2.2.2.2.2.2.2.2.1), (h4, xI X 6 u.2.2.2.2.2.2.2.2.2.1), (h5, xO 3 [.ref h6, .ref g2, .int u.2.2.2.2.2.2.2.2.2.2.1]), (h6, xI X 10 u.2.2.2.2.2.2.2.2.2.2.2.1), (h7, xO 1 [.ref h14, .ref h8, .int u.2.2.2.2.2.2.2.2.2.2.2.2.1]), (h8, xO 0 [.ref h9, .ref h12, .int u.2.2.2.2.2.2.2.2.2.2.2.2.2.1, .int u.2.2.2.2.2.2.2.2.2.2.2.2.2.2.1, .int u.2.2.2.2.2.2.2.2.2.2.2.2.2.2.2.1, .long u.2.2.2.2.2.2.2.2.2.2.2.2.2.2.2.2.1, .int u.2.2.2.2.2.2.2.2.2.2.2.2.2.2.2.2.2.1, .int u.2.2.2.2.2.2.2.2.2.2.2.2.2.2.2.2.2.2.1]), (h9, xO 2 [.ref h10, .ref h11, .int u.2.2.2.2.2.2.2.2.2.2.2.2.2.2.2.2.2.2.2.1]), (h10, xI X 6 u.2.2.2.2.2.2.2.2.2.2.2.2.2.2.2.2.2.2.2.2.1), (h11, xI X 6 u.2.2.2.2.2.2.2.2.2.2.2.2.2.2.2.2.2.2.2.2.2.1), (h12, xO 3 [.ref h13, .ref g3, .int u.2.2.2.2.2.2.2.2.2.2.2.2.2.2.2.2.2.2.2.2.2.2.1]), (h13, xI X 10 u.2.2.2.2.2.2.2.2.2.2.2.2.2.2.2.2.2.2.2.2.2.2.2.1), (h14, xO 5 [.ref h15, .int u.2.2.2.2.2.2.2.2.2.2.2.2.2.2.2.2.2.2.2.2.2.2.2.2.1, .int u.2.2.2.2.2.2.2.2.2.2.2.2.2.2.2.2.2.2.2.2.2.2.2.2.2.1, .int u.2.2.2.2.2.2.2.2.2.2.2.2.2.2.2.2.2.2.2.2.2.2.2.2.2.2.1, .int u.2.2.2.2.2.2.2.2.2.2.2.2.2.2.2.2.2.2.2.2.2.2.2.2.2.2.2.1]), (h15, xI X 250 v_reader_tape_bytes), (h16, xI X 5 u.2.2.2.2.2.2.2.2.2.2.2.2.2.2.2.2.2.2.2.2.2.2.2.2.2.2.2.2)]) hC hr hlk trivial hf hH rfl rfl dX6_lake_58
def f_X6_lawOf (v_now_laws_count : Int32) (v_now_laws_kinds : (Nat → Int32)) (v_now_laws_tunes : (Nat → Int32)) (v_refusals : (Nat → Int32)) (p1 : Int32) (p2 : Int32) : Option (Int32 × (Nat → Int32)) :=
  (f_X2_isThere v_now_laws_count p1).bind fun u1 =>
  if u1 = (nI 0) then
    (f_X6_refuse v_refusals (-2 : Int32)).bind fun u3 =>
    some (u3.1, u3.2)
  else
  (f_X6_isWithin p2 (nI 0) (nI 1)).bind fun u4 =>
  if u4 = (nI 0) then
    (f_X6_refuse v_refusals (-2 : Int32)).bind fun u9 =>
    some (u9.1, u9.2)
  else
  if p2 = (nI 0) then
    (f_X2_kindOf v_now_laws_kinds p1).bind fun u8 =>
    some (u8, v_refusals)
  else
  (f_X2_tuneOf v_now_laws_tunes p1).bind fun u7 =>
  some (u7, v_refusals)
set_option maxHeartbeats 4000000 in
set_option maxRecDepth 100000 in
theorem c_X6_lawOf {l : Launch} {X : xG} {h0 h1 h2 h3 h4 h5 g0 g1 g2 g3 : Nat} {v_isKept : Int32} {v_now_inForce : Int32} {v_now_depth : Int32} {v_now_miss : Int32} {v_now_ring : Int64} {v_now_steps : Int32} {v_now_seed : Int32} {v_now_laws_count : Int32} {v_now_laws_kinds : (Nat → Int32)} {v_now_laws_tunes : (Nat → Int32)} {v_refusals : (Nat → Int32)} {p1 : Int32} {p2 : Int32} {u : Int32 × (Nat → Int32)} (hf : f_X6_lawOf v_now_laws_count v_now_laws_kinds v_now_laws_tunes v_refusals p1 p2 = some u) : Met l yX6_lawOf (xw yX6_lawOf cX6_lawOf 3 (some .int)) (xrm 2 43) (xPc [.ref h0, .int p1, .int p2] X [(h0, xO 6 [.ref h1, .ref g0, .ref g1, .ref g2, .ref h5, .int v_isKept]), (h1, xO 0 [.ref h2, .ref g3, .int v_now_inForce, .int v_now_depth, .int v_now_miss, .long v_now_ring, .int v_now_steps, .int v_now_seed]), (h2, xO 2 [.ref h3, .ref h4, .int v_now_laws_count]), (h3, xI X 6 v_now_laws_kinds), (h4, xI X 6 v_now_laws_tunes), (h5, xI X 5 v_refusals)]) (xQw True (.returned (some (.int u.1))) X [(h0, xO 6 [.ref h1, .ref g0, .ref g1, .ref g2, .ref h5, .int v_isKept]), (h1, xO 0 [.ref h2, .ref g3, .int v_now_inForce, .int v_now_depth, .int v_now_miss, .long v_now_ring, .int v_now_steps, .int v_now_seed]), (h2, xO 2 [.ref h3, .ref h4, .int v_now_laws_count]), (h3, xI X 6 v_now_laws_kinds), (h4, xI X 6 v_now_laws_tunes), (h5, xI X 5 u.2)] (xAs [(h0, xO 6 [.ref h1, .ref g0, .ref g1, .ref g2, .ref h5, .int v_isKept]), (h1, xO 0 [.ref h2, .ref g3, .int v_now_inForce, .int v_now_depth, .int v_now_miss, .long v_now_ring, .int v_now_steps, .int v_now_seed]), (h2, xO 2 [.ref h3, .ref h4, .int v_now_laws_count]), (h3, xI X 6 v_now_laws_kinds), (h4, xI X 6 v_now_laws_tunes), (h5, xI X 5 v_refusals)])) 0 0 (xAs [(h0, xO 6 [.ref h1, .ref g0, .ref g1, .ref g2, .ref h5, .int v_isKept]), (h1, xO 0 [.ref h2, .ref g3, .int v_now_inForce, .int v_now_depth, .int v_now_miss, .long v_now_ring, .int v_now_steps, .int v_now_seed]), (h2, xO 2 [.ref h3, .ref h4, .int v_now_laws_count]), (h3, xI X 6 v_now_laws_kinds), (h4, xI X 6 v_now_laws_tunes), (h5, xI X 5 v_refusals)]) := by
  refine xMetw (Qc := fun A => xQw True (.returned (some (.int u.1))) X [(h0, xO 6 [.ref h1, .ref g0, .ref g1, .ref g2, .ref h5, .int v_isKept]), (h1, xO 0 [.ref h2, .ref g3, .int v_now_inForce, .int v_now_depth, .int v_now_miss, .long v_now_ring, .int v_now_steps, .int v_now_seed]), (h2, xO 2 [.ref h3, .ref h4, .int v_now_laws_count]), (h3, xI X 6 v_now_laws_kinds), (h4, xI X 6 v_now_laws_tunes), (h5, xI X 5 u.2)] A) (n := 2) md_X6_lawOf.1 (Nat.le_of_ble_eq_true rfl) ?_
  intro p e s m args below meth c ls A hC hr hlk hH hl
  have hl : lv_has ls 3 [(0, .ref h0), (1, .int p1), (2, .int p2)] := hl
  have hx := hC.1
  have hb := hC.2.1
  refine lv_aload_n hx hb dX6_lawOf_0 rfl (lv_at hl 0 rfl) ?_
  refine x_get hC fd_RX6_10 hH.1 0 rfl rfl dX6_lawOf_1 ?_
  refine x_getN hC fd_RX6_81 hH.1 1 rfl rfl dX6_lawOf_4 ?_
  refine lv_iload_n hx hb dX6_lawOf_7 rfl (lv_at hl 1 rfl) ?_
  obtain ⟨u1, hf1, hf⟩ := xb hf
  refine x_ran (x_runV (q0 := 0) (rest := []) (As := [.int p1]) hC mw_226 md_X2_isThere (c_X2_isThere (X := X) hf1) hH [2] rfl (by decide) rfl rfl rfl hl.1 rfl rfl (Nat.le_of_ble_eq_true rfl) dX6_lawOf_8 ⟨Nat.le_of_ble_eq_true rfl, Nat.le_of_ble_eq_true rfl⟩ ⟨rfl, rfl⟩ ⟨Nat.le_refl _, Nat.le_refl _⟩) rfl (fun hz1 => ?_)
  refine lv_if_eq (tgt := 23) hx hb dX6_lawOf_11 (by decide) (fun c2 => ?_) (fun c2 => ?_)
  · have hf := xt c2 hf
    refine lv_aload_n hx hb dX6_lawOf_23 rfl (lv_at hl 0 rfl) ?_
    refine lv_bipush (v := (-2 : Int32)) hx hb dX6_lawOf_24 (by decide) ?_
    obtain ⟨u3, hf3, hf⟩ := xb hf
    refine x_ranw (ws' := [(h0, xO 6 [.ref h1, .ref g0, .ref g1, .ref g2, .ref h5, .int v_isKept]), (h1, xO 0 [.ref h2, .ref g3, .int v_now_inForce, .int v_now_depth, .int v_now_miss, .long v_now_ring, .int v_now_steps, .int v_now_seed]), (h2, xO 2 [.ref h3, .ref h4, .int v_now_laws_count]), (h3, xI X 6 v_now_laws_kinds), (h4, xI X 6 v_now_laws_tunes), (h5, xI X 5 u3.2)]) (x_runV (q0 := 0) (rest := []) (As := [.int (-2 : Int32)]) hC mw_100 md_X6_refuse (c_X6_refuse (X := X) hf3) hH [0, 5] rfl (by decide) rfl rfl rfl hl.1 rfl rfl (Nat.le_of_ble_eq_true rfl) dX6_lawOf_26 ⟨Nat.le_of_ble_eq_true rfl, Nat.le_of_ble_eq_true rfl⟩ ⟨rfl, rfl⟩ ⟨Nat.le_refl _, Nat.le_refl _⟩) hH [0, 5] rfl rfl rfl rfl rfl (fun hz3 H locs hH => ?_)
    exact x_retiw (φ := fun _ => True) (f := fun u : Int32 × (Nat → Int32) => u.1) (wf := fun u : Int32 × (Nat → Int32) => [(h0, xO 6 [.ref h1, .ref g0, .ref g1, .ref g2, .ref h5, .int v_isKept]), (h1, xO 0 [.ref h2, .ref g3, .int v_now_inForce, .int v_now_depth, .int v_now_miss, .long v_now_ring, .int v_now_steps, .int v_now_seed]), (h2, xO 2 [.ref h3, .ref h4, .int v_now_laws_count]), (h3, xI X 6 v_now_laws_kinds), (h4, xI X 6 v_now_laws_tunes), (h5, xI X 5 u.2)]) hC hr hlk trivial hf hH rfl rfl dX6_lawOf_29
  · have hf := xe c2 hf
    refine lv_iload_n hx hb dX6_lawOf_14 rfl (lv_at hl 2 rfl) ?_
    refine lv_iconst (v := (nI 0)) hx hb dX6_lawOf_15 (by decide) ?_
    refine lv_iconst (v := (nI 1)) hx hb dX6_lawOf_16 (by decide) ?_
    obtain ⟨u4, hf4, hf⟩ := xb hf
    refine x_ran (x_runS (rest := []) (As := [.int p2, .int (nI 0), .int (nI 1)]) hC mw_99 md_X6_isWithin (c_X6_isWithin (X := X) hf4) hH [] rfl (by decide) hl.1 rfl rfl (Nat.le_of_ble_eq_true rfl) dX6_lawOf_17 ⟨Nat.le_of_ble_eq_true rfl, Nat.le_of_ble_eq_true rfl⟩ ⟨rfl, rfl⟩ ⟨Nat.le_refl _, Nat.le_refl _⟩) rfl (fun hz4 => ?_)
    refine lv_if_ne (tgt := 30) hx hb dX6_lawOf_20 (by decide) (fun c5 => ?_) (fun c5 => ?_)
    · have hf := xe c5 hf
      refine lv_iload_n hx hb dX6_lawOf_30 rfl (lv_at hl 2 rfl) ?_
      refine lv_if_ne (tgt := 48) hx hb dX6_lawOf_31 (by decide) (fun c6 => ?_) (fun c6 => ?_)
      · have hf := xe c6 hf
        refine lv_aload_n hx hb dX6_lawOf_48 rfl (lv_at hl 0 rfl) ?_
        refine x_get hC fd_RX6_10 hH.1 0 rfl rfl dX6_lawOf_49 ?_
        refine x_getN hC fd_RX6_81 hH.1 1 rfl rfl dX6_lawOf_52 ?_
        refine lv_iload_n hx hb dX6_lawOf_55 rfl (lv_at hl 1 rfl) ?_
        obtain ⟨u7, hf7, hf⟩ := xb hf
        refine x_ran (x_runV (q0 := 0) (rest := []) (As := [.int p1]) hC mw_262 md_X2_tuneOf (c_X2_tuneOf (X := X) hf7) hH [2, 4] rfl (by decide) rfl rfl rfl hl.1 rfl rfl (Nat.le_of_ble_eq_true rfl) dX6_lawOf_56 ⟨Nat.le_of_ble_eq_true rfl, Nat.le_of_ble_eq_true rfl⟩ ⟨rfl, rfl⟩ ⟨Nat.le_refl _, Nat.le_refl _⟩) rfl (fun hz7 => ?_)
        exact x_retiw (φ := fun _ => True) (f := fun u : Int32 × (Nat → Int32) => u.1) (wf := fun u : Int32 × (Nat → Int32) => [(h0, xO 6 [.ref h1, .ref g0, .ref g1, .ref g2, .ref h5, .int v_isKept]), (h1, xO 0 [.ref h2, .ref g3, .int v_now_inForce, .int v_now_depth, .int v_now_miss, .long v_now_ring, .int v_now_steps, .int v_now_seed]), (h2, xO 2 [.ref h3, .ref h4, .int v_now_laws_count]), (h3, xI X 6 v_now_laws_kinds), (h4, xI X 6 v_now_laws_tunes), (h5, xI X 5 u.2)]) hC hr hlk trivial hf hH rfl rfl dX6_lawOf_59
      · have hf := xt c6 hf
        refine lv_aload_n hx hb dX6_lawOf_34 rfl (lv_at hl 0 rfl) ?_
        refine x_get hC fd_RX6_10 hH.1 0 rfl rfl dX6_lawOf_35 ?_
        refine x_getN hC fd_RX6_81 hH.1 1 rfl rfl dX6_lawOf_38 ?_
        refine lv_iload_n hx hb dX6_lawOf_41 rfl (lv_at hl 1 rfl) ?_
        obtain ⟨u8, hf8, hf⟩ := xb hf
        refine x_ran (x_runV (q0 := 0) (rest := []) (As := [.int p1]) hC mw_255 md_X2_kindOf (c_X2_kindOf (X := X) hf8) hH [2, 3] rfl (by decide) rfl rfl rfl hl.1 rfl rfl (Nat.le_of_ble_eq_true rfl) dX6_lawOf_42 ⟨Nat.le_of_ble_eq_true rfl, Nat.le_of_ble_eq_true rfl⟩ ⟨rfl, rfl⟩ ⟨Nat.le_refl _, Nat.le_refl _⟩) rfl (fun hz8 => ?_)
        refine lv_goto (tgt := 59) hx hb dX6_lawOf_45 (by decide) ?_
        exact x_retiw (φ := fun _ => True) (f := fun u : Int32 × (Nat → Int32) => u.1) (wf := fun u : Int32 × (Nat → Int32) => [(h0, xO 6 [.ref h1, .ref g0, .ref g1, .ref g2, .ref h5, .int v_isKept]), (h1, xO 0 [.ref h2, .ref g3, .int v_now_inForce, .int v_now_depth, .int v_now_miss, .long v_now_ring, .int v_now_steps, .int v_now_seed]), (h2, xO 2 [.ref h3, .ref h4, .int v_now_laws_count]), (h3, xI X 6 v_now_laws_kinds), (h4, xI X 6 v_now_laws_tunes), (h5, xI X 5 u.2)]) hC hr hlk trivial hf hH rfl rfl dX6_lawOf_59
    · have hf := xt c5 hf
      refine lv_aload_n hx hb dX6_lawOf_23 rfl (lv_at hl 0 rfl) ?_
      refine lv_bipush (v := (-2 : Int32)) hx hb dX6_lawOf_24 (by decide) ?_
      obtain ⟨u9, hf9, hf⟩ := xb hf
      refine x_ranw (ws' := [(h0, xO 6 [.ref h1, .ref g0, .ref g1, .ref g2, .ref h5, .int v_isKept]), (h1, xO 0 [.ref h2, .ref g3, .int v_now_inForce, .int v_now_depth, .int v_now_miss, .long v_now_ring, .int v_now_steps, .int v_now_seed]), (h2, xO 2 [.ref h3, .ref h4, .int v_now_laws_count]), (h3, xI X 6 v_now_laws_kinds), (h4, xI X 6 v_now_laws_tunes), (h5, xI X 5 u9.2)]) (x_runV (q0 := 0) (rest := []) (As := [.int (-2 : Int32)]) hC mw_100 md_X6_refuse (c_X6_refuse (X := X) hf9) hH [0, 5] rfl (by decide) rfl rfl rfl hl.1 rfl rfl (Nat.le_of_ble_eq_true rfl) dX6_lawOf_26 ⟨Nat.le_of_ble_eq_true rfl, Nat.le_of_ble_eq_true rfl⟩ ⟨rfl, rfl⟩ ⟨Nat.le_refl _, Nat.le_refl _⟩) hH [0, 5] rfl rfl rfl rfl rfl (fun hz9 H locs hH => ?_)
      exact x_retiw (φ := fun _ => True) (f := fun u : Int32 × (Nat → Int32) => u.1) (wf := fun u : Int32 × (Nat → Int32) => [(h0, xO 6 [.ref h1, .ref g0, .ref g1, .ref g2, .ref h5, .int v_isKept]), (h1, xO 0 [.ref h2, .ref g3, .int v_now_inForce, .int v_now_depth, .int v_now_miss, .long v_now_ring, .int v_now_steps, .int v_now_seed]), (h2, xO 2 [.ref h3, .ref h4, .int v_now_laws_count]), (h3, xI X 6 v_now_laws_kinds), (h4, xI X 6 v_now_laws_tunes), (h5, xI X 5 u.2)]) hC hr hlk trivial hf hH rfl rfl dX6_lawOf_29
def f_X6_age (v_now_people_count : Int32) (v_now_people_ages : (Nat → Int32)) (v_refusals : (Nat → Int32)) (p1 : Int32) : Option (Int32 × (Nat → Int32)) :=
  (f_X3_isThere v_now_people_count p1).bind fun u1 =>
  if u1 = (nI 0) then
    (f_X6_refuse v_refusals (-2 : Int32)).bind fun u3 =>
    some (u3.1, u3.2)
  else
  (f_X3_ageOf v_now_people_ages p1).bind fun u4 =>
  some (u4, v_refusals)
set_option maxHeartbeats 4000000 in
set_option maxRecDepth 100000 in
theorem c_X6_age {l : Launch} {X : xG} {h0 h1 h2 h3 h4 g0 g1 g2 g3 g4 : Nat} {v_isKept : Int32} {v_now_inForce : Int32} {v_now_depth : Int32} {v_now_miss : Int32} {v_now_ring : Int64} {v_now_steps : Int32} {v_now_seed : Int32} {v_now_people_count : Int32} {v_now_people_ages : (Nat → Int32)} {v_refusals : (Nat → Int32)} {p1 : Int32} {u : Int32 × (Nat → Int32)} (hf : f_X6_age v_now_people_count v_now_people_ages v_refusals p1 = some u) : Met l yX6_age (xw yX6_age cX6_age 2 (some .int)) (xrm 2 43) (xPc [.ref h0, .int p1] X [(h0, xO 6 [.ref h1, .ref g0, .ref g1, .ref g2, .ref h4, .int v_isKept]), (h1, xO 0 [.ref g3, .ref h2, .int v_now_inForce, .int v_now_depth, .int v_now_miss, .long v_now_ring, .int v_now_steps, .int v_now_seed]), (h2, xO 3 [.ref h3, .ref g4, .int v_now_people_count]), (h3, xI X 10 v_now_people_ages), (h4, xI X 5 v_refusals)]) (xQw True (.returned (some (.int u.1))) X [(h0, xO 6 [.ref h1, .ref g0, .ref g1, .ref g2, .ref h4, .int v_isKept]), (h1, xO 0 [.ref g3, .ref h2, .int v_now_inForce, .int v_now_depth, .int v_now_miss, .long v_now_ring, .int v_now_steps, .int v_now_seed]), (h2, xO 3 [.ref h3, .ref g4, .int v_now_people_count]), (h3, xI X 10 v_now_people_ages), (h4, xI X 5 u.2)] (xAs [(h0, xO 6 [.ref h1, .ref g0, .ref g1, .ref g2, .ref h4, .int v_isKept]), (h1, xO 0 [.ref g3, .ref h2, .int v_now_inForce, .int v_now_depth, .int v_now_miss, .long v_now_ring, .int v_now_steps, .int v_now_seed]), (h2, xO 3 [.ref h3, .ref g4, .int v_now_people_count]), (h3, xI X 10 v_now_people_ages), (h4, xI X 5 v_refusals)])) 0 0 (xAs [(h0, xO 6 [.ref h1, .ref g0, .ref g1, .ref g2, .ref h4, .int v_isKept]), (h1, xO 0 [.ref g3, .ref h2, .int v_now_inForce, .int v_now_depth, .int v_now_miss, .long v_now_ring, .int v_now_steps, .int v_now_seed]), (h2, xO 3 [.ref h3, .ref g4, .int v_now_people_count]), (h3, xI X 10 v_now_people_ages), (h4, xI X 5 v_refusals)]) := by
  refine xMetw (Qc := fun A => xQw True (.returned (some (.int u.1))) X [(h0, xO 6 [.ref h1, .ref g0, .ref g1, .ref g2, .ref h4, .int v_isKept]), (h1, xO 0 [.ref g3, .ref h2, .int v_now_inForce, .int v_now_depth, .int v_now_miss, .long v_now_ring, .int v_now_steps, .int v_now_seed]), (h2, xO 3 [.ref h3, .ref g4, .int v_now_people_count]), (h3, xI X 10 v_now_people_ages), (h4, xI X 5 u.2)] A) (n := 1) md_X6_age.1 (Nat.le_of_ble_eq_true rfl) ?_
  intro p e s m args below meth c ls A hC hr hlk hH hl
  have hl : lv_has ls 2 [(0, .ref h0), (1, .int p1)] := hl
  have hx := hC.1
  have hb := hC.2.1
  refine lv_aload_n hx hb dX6_age_0 rfl (lv_at hl 0 rfl) ?_
  refine x_get hC fd_RX6_10 hH.1 0 rfl rfl dX6_age_1 ?_
  refine x_getN hC fd_RX6_145 hH.1 1 rfl rfl dX6_age_4 ?_
  refine lv_iload_n hx hb dX6_age_7 rfl (lv_at hl 1 rfl) ?_
  obtain ⟨u1, hf1, hf⟩ := xb hf
  refine x_ran (x_runV (q0 := 0) (rest := []) (As := [.int p1]) hC mw_656 md_X3_isThere (c_X3_isThere (X := X) hf1) hH [2] rfl (by decide) rfl rfl rfl hl.1 rfl rfl (Nat.le_of_ble_eq_true rfl) dX6_age_8 ⟨Nat.le_of_ble_eq_true rfl, Nat.le_of_ble_eq_true rfl⟩ ⟨rfl, rfl⟩ ⟨Nat.le_refl _, Nat.le_refl _⟩) rfl (fun hz1 => ?_)
  refine lv_if_eq (tgt := 28) hx hb dX6_age_11 (by decide) (fun c2 => ?_) (fun c2 => ?_)
  · have hf := xt c2 hf
    refine lv_aload_n hx hb dX6_age_28 rfl (lv_at hl 0 rfl) ?_
    refine lv_bipush (v := (-2 : Int32)) hx hb dX6_age_29 (by decide) ?_
    obtain ⟨u3, hf3, hf⟩ := xb hf
    refine x_ranw (ws' := [(h0, xO 6 [.ref h1, .ref g0, .ref g1, .ref g2, .ref h4, .int v_isKept]), (h1, xO 0 [.ref g3, .ref h2, .int v_now_inForce, .int v_now_depth, .int v_now_miss, .long v_now_ring, .int v_now_steps, .int v_now_seed]), (h2, xO 3 [.ref h3, .ref g4, .int v_now_people_count]), (h3, xI X 10 v_now_people_ages), (h4, xI X 5 u3.2)]) (x_runV (q0 := 0) (rest := []) (As := [.int (-2 : Int32)]) hC mw_100 md_X6_refuse (c_X6_refuse (X := X) hf3) hH [0, 4] rfl (by decide) rfl rfl rfl hl.1 rfl rfl (Nat.le_of_ble_eq_true rfl) dX6_age_31 ⟨Nat.le_of_ble_eq_true rfl, Nat.le_of_ble_eq_true rfl⟩ ⟨rfl, rfl⟩ ⟨Nat.le_refl _, Nat.le_refl _⟩) hH [0, 4] rfl rfl rfl rfl rfl (fun hz3 H locs hH => ?_)
    exact x_retiw (φ := fun _ => True) (f := fun u : Int32 × (Nat → Int32) => u.1) (wf := fun u : Int32 × (Nat → Int32) => [(h0, xO 6 [.ref h1, .ref g0, .ref g1, .ref g2, .ref h4, .int v_isKept]), (h1, xO 0 [.ref g3, .ref h2, .int v_now_inForce, .int v_now_depth, .int v_now_miss, .long v_now_ring, .int v_now_steps, .int v_now_seed]), (h2, xO 3 [.ref h3, .ref g4, .int v_now_people_count]), (h3, xI X 10 v_now_people_ages), (h4, xI X 5 u.2)]) hC hr hlk trivial hf hH rfl rfl dX6_age_34
  · have hf := xe c2 hf
    refine lv_aload_n hx hb dX6_age_14 rfl (lv_at hl 0 rfl) ?_
    refine x_get hC fd_RX6_10 hH.1 0 rfl rfl dX6_age_15 ?_
    refine x_getN hC fd_RX6_145 hH.1 1 rfl rfl dX6_age_18 ?_
    refine lv_iload_n hx hb dX6_age_21 rfl (lv_at hl 1 rfl) ?_
    obtain ⟨u4, hf4, hf⟩ := xb hf
    refine x_ran (x_runV (q0 := 0) (rest := []) (As := [.int p1]) hC mw_660 md_X3_ageOf (c_X3_ageOf (X := X) hf4) hH [2, 3] rfl (by decide) rfl rfl rfl hl.1 rfl rfl (Nat.le_of_ble_eq_true rfl) dX6_age_22 ⟨Nat.le_of_ble_eq_true rfl, Nat.le_of_ble_eq_true rfl⟩ ⟨rfl, rfl⟩ ⟨Nat.le_refl _, Nat.le_refl _⟩) rfl (fun hz4 => ?_)
    refine lv_goto (tgt := 34) hx hb dX6_age_25 (by decide) ?_
    exact x_retiw (φ := fun _ => True) (f := fun u : Int32 × (Nat → Int32) => u.1) (wf := fun u : Int32 × (Nat → Int32) => [(h0, xO 6 [.ref h1, .ref g0, .ref g1, .ref g2, .ref h4, .int v_isKept]), (h1, xO 0 [.ref g3, .ref h2, .int v_now_inForce, .int v_now_depth, .int v_now_miss, .long v_now_ring, .int v_now_steps, .int v_now_seed]), (h2, xO 3 [.ref h3, .ref g4, .int v_now_people_count]), (h3, xI X 10 v_now_people_ages), (h4, xI X 5 u.2)]) hC hr hlk trivial hf hH rfl rfl dX6_age_34
def f_X6_isStep (v_now_steps : Int32) (p1 : Int32) : Option (Int32) :=
  (f_X6_isWithin p1 (nI 0) (v_now_steps - (nI 1))).bind fun u1 =>
  some u1
set_option maxHeartbeats 4000000 in
set_option maxRecDepth 100000 in
theorem c_X6_isStep {l : Launch} {X : xG} {h0 h1 g0 g1 g2 g3 g4 g5 : Nat} {v_isKept : Int32} {v_now_inForce : Int32} {v_now_depth : Int32} {v_now_miss : Int32} {v_now_ring : Int64} {v_now_steps : Int32} {v_now_seed : Int32} {p1 : Int32} {u : Int32} (hf : f_X6_isStep v_now_steps p1 = some u) : Met l yX6_isStep (xw yX6_isStep cX6_isStep 2 (some .boolean)) (xrm 1 22) (xPc [.ref h0, .int p1] X [(h0, xO 6 [.ref h1, .ref g0, .ref g1, .ref g2, .ref g3, .int v_isKept]), (h1, xO 0 [.ref g4, .ref g5, .int v_now_inForce, .int v_now_depth, .int v_now_miss, .long v_now_ring, .int v_now_steps, .int v_now_seed])]) (xQ (u = 0 ∨ u = 1) (.returned (some (.int u)))) 0 0 xNo := by
  refine xMet (n := 1) md_X6_isStep.1 (Nat.le_of_ble_eq_true rfl) ?_
  intro p e s m args below meth c ls A hC hr hlk hH hl
  have hl : lv_has ls 2 [(0, .ref h0), (1, .int p1)] := hl
  have hx := hC.1
  have hb := hC.2.1
  refine lv_iload_n hx hb dX6_isStep_0 rfl (lv_at hl 1 rfl) ?_
  refine lv_iconst (v := (nI 0)) hx hb dX6_isStep_1 (by decide) ?_
  refine lv_aload_n hx hb dX6_isStep_2 rfl (lv_at hl 0 rfl) ?_
  refine x_get hC fd_RX6_10 hH.1 0 rfl rfl dX6_isStep_3 ?_
  refine x_getN hC fd_RX6_200 hH.1 1 rfl rfl dX6_isStep_6 ?_
  refine lv_iconst (v := (nI 1)) hx hb dX6_isStep_9 (by decide) ?_
  refine lv_isub hx hb dX6_isStep_10 ?_
  obtain ⟨u1, hf1, hf⟩ := xb hf
  refine x_ran (x_runS (rest := []) (As := [.int p1, .int (nI 0), .int (v_now_steps - (nI 1))]) hC mw_99 md_X6_isWithin (c_X6_isWithin (X := X) hf1) hH [] rfl (by decide) hl.1 rfl rfl (Nat.le_of_ble_eq_true rfl) dX6_isStep_11 ⟨Nat.le_of_ble_eq_true rfl, Nat.le_of_ble_eq_true rfl⟩ ⟨rfl, rfl⟩ ⟨Nat.le_refl _, Nat.le_refl _⟩) rfl (fun hz1 => ?_)
  exact x_retz hC hr hlk hz1 hf dX6_isStep_14
def f_X6_asNumber (p0 : Int32) : Option (Int32) :=
  if p0 = (nI 0) then
    some (nI 0)
  else
  some (nI 1)
set_option maxHeartbeats 4000000 in
set_option maxRecDepth 100000 in
theorem c_X6_asNumber {l : Launch} {X : xG} {p0 : Int32} {u : Int32} (hf : f_X6_asNumber p0 = some u) : Met l yX6_asNumber (xw yX6_asNumber cX6_asNumber 1 (some .int)) (xrm 0 0) (xPc [.int p0] X []) (xQ True (.returned (some (.int u)))) 0 0 xNo := by
  refine xMet (n := 1) md_X6_asNumber.1 (Nat.le_of_ble_eq_true rfl) ?_
  intro p e s m args below meth c ls A hC hr hlk hH hl
  have hl : lv_has ls 1 [(0, .int p0)] := hl
  have hx := hC.1
  have hb := hC.2.1
  refine lv_iload_n hx hb dX6_asNumber_0 rfl (lv_at hl 0 rfl) ?_
  refine lv_if_eq (tgt := 8) hx hb dX6_asNumber_1 (by decide) (fun c1 => ?_) (fun c1 => ?_)
  · have hf := xt c1 hf
    refine lv_iconst (v := (nI 0)) hx hb dX6_asNumber_8 (by decide) ?_
    exact x_reti hC hr hlk trivial hf dX6_asNumber_9
  · have hf := xe c1 hf
    refine lv_iconst (v := (nI 1)) hx hb dX6_asNumber_4 (by decide) ?_
    refine lv_goto (tgt := 9) hx hb dX6_asNumber_5 (by decide) ?_
    exact x_reti hC hr hlk trivial hf dX6_asNumber_9
def f_X6_step (v_now_ring : Int64) (v_now_steps : Int32) (v_refusals : (Nat → Int32)) (p1 : Int32) : Option (Int32 × (Nat → Int32)) :=
  (f_X6_isStep v_now_steps p1).bind fun u1 =>
  if u1 = (nI 0) then
    (f_X6_refuse v_refusals (-2 : Int32)).bind fun u3 =>
    some (u3.1, u3.2)
  else
  (f_X6_isIn v_now_ring p1).bind fun u4 =>
  (f_X6_asNumber u4).bind fun u5 =>
  some (u5, v_refusals)
set_option maxHeartbeats 4000000 in
set_option maxRecDepth 100000 in
theorem c_X6_step {l : Launch} {X : xG} {h0 h1 h2 g0 g1 g2 g3 g4 : Nat} {v_isKept : Int32} {v_now_inForce : Int32} {v_now_depth : Int32} {v_now_miss : Int32} {v_now_ring : Int64} {v_now_steps : Int32} {v_now_seed : Int32} {v_refusals : (Nat → Int32)} {p1 : Int32} {u : Int32 × (Nat → Int32)} (hf : f_X6_step v_now_ring v_now_steps v_refusals p1 = some u) : Met l yX6_step (xw yX6_step cX6_step 2 (some .int)) (xrm 2 43) (xPc [.ref h0, .int p1] X [(h0, xO 6 [.ref h1, .ref g0, .ref g1, .ref g2, .ref h2, .int v_isKept]), (h1, xO 0 [.ref g3, .ref g4, .int v_now_inForce, .int v_now_depth, .int v_now_miss, .long v_now_ring, .int v_now_steps, .int v_now_seed]), (h2, xI X 5 v_refusals)]) (xQw True (.returned (some (.int u.1))) X [(h0, xO 6 [.ref h1, .ref g0, .ref g1, .ref g2, .ref h2, .int v_isKept]), (h1, xO 0 [.ref g3, .ref g4, .int v_now_inForce, .int v_now_depth, .int v_now_miss, .long v_now_ring, .int v_now_steps, .int v_now_seed]), (h2, xI X 5 u.2)] (xAs [(h0, xO 6 [.ref h1, .ref g0, .ref g1, .ref g2, .ref h2, .int v_isKept]), (h1, xO 0 [.ref g3, .ref g4, .int v_now_inForce, .int v_now_depth, .int v_now_miss, .long v_now_ring, .int v_now_steps, .int v_now_seed]), (h2, xI X 5 v_refusals)])) 0 0 (xAs [(h0, xO 6 [.ref h1, .ref g0, .ref g1, .ref g2, .ref h2, .int v_isKept]), (h1, xO 0 [.ref g3, .ref g4, .int v_now_inForce, .int v_now_depth, .int v_now_miss, .long v_now_ring, .int v_now_steps, .int v_now_seed]), (h2, xI X 5 v_refusals)]) := by
  refine xMetw (Qc := fun A => xQw True (.returned (some (.int u.1))) X [(h0, xO 6 [.ref h1, .ref g0, .ref g1, .ref g2, .ref h2, .int v_isKept]), (h1, xO 0 [.ref g3, .ref g4, .int v_now_inForce, .int v_now_depth, .int v_now_miss, .long v_now_ring, .int v_now_steps, .int v_now_seed]), (h2, xI X 5 u.2)] A) (n := 1) md_X6_step.1 (Nat.le_of_ble_eq_true rfl) ?_
  intro p e s m args below meth c ls A hC hr hlk hH hl
  have hl : lv_has ls 2 [(0, .ref h0), (1, .int p1)] := hl
  have hx := hC.1
  have hb := hC.2.1
  refine lv_aload_n hx hb dX6_step_0 rfl (lv_at hl 0 rfl) ?_
  refine lv_iload_n hx hb dX6_step_1 rfl (lv_at hl 1 rfl) ?_
  obtain ⟨u1, hf1, hf⟩ := xb hf
  refine x_ran (x_runV (q0 := 0) (rest := []) (As := [.int p1]) hC mw_673 md_X6_isStep (c_X6_isStep (X := X) hf1) hH [0, 1] rfl (by decide) rfl rfl rfl hl.1 rfl rfl (Nat.le_of_ble_eq_true rfl) dX6_step_2 ⟨Nat.le_of_ble_eq_true rfl, Nat.le_of_ble_eq_true rfl⟩ ⟨rfl, rfl⟩ ⟨Nat.le_refl _, Nat.le_refl _⟩) rfl (fun hz1 => ?_)
  refine lv_if_eq (tgt := 25) hx hb dX6_step_5 (by decide) (fun c2 => ?_) (fun c2 => ?_)
  · have hf := xt c2 hf
    refine lv_aload_n hx hb dX6_step_25 rfl (lv_at hl 0 rfl) ?_
    refine lv_bipush (v := (-2 : Int32)) hx hb dX6_step_26 (by decide) ?_
    obtain ⟨u3, hf3, hf⟩ := xb hf
    refine x_ranw (ws' := [(h0, xO 6 [.ref h1, .ref g0, .ref g1, .ref g2, .ref h2, .int v_isKept]), (h1, xO 0 [.ref g3, .ref g4, .int v_now_inForce, .int v_now_depth, .int v_now_miss, .long v_now_ring, .int v_now_steps, .int v_now_seed]), (h2, xI X 5 u3.2)]) (x_runV (q0 := 0) (rest := []) (As := [.int (-2 : Int32)]) hC mw_100 md_X6_refuse (c_X6_refuse (X := X) hf3) hH [0, 2] rfl (by decide) rfl rfl rfl hl.1 rfl rfl (Nat.le_of_ble_eq_true rfl) dX6_step_28 ⟨Nat.le_of_ble_eq_true rfl, Nat.le_of_ble_eq_true rfl⟩ ⟨rfl, rfl⟩ ⟨Nat.le_refl _, Nat.le_refl _⟩) hH [0, 2] rfl rfl rfl rfl rfl (fun hz3 H locs hH => ?_)
    exact x_retiw (φ := fun _ => True) (f := fun u : Int32 × (Nat → Int32) => u.1) (wf := fun u : Int32 × (Nat → Int32) => [(h0, xO 6 [.ref h1, .ref g0, .ref g1, .ref g2, .ref h2, .int v_isKept]), (h1, xO 0 [.ref g3, .ref g4, .int v_now_inForce, .int v_now_depth, .int v_now_miss, .long v_now_ring, .int v_now_steps, .int v_now_seed]), (h2, xI X 5 u.2)]) hC hr hlk trivial hf hH rfl rfl dX6_step_31
  · have hf := xe c2 hf
    refine lv_aload_n hx hb dX6_step_8 rfl (lv_at hl 0 rfl) ?_
    refine x_get hC fd_RX6_10 hH.1 0 rfl rfl dX6_step_9 ?_
    refine x_getN hC fd_RX6_120 hH.1 1 rfl rfl dX6_step_12 ?_
    refine lv_iload_n hx hb dX6_step_15 rfl (lv_at hl 1 rfl) ?_
    obtain ⟨u4, hf4, hf⟩ := xb hf
    refine x_ran (x_runS (rest := []) (As := [.long v_now_ring, .int p1]) hC mw_677 md_X6_isIn (c_X6_isIn (X := X) hf4) hH [] rfl (by decide) hl.1 rfl rfl (Nat.le_of_ble_eq_true rfl) dX6_step_16 ⟨Nat.le_of_ble_eq_true rfl, Nat.le_of_ble_eq_true rfl⟩ ⟨rfl, rfl⟩ ⟨Nat.le_refl _, Nat.le_refl _⟩) rfl (fun hz4 => ?_)
    obtain ⟨u5, hf5, hf⟩ := xb hf
    refine x_ran (x_runS (rest := []) (As := [.int u4]) hC mw_678 md_X6_asNumber (c_X6_asNumber (X := X) hf5) hH [] rfl (by decide) hl.1 rfl rfl (Nat.le_of_ble_eq_true rfl) dX6_step_19 ⟨Nat.le_of_ble_eq_true rfl, Nat.le_of_ble_eq_true rfl⟩ ⟨rfl, rfl⟩ ⟨Nat.le_refl _, Nat.le_refl _⟩) rfl (fun hz5 => ?_)
    refine lv_goto (tgt := 31) hx hb dX6_step_22 (by decide) ?_
    exact x_retiw (φ := fun _ => True) (f := fun u : Int32 × (Nat → Int32) => u.1) (wf := fun u : Int32 × (Nat → Int32) => [(h0, xO 6 [.ref h1, .ref g0, .ref g1, .ref g2, .ref h2, .int v_isKept]), (h1, xO 0 [.ref g3, .ref g4, .int v_now_inForce, .int v_now_depth, .int v_now_miss, .long v_now_ring, .int v_now_steps, .int v_now_seed]), (h2, xI X 5 u.2)]) hC hr hlk trivial hf hH rfl rfl dX6_step_31
def f_X6_strikes (v_now_inForce : Int32) (v_now_ring : Int64) (v_now_steps : Int32) (v_now_laws_count : Int32) (v_now_laws_kinds : (Nat → Int32)) (v_now_laws_tunes : (Nat → Int32)) (v_refusals : (Nat → Int32)) (p1 : Int32) : Option (Int32 × (Nat → Int32)) :=
  (f_X6_isStep v_now_steps p1).bind fun u1 =>
  if u1 = (nI 0) then
    (f_X6_refuse v_refusals (-2 : Int32)).bind fun u7 =>
    some (u7.1, u7.2)
  else
  if v_now_laws_count = (nI 0) then
    (f_X6_refuse v_refusals (-5 : Int32)).bind fun u6 =>
    some (u6.1, u6.2)
  else
  (f_X0_wouldStrike v_now_inForce v_now_ring v_now_steps v_now_laws_count v_now_laws_kinds v_now_laws_tunes p1).bind fun u4 =>
  (f_X6_asNumber u4).bind fun u5 =>
  some (u5, v_refusals)
set_option maxHeartbeats 4000000 in
set_option maxRecDepth 100000 in
theorem c_X6_strikes {l : Launch} {X : xG} {h0 h1 h2 h3 h4 h5 g0 g1 g2 g3 : Nat} {v_isKept : Int32} {v_now_inForce : Int32} {v_now_depth : Int32} {v_now_miss : Int32} {v_now_ring : Int64} {v_now_steps : Int32} {v_now_seed : Int32} {v_now_laws_count : Int32} {v_now_laws_kinds : (Nat → Int32)} {v_now_laws_tunes : (Nat → Int32)} {v_refusals : (Nat → Int32)} {p1 : Int32} {u : Int32 × (Nat → Int32)} (hf : f_X6_strikes v_now_inForce v_now_ring v_now_steps v_now_laws_count v_now_laws_kinds v_now_laws_tunes v_refusals p1 = some u) : Met l yX6_strikes (xw yX6_strikes cX6_strikes 2 (some .int)) (xrm 4 95) (xPc [.ref h0, .int p1] X [(h0, xO 6 [.ref h1, .ref g0, .ref g1, .ref g2, .ref h5, .int v_isKept]), (h1, xO 0 [.ref h2, .ref g3, .int v_now_inForce, .int v_now_depth, .int v_now_miss, .long v_now_ring, .int v_now_steps, .int v_now_seed]), (h2, xO 2 [.ref h3, .ref h4, .int v_now_laws_count]), (h3, xI X 6 v_now_laws_kinds), (h4, xI X 6 v_now_laws_tunes), (h5, xI X 5 v_refusals)]) (xQw True (.returned (some (.int u.1))) X [(h0, xO 6 [.ref h1, .ref g0, .ref g1, .ref g2, .ref h5, .int v_isKept]), (h1, xO 0 [.ref h2, .ref g3, .int v_now_inForce, .int v_now_depth, .int v_now_miss, .long v_now_ring, .int v_now_steps, .int v_now_seed]), (h2, xO 2 [.ref h3, .ref h4, .int v_now_laws_count]), (h3, xI X 6 v_now_laws_kinds), (h4, xI X 6 v_now_laws_tunes), (h5, xI X 5 u.2)] (xAs [(h0, xO 6 [.ref h1, .ref g0, .ref g1, .ref g2, .ref h5, .int v_isKept]), (h1, xO 0 [.ref h2, .ref g3, .int v_now_inForce, .int v_now_depth, .int v_now_miss, .long v_now_ring, .int v_now_steps, .int v_now_seed]), (h2, xO 2 [.ref h3, .ref h4, .int v_now_laws_count]), (h3, xI X 6 v_now_laws_kinds), (h4, xI X 6 v_now_laws_tunes), (h5, xI X 5 v_refusals)])) 0 0 (xAs [(h0, xO 6 [.ref h1, .ref g0, .ref g1, .ref g2, .ref h5, .int v_isKept]), (h1, xO 0 [.ref h2, .ref g3, .int v_now_inForce, .int v_now_depth, .int v_now_miss, .long v_now_ring, .int v_now_steps, .int v_now_seed]), (h2, xO 2 [.ref h3, .ref h4, .int v_now_laws_count]), (h3, xI X 6 v_now_laws_kinds), (h4, xI X 6 v_now_laws_tunes), (h5, xI X 5 v_refusals)]) := by
  refine xMetw (Qc := fun A => xQw True (.returned (some (.int u.1))) X [(h0, xO 6 [.ref h1, .ref g0, .ref g1, .ref g2, .ref h5, .int v_isKept]), (h1, xO 0 [.ref h2, .ref g3, .int v_now_inForce, .int v_now_depth, .int v_now_miss, .long v_now_ring, .int v_now_steps, .int v_now_seed]), (h2, xO 2 [.ref h3, .ref h4, .int v_now_laws_count]), (h3, xI X 6 v_now_laws_kinds), (h4, xI X 6 v_now_laws_tunes), (h5, xI X 5 u.2)] A) (n := 1) md_X6_strikes.1 (Nat.le_of_ble_eq_true rfl) ?_
  intro p e s m args below meth c ls A hC hr hlk hH hl
  have hl : lv_has ls 2 [(0, .ref h0), (1, .int p1)] := hl
  have hx := hC.1
  have hb := hC.2.1
  refine lv_aload_n hx hb dX6_strikes_0 rfl (lv_at hl 0 rfl) ?_
  refine lv_iload_n hx hb dX6_strikes_1 rfl (lv_at hl 1 rfl) ?_
  obtain ⟨u1, hf1, hf⟩ := xb hf
  refine x_ran (x_runV (q0 := 0) (rest := []) (As := [.int p1]) hC mw_673 md_X6_isStep (c_X6_isStep (X := X) hf1) hH [0, 1] rfl (by decide) rfl rfl rfl hl.1 rfl rfl (Nat.le_of_ble_eq_true rfl) dX6_strikes_2 ⟨Nat.le_of_ble_eq_true rfl, Nat.le_of_ble_eq_true rfl⟩ ⟨rfl, rfl⟩ ⟨Nat.le_refl _, Nat.le_refl _⟩) rfl (fun hz1 => ?_)
  refine lv_if_ne (tgt := 15) hx hb dX6_strikes_5 (by decide) (fun c2 => ?_) (fun c2 => ?_)
  · have hf := xe c2 hf
    refine lv_aload_n hx hb dX6_strikes_15 rfl (lv_at hl 0 rfl) ?_
    refine x_get hC fd_RX6_10 hH.1 0 rfl rfl dX6_strikes_16 ?_
    refine x_getN hC fd_RX6_81 hH.1 1 rfl rfl dX6_strikes_19 ?_
    refine x_getN hC fd_RX6_194 hH.1 2 rfl rfl dX6_strikes_22 ?_
    refine lv_if_ne (tgt := 35) hx hb dX6_strikes_25 (by decide) (fun c3 => ?_) (fun c3 => ?_)
    · have hf := xe c3 hf
      refine lv_aload_n hx hb dX6_strikes_35 rfl (lv_at hl 0 rfl) ?_
      refine x_get hC fd_RX6_10 hH.1 0 rfl rfl dX6_strikes_36 ?_
      refine lv_iload_n hx hb dX6_strikes_39 rfl (lv_at hl 1 rfl) ?_
      obtain ⟨u4, hf4, hf⟩ := xb hf
      refine x_ran (x_runV (q0 := 0) (rest := []) (As := [.int p1]) hC mw_693 md_X0_wouldStrike (c_X0_wouldStrike (X := X) hf4) hH [1, 2, 3, 4] rfl (by decide) rfl rfl rfl hl.1 rfl rfl (Nat.le_of_ble_eq_true rfl) dX6_strikes_40 ⟨Nat.le_of_ble_eq_true rfl, Nat.le_of_ble_eq_true rfl⟩ ⟨rfl, rfl⟩ ⟨Nat.le_refl _, Nat.le_refl _⟩) rfl (fun hz4 => ?_)
      obtain ⟨u5, hf5, hf⟩ := xb hf
      refine x_ran (x_runS (rest := []) (As := [.int u4]) hC mw_678 md_X6_asNumber (c_X6_asNumber (X := X) hf5) hH [] rfl (by decide) hl.1 rfl rfl (Nat.le_of_ble_eq_true rfl) dX6_strikes_43 ⟨Nat.le_of_ble_eq_true rfl, Nat.le_of_ble_eq_true rfl⟩ ⟨rfl, rfl⟩ ⟨Nat.le_refl _, Nat.le_refl _⟩) rfl (fun hz5 => ?_)
      exact x_retiw (φ := fun _ => True) (f := fun u : Int32 × (Nat → Int32) => u.1) (wf := fun u : Int32 × (Nat → Int32) => [(h0, xO 6 [.ref h1, .ref g0, .ref g1, .ref g2, .ref h5, .int v_isKept]), (h1, xO 0 [.ref h2, .ref g3, .int v_now_inForce, .int v_now_depth, .int v_now_miss, .long v_now_ring, .int v_now_steps, .int v_now_seed]), (h2, xO 2 [.ref h3, .ref h4, .int v_now_laws_count]), (h3, xI X 6 v_now_laws_kinds), (h4, xI X 6 v_now_laws_tunes), (h5, xI X 5 u.2)]) hC hr hlk trivial hf hH rfl rfl dX6_strikes_46
    · have hf := xt c3 hf
      refine lv_aload_n hx hb dX6_strikes_28 rfl (lv_at hl 0 rfl) ?_
      refine lv_bipush (v := (-5 : Int32)) hx hb dX6_strikes_29 (by decide) ?_
      obtain ⟨u6, hf6, hf⟩ := xb hf
      refine x_ranw (ws' := [(h0, xO 6 [.ref h1, .ref g0, .ref g1, .ref g2, .ref h5, .int v_isKept]), (h1, xO 0 [.ref h2, .ref g3, .int v_now_inForce, .int v_now_depth, .int v_now_miss, .long v_now_ring, .int v_now_steps, .int v_now_seed]), (h2, xO 2 [.ref h3, .ref h4, .int v_now_laws_count]), (h3, xI X 6 v_now_laws_kinds), (h4, xI X 6 v_now_laws_tunes), (h5, xI X 5 u6.2)]) (x_runV (q0 := 0) (rest := []) (As := [.int (-5 : Int32)]) hC mw_100 md_X6_refuse (c_X6_refuse (X := X) hf6) hH [0, 5] rfl (by decide) rfl rfl rfl hl.1 rfl rfl (Nat.le_of_ble_eq_true rfl) dX6_strikes_31 ⟨Nat.le_of_ble_eq_true rfl, Nat.le_of_ble_eq_true rfl⟩ ⟨rfl, rfl⟩ ⟨Nat.le_refl _, Nat.le_refl _⟩) hH [0, 5] rfl rfl rfl rfl rfl (fun hz6 H locs hH => ?_)
      exact x_retiw (φ := fun _ => True) (f := fun u : Int32 × (Nat → Int32) => u.1) (wf := fun u : Int32 × (Nat → Int32) => [(h0, xO 6 [.ref h1, .ref g0, .ref g1, .ref g2, .ref h5, .int v_isKept]), (h1, xO 0 [.ref h2, .ref g3, .int v_now_inForce, .int v_now_depth, .int v_now_miss, .long v_now_ring, .int v_now_steps, .int v_now_seed]), (h2, xO 2 [.ref h3, .ref h4, .int v_now_laws_count]), (h3, xI X 6 v_now_laws_kinds), (h4, xI X 6 v_now_laws_tunes), (h5, xI X 5 u.2)]) hC hr hlk trivial hf hH rfl rfl dX6_strikes_34
  · have hf := xt c2 hf
    refine lv_aload_n hx hb dX6_strikes_8 rfl (lv_at hl 0 rfl) ?_
    refine lv_bipush (v := (-2 : Int32)) hx hb dX6_strikes_9 (by decide) ?_
    obtain ⟨u7, hf7, hf⟩ := xb hf
    refine x_ranw (ws' := [(h0, xO 6 [.ref h1, .ref g0, .ref g1, .ref g2, .ref h5, .int v_isKept]), (h1, xO 0 [.ref h2, .ref g3, .int v_now_inForce, .int v_now_depth, .int v_now_miss, .long v_now_ring, .int v_now_steps, .int v_now_seed]), (h2, xO 2 [.ref h3, .ref h4, .int v_now_laws_count]), (h3, xI X 6 v_now_laws_kinds), (h4, xI X 6 v_now_laws_tunes), (h5, xI X 5 u7.2)]) (x_runV (q0 := 0) (rest := []) (As := [.int (-2 : Int32)]) hC mw_100 md_X6_refuse (c_X6_refuse (X := X) hf7) hH [0, 5] rfl (by decide) rfl rfl rfl hl.1 rfl rfl (Nat.le_of_ble_eq_true rfl) dX6_strikes_11 ⟨Nat.le_of_ble_eq_true rfl, Nat.le_of_ble_eq_true rfl⟩ ⟨rfl, rfl⟩ ⟨Nat.le_refl _, Nat.le_refl _⟩) hH [0, 5] rfl rfl rfl rfl rfl (fun hz7 H locs hH => ?_)
    exact x_retiw (φ := fun _ => True) (f := fun u : Int32 × (Nat → Int32) => u.1) (wf := fun u : Int32 × (Nat → Int32) => [(h0, xO 6 [.ref h1, .ref g0, .ref g1, .ref g2, .ref h5, .int v_isKept]), (h1, xO 0 [.ref h2, .ref g3, .int v_now_inForce, .int v_now_depth, .int v_now_miss, .long v_now_ring, .int v_now_steps, .int v_now_seed]), (h2, xO 2 [.ref h3, .ref h4, .int v_now_laws_count]), (h3, xI X 6 v_now_laws_kinds), (h4, xI X 6 v_now_laws_tunes), (h5, xI X 5 u.2)]) hC hr hlk trivial hf hH rfl rfl dX6_strikes_14
def f_X6_strikesBy (v_now_ring : Int64) (v_now_steps : Int32) (v_now_laws_count : Int32) (v_now_laws_kinds : (Nat → Int32)) (v_now_laws_tunes : (Nat → Int32)) (v_refusals : (Nat → Int32)) (p1 : Int32) (p2 : Int32) : Option (Int32 × (Nat → Int32)) :=
  (f_X2_isThere v_now_laws_count p1).bind fun u1 =>
  if u1 = (nI 0) then
    (f_X6_refuse v_refusals (-2 : Int32)).bind fun u3 =>
    some (u3.1, u3.2)
  else
  (f_X6_isStep v_now_steps p2).bind fun u4 =>
  if u4 = (nI 0) then
    (f_X6_refuse v_refusals (-2 : Int32)).bind fun u8 =>
    some (u8.1, u8.2)
  else
  (f_X2_strikesAt v_now_laws_count v_now_laws_kinds v_now_laws_tunes p1 v_now_ring v_now_steps p2).bind fun u6 =>
  (f_X6_asNumber u6).bind fun u7 =>
  some (u7, v_refusals)
set_option maxHeartbeats 4000000 in
set_option maxRecDepth 100000 in
theorem c_X6_strikesBy {l : Launch} {X : xG} {h0 h1 h2 h3 h4 h5 g0 g1 g2 g3 : Nat} {v_isKept : Int32} {v_now_inForce : Int32} {v_now_depth : Int32} {v_now_miss : Int32} {v_now_ring : Int64} {v_now_steps : Int32} {v_now_seed : Int32} {v_now_laws_count : Int32} {v_now_laws_kinds : (Nat → Int32)} {v_now_laws_tunes : (Nat → Int32)} {v_refusals : (Nat → Int32)} {p1 : Int32} {p2 : Int32} {u : Int32 × (Nat → Int32)} (hf : f_X6_strikesBy v_now_ring v_now_steps v_now_laws_count v_now_laws_kinds v_now_laws_tunes v_refusals p1 p2 = some u) : Met l yX6_strikesBy (xw yX6_strikesBy cX6_strikesBy 3 (some .int)) (xrm 3 74) (xPc [.ref h0, .int p1, .int p2] X [(h0, xO 6 [.ref h1, .ref g0, .ref g1, .ref g2, .ref h5, .int v_isKept]), (h1, xO 0 [.ref h2, .ref g3, .int v_now_inForce, .int v_now_depth, .int v_now_miss, .long v_now_ring, .int v_now_steps, .int v_now_seed]), (h2, xO 2 [.ref h3, .ref h4, .int v_now_laws_count]), (h3, xI X 6 v_now_laws_kinds), (h4, xI X 6 v_now_laws_tunes), (h5, xI X 5 v_refusals)]) (xQw True (.returned (some (.int u.1))) X [(h0, xO 6 [.ref h1, .ref g0, .ref g1, .ref g2, .ref h5, .int v_isKept]), (h1, xO 0 [.ref h2, .ref g3, .int v_now_inForce, .int v_now_depth, .int v_now_miss, .long v_now_ring, .int v_now_steps, .int v_now_seed]), (h2, xO 2 [.ref h3, .ref h4, .int v_now_laws_count]), (h3, xI X 6 v_now_laws_kinds), (h4, xI X 6 v_now_laws_tunes), (h5, xI X 5 u.2)] (xAs [(h0, xO 6 [.ref h1, .ref g0, .ref g1, .ref g2, .ref h5, .int v_isKept]), (h1, xO 0 [.ref h2, .ref g3, .int v_now_inForce, .int v_now_depth, .int v_now_miss, .long v_now_ring, .int v_now_steps, .int v_now_seed]), (h2, xO 2 [.ref h3, .ref h4, .int v_now_laws_count]), (h3, xI X 6 v_now_laws_kinds), (h4, xI X 6 v_now_laws_tunes), (h5, xI X 5 v_refusals)])) 0 0 (xAs [(h0, xO 6 [.ref h1, .ref g0, .ref g1, .ref g2, .ref h5, .int v_isKept]), (h1, xO 0 [.ref h2, .ref g3, .int v_now_inForce, .int v_now_depth, .int v_now_miss, .long v_now_ring, .int v_now_steps, .int v_now_seed]), (h2, xO 2 [.ref h3, .ref h4, .int v_now_laws_count]), (h3, xI X 6 v_now_laws_kinds), (h4, xI X 6 v_now_laws_tunes), (h5, xI X 5 v_refusals)]) := by
  refine xMetw (Qc := fun A => xQw True (.returned (some (.int u.1))) X [(h0, xO 6 [.ref h1, .ref g0, .ref g1, .ref g2, .ref h5, .int v_isKept]), (h1, xO 0 [.ref h2, .ref g3, .int v_now_inForce, .int v_now_depth, .int v_now_miss, .long v_now_ring, .int v_now_steps, .int v_now_seed]), (h2, xO 2 [.ref h3, .ref h4, .int v_now_laws_count]), (h3, xI X 6 v_now_laws_kinds), (h4, xI X 6 v_now_laws_tunes), (h5, xI X 5 u.2)] A) (n := 2) md_X6_strikesBy.1 (Nat.le_of_ble_eq_true rfl) ?_
  intro p e s m args below meth c ls A hC hr hlk hH hl
  have hl : lv_has ls 3 [(0, .ref h0), (1, .int p1), (2, .int p2)] := hl
  have hx := hC.1
  have hb := hC.2.1
  refine lv_aload_n hx hb dX6_strikesBy_0 rfl (lv_at hl 0 rfl) ?_
  refine x_get hC fd_RX6_10 hH.1 0 rfl rfl dX6_strikesBy_1 ?_
  refine x_getN hC fd_RX6_81 hH.1 1 rfl rfl dX6_strikesBy_4 ?_
  refine lv_iload_n hx hb dX6_strikesBy_7 rfl (lv_at hl 1 rfl) ?_
  obtain ⟨u1, hf1, hf⟩ := xb hf
  refine x_ran (x_runV (q0 := 0) (rest := []) (As := [.int p1]) hC mw_226 md_X2_isThere (c_X2_isThere (X := X) hf1) hH [2] rfl (by decide) rfl rfl rfl hl.1 rfl rfl (Nat.le_of_ble_eq_true rfl) dX6_strikesBy_8 ⟨Nat.le_of_ble_eq_true rfl, Nat.le_of_ble_eq_true rfl⟩ ⟨rfl, rfl⟩ ⟨Nat.le_refl _, Nat.le_refl _⟩) rfl (fun hz1 => ?_)
  refine lv_if_eq (tgt := 22) hx hb dX6_strikesBy_11 (by decide) (fun c2 => ?_) (fun c2 => ?_)
  · have hf := xt c2 hf
    refine lv_aload_n hx hb dX6_strikesBy_22 rfl (lv_at hl 0 rfl) ?_
    refine lv_bipush (v := (-2 : Int32)) hx hb dX6_strikesBy_23 (by decide) ?_
    obtain ⟨u3, hf3, hf⟩ := xb hf
    refine x_ranw (ws' := [(h0, xO 6 [.ref h1, .ref g0, .ref g1, .ref g2, .ref h5, .int v_isKept]), (h1, xO 0 [.ref h2, .ref g3, .int v_now_inForce, .int v_now_depth, .int v_now_miss, .long v_now_ring, .int v_now_steps, .int v_now_seed]), (h2, xO 2 [.ref h3, .ref h4, .int v_now_laws_count]), (h3, xI X 6 v_now_laws_kinds), (h4, xI X 6 v_now_laws_tunes), (h5, xI X 5 u3.2)]) (x_runV (q0 := 0) (rest := []) (As := [.int (-2 : Int32)]) hC mw_100 md_X6_refuse (c_X6_refuse (X := X) hf3) hH [0, 5] rfl (by decide) rfl rfl rfl hl.1 rfl rfl (Nat.le_of_ble_eq_true rfl) dX6_strikesBy_25 ⟨Nat.le_of_ble_eq_true rfl, Nat.le_of_ble_eq_true rfl⟩ ⟨rfl, rfl⟩ ⟨Nat.le_refl _, Nat.le_refl _⟩) hH [0, 5] rfl rfl rfl rfl rfl (fun hz3 H locs hH => ?_)
    exact x_retiw (φ := fun _ => True) (f := fun u : Int32 × (Nat → Int32) => u.1) (wf := fun u : Int32 × (Nat → Int32) => [(h0, xO 6 [.ref h1, .ref g0, .ref g1, .ref g2, .ref h5, .int v_isKept]), (h1, xO 0 [.ref h2, .ref g3, .int v_now_inForce, .int v_now_depth, .int v_now_miss, .long v_now_ring, .int v_now_steps, .int v_now_seed]), (h2, xO 2 [.ref h3, .ref h4, .int v_now_laws_count]), (h3, xI X 6 v_now_laws_kinds), (h4, xI X 6 v_now_laws_tunes), (h5, xI X 5 u.2)]) hC hr hlk trivial hf hH rfl rfl dX6_strikesBy_28
  · have hf := xe c2 hf
    refine lv_aload_n hx hb dX6_strikesBy_14 rfl (lv_at hl 0 rfl) ?_
    refine lv_iload_n hx hb dX6_strikesBy_15 rfl (lv_at hl 2 rfl) ?_
    obtain ⟨u4, hf4, hf⟩ := xb hf
    refine x_ran (x_runV (q0 := 0) (rest := []) (As := [.int p2]) hC mw_673 md_X6_isStep (c_X6_isStep (X := X) hf4) hH [0, 1] rfl (by decide) rfl rfl rfl hl.1 rfl rfl (Nat.le_of_ble_eq_true rfl) dX6_strikesBy_16 ⟨Nat.le_of_ble_eq_true rfl, Nat.le_of_ble_eq_true rfl⟩ ⟨rfl, rfl⟩ ⟨Nat.le_refl _, Nat.le_refl _⟩) rfl (fun hz4 => ?_)
    refine lv_if_ne (tgt := 29) hx hb dX6_strikesBy_19 (by decide) (fun c5 => ?_) (fun c5 => ?_)
    · have hf := xe c5 hf
      refine lv_aload_n hx hb dX6_strikesBy_29 rfl (lv_at hl 0 rfl) ?_
      refine x_get hC fd_RX6_10 hH.1 0 rfl rfl dX6_strikesBy_30 ?_
      refine x_getN hC fd_RX6_81 hH.1 1 rfl rfl dX6_strikesBy_33 ?_
      refine lv_iload_n hx hb dX6_strikesBy_36 rfl (lv_at hl 1 rfl) ?_
      refine lv_aload_n hx hb dX6_strikesBy_37 rfl (lv_at hl 0 rfl) ?_
      refine x_get hC fd_RX6_10 hH.1 0 rfl rfl dX6_strikesBy_38 ?_
      refine x_getN hC fd_RX6_120 hH.1 1 rfl rfl dX6_strikesBy_41 ?_
      refine lv_aload_n hx hb dX6_strikesBy_44 rfl (lv_at hl 0 rfl) ?_
      refine x_get hC fd_RX6_10 hH.1 0 rfl rfl dX6_strikesBy_45 ?_
      refine x_getN hC fd_RX6_200 hH.1 1 rfl rfl dX6_strikesBy_48 ?_
      refine lv_iload_n hx hb dX6_strikesBy_51 rfl (lv_at hl 2 rfl) ?_
      obtain ⟨u6, hf6, hf⟩ := xb hf
      refine x_ran (x_runV (q0 := 0) (rest := []) (As := [.int p1, .long v_now_ring, .int v_now_steps, .int p2]) hC mw_710 md_X2_strikesAt (c_X2_strikesAt (X := X) hf6) hH [2, 3, 4] rfl (by decide) rfl rfl rfl hl.1 rfl rfl (Nat.le_of_ble_eq_true rfl) dX6_strikesBy_52 ⟨Nat.le_of_ble_eq_true rfl, Nat.le_of_ble_eq_true rfl⟩ ⟨rfl, rfl⟩ ⟨Nat.le_refl _, Nat.le_refl _⟩) rfl (fun hz6 => ?_)
      obtain ⟨u7, hf7, hf⟩ := xb hf
      refine x_ran (x_runS (rest := []) (As := [.int u6]) hC mw_678 md_X6_asNumber (c_X6_asNumber (X := X) hf7) hH [] rfl (by decide) hl.1 rfl rfl (Nat.le_of_ble_eq_true rfl) dX6_strikesBy_55 ⟨Nat.le_of_ble_eq_true rfl, Nat.le_of_ble_eq_true rfl⟩ ⟨rfl, rfl⟩ ⟨Nat.le_refl _, Nat.le_refl _⟩) rfl (fun hz7 => ?_)
      exact x_retiw (φ := fun _ => True) (f := fun u : Int32 × (Nat → Int32) => u.1) (wf := fun u : Int32 × (Nat → Int32) => [(h0, xO 6 [.ref h1, .ref g0, .ref g1, .ref g2, .ref h5, .int v_isKept]), (h1, xO 0 [.ref h2, .ref g3, .int v_now_inForce, .int v_now_depth, .int v_now_miss, .long v_now_ring, .int v_now_steps, .int v_now_seed]), (h2, xO 2 [.ref h3, .ref h4, .int v_now_laws_count]), (h3, xI X 6 v_now_laws_kinds), (h4, xI X 6 v_now_laws_tunes), (h5, xI X 5 u.2)]) hC hr hlk trivial hf hH rfl rfl dX6_strikesBy_58
    · have hf := xt c5 hf
      refine lv_aload_n hx hb dX6_strikesBy_22 rfl (lv_at hl 0 rfl) ?_
      refine lv_bipush (v := (-2 : Int32)) hx hb dX6_strikesBy_23 (by decide) ?_
      obtain ⟨u8, hf8, hf⟩ := xb hf
      refine x_ranw (ws' := [(h0, xO 6 [.ref h1, .ref g0, .ref g1, .ref g2, .ref h5, .int v_isKept]), (h1, xO 0 [.ref h2, .ref g3, .int v_now_inForce, .int v_now_depth, .int v_now_miss, .long v_now_ring, .int v_now_steps, .int v_now_seed]), (h2, xO 2 [.ref h3, .ref h4, .int v_now_laws_count]), (h3, xI X 6 v_now_laws_kinds), (h4, xI X 6 v_now_laws_tunes), (h5, xI X 5 u8.2)]) (x_runV (q0 := 0) (rest := []) (As := [.int (-2 : Int32)]) hC mw_100 md_X6_refuse (c_X6_refuse (X := X) hf8) hH [0, 5] rfl (by decide) rfl rfl rfl hl.1 rfl rfl (Nat.le_of_ble_eq_true rfl) dX6_strikesBy_25 ⟨Nat.le_of_ble_eq_true rfl, Nat.le_of_ble_eq_true rfl⟩ ⟨rfl, rfl⟩ ⟨Nat.le_refl _, Nat.le_refl _⟩) hH [0, 5] rfl rfl rfl rfl rfl (fun hz8 H locs hH => ?_)
      exact x_retiw (φ := fun _ => True) (f := fun u : Int32 × (Nat → Int32) => u.1) (wf := fun u : Int32 × (Nat → Int32) => [(h0, xO 6 [.ref h1, .ref g0, .ref g1, .ref g2, .ref h5, .int v_isKept]), (h1, xO 0 [.ref h2, .ref g3, .int v_now_inForce, .int v_now_depth, .int v_now_miss, .long v_now_ring, .int v_now_steps, .int v_now_seed]), (h2, xO 2 [.ref h3, .ref h4, .int v_now_laws_count]), (h3, xI X 6 v_now_laws_kinds), (h4, xI X 6 v_now_laws_tunes), (h5, xI X 5 u.2)]) hC hr hlk trivial hf hH rfl rfl dX6_strikesBy_28
def f_X6_heard (v_now_inForce : Int32) (v_now_depth : Int32) (v_now_ring : Int64) (v_now_steps : Int32) (v_now_laws_count : Int32) (v_now_laws_kinds : (Nat → Int32)) (v_now_laws_tunes : (Nat → Int32)) (v_refusals : (Nat → Int32)) (p1 : Int32) (p2 : Int32) : Option (Int32 × (Nat → Int32)) :=
  (f_X6_isStep v_now_steps p1).bind fun u1 =>
  if u1 = (nI 0) then
    (f_X6_refuse v_refusals (-2 : Int32)).bind fun u3 =>
    some (u3.1, u3.2)
  else
  (f_X6_isWithin p2 (nI 0) (nI 2)).bind fun u4 =>
  if u4 = (nI 0) then
    (f_X6_refuse v_refusals (-2 : Int32)).bind fun u9 =>
    some (u9.1, u9.2)
  else
  (f_X0_sounds v_now_inForce v_now_depth v_now_laws_count v_now_laws_kinds v_now_laws_tunes v_now_ring v_now_steps p2).bind fun u6 =>
  (f_X6_isIn u6 p1).bind fun u7 =>
  (f_X6_asNumber u7).bind fun u8 =>
  some (u8, v_refusals)
set_option maxHeartbeats 4000000 in
set_option maxRecDepth 100000 in
theorem c_X6_heard {l : Launch} {X : xG} {h0 h1 h2 h3 h4 h5 g0 g1 g2 g3 : Nat} {v_isKept : Int32} {v_now_inForce : Int32} {v_now_depth : Int32} {v_now_miss : Int32} {v_now_ring : Int64} {v_now_steps : Int32} {v_now_seed : Int32} {v_now_laws_count : Int32} {v_now_laws_kinds : (Nat → Int32)} {v_now_laws_tunes : (Nat → Int32)} {v_refusals : (Nat → Int32)} {p1 : Int32} {p2 : Int32} {u : Int32 × (Nat → Int32)} (hf : f_X6_heard v_now_inForce v_now_depth v_now_ring v_now_steps v_now_laws_count v_now_laws_kinds v_now_laws_tunes v_refusals p1 p2 = some u) : Met l yX6_heard (xw yX6_heard cX6_heard 3 (some .int)) (xrm 5 128) (xPc [.ref h0, .int p1, .int p2] X [(h0, xO 6 [.ref h1, .ref g0, .ref g1, .ref g2, .ref h5, .int v_isKept]), (h1, xO 0 [.ref h2, .ref g3, .int v_now_inForce, .int v_now_depth, .int v_now_miss, .long v_now_ring, .int v_now_steps, .int v_now_seed]), (h2, xO 2 [.ref h3, .ref h4, .int v_now_laws_count]), (h3, xI X 6 v_now_laws_kinds), (h4, xI X 6 v_now_laws_tunes), (h5, xI X 5 v_refusals)]) (xQw True (.returned (some (.int u.1))) X [(h0, xO 6 [.ref h1, .ref g0, .ref g1, .ref g2, .ref h5, .int v_isKept]), (h1, xO 0 [.ref h2, .ref g3, .int v_now_inForce, .int v_now_depth, .int v_now_miss, .long v_now_ring, .int v_now_steps, .int v_now_seed]), (h2, xO 2 [.ref h3, .ref h4, .int v_now_laws_count]), (h3, xI X 6 v_now_laws_kinds), (h4, xI X 6 v_now_laws_tunes), (h5, xI X 5 u.2)] (xAs [(h0, xO 6 [.ref h1, .ref g0, .ref g1, .ref g2, .ref h5, .int v_isKept]), (h1, xO 0 [.ref h2, .ref g3, .int v_now_inForce, .int v_now_depth, .int v_now_miss, .long v_now_ring, .int v_now_steps, .int v_now_seed]), (h2, xO 2 [.ref h3, .ref h4, .int v_now_laws_count]), (h3, xI X 6 v_now_laws_kinds), (h4, xI X 6 v_now_laws_tunes), (h5, xI X 5 v_refusals)])) 0 0 (xAs [(h0, xO 6 [.ref h1, .ref g0, .ref g1, .ref g2, .ref h5, .int v_isKept]), (h1, xO 0 [.ref h2, .ref g3, .int v_now_inForce, .int v_now_depth, .int v_now_miss, .long v_now_ring, .int v_now_steps, .int v_now_seed]), (h2, xO 2 [.ref h3, .ref h4, .int v_now_laws_count]), (h3, xI X 6 v_now_laws_kinds), (h4, xI X 6 v_now_laws_tunes), (h5, xI X 5 v_refusals)]) := by
  refine xMetw (Qc := fun A => xQw True (.returned (some (.int u.1))) X [(h0, xO 6 [.ref h1, .ref g0, .ref g1, .ref g2, .ref h5, .int v_isKept]), (h1, xO 0 [.ref h2, .ref g3, .int v_now_inForce, .int v_now_depth, .int v_now_miss, .long v_now_ring, .int v_now_steps, .int v_now_seed]), (h2, xO 2 [.ref h3, .ref h4, .int v_now_laws_count]), (h3, xI X 6 v_now_laws_kinds), (h4, xI X 6 v_now_laws_tunes), (h5, xI X 5 u.2)] A) (n := 2) md_X6_heard.1 (Nat.le_of_ble_eq_true rfl) ?_
  intro p e s m args below meth c ls A hC hr hlk hH hl
  have hl : lv_has ls 3 [(0, .ref h0), (1, .int p1), (2, .int p2)] := hl
  have hx := hC.1
  have hb := hC.2.1
  refine lv_aload_n hx hb dX6_heard_0 rfl (lv_at hl 0 rfl) ?_
  refine lv_iload_n hx hb dX6_heard_1 rfl (lv_at hl 1 rfl) ?_
  obtain ⟨u1, hf1, hf⟩ := xb hf
  refine x_ran (x_runV (q0 := 0) (rest := []) (As := [.int p1]) hC mw_673 md_X6_isStep (c_X6_isStep (X := X) hf1) hH [0, 1] rfl (by decide) rfl rfl rfl hl.1 rfl rfl (Nat.le_of_ble_eq_true rfl) dX6_heard_2 ⟨Nat.le_of_ble_eq_true rfl, Nat.le_of_ble_eq_true rfl⟩ ⟨rfl, rfl⟩ ⟨Nat.le_refl _, Nat.le_refl _⟩) rfl (fun hz1 => ?_)
  refine lv_if_eq (tgt := 17) hx hb dX6_heard_5 (by decide) (fun c2 => ?_) (fun c2 => ?_)
  · have hf := xt c2 hf
    refine lv_aload_n hx hb dX6_heard_17 rfl (lv_at hl 0 rfl) ?_
    refine lv_bipush (v := (-2 : Int32)) hx hb dX6_heard_18 (by decide) ?_
    obtain ⟨u3, hf3, hf⟩ := xb hf
    refine x_ranw (ws' := [(h0, xO 6 [.ref h1, .ref g0, .ref g1, .ref g2, .ref h5, .int v_isKept]), (h1, xO 0 [.ref h2, .ref g3, .int v_now_inForce, .int v_now_depth, .int v_now_miss, .long v_now_ring, .int v_now_steps, .int v_now_seed]), (h2, xO 2 [.ref h3, .ref h4, .int v_now_laws_count]), (h3, xI X 6 v_now_laws_kinds), (h4, xI X 6 v_now_laws_tunes), (h5, xI X 5 u3.2)]) (x_runV (q0 := 0) (rest := []) (As := [.int (-2 : Int32)]) hC mw_100 md_X6_refuse (c_X6_refuse (X := X) hf3) hH [0, 5] rfl (by decide) rfl rfl rfl hl.1 rfl rfl (Nat.le_of_ble_eq_true rfl) dX6_heard_20 ⟨Nat.le_of_ble_eq_true rfl, Nat.le_of_ble_eq_true rfl⟩ ⟨rfl, rfl⟩ ⟨Nat.le_refl _, Nat.le_refl _⟩) hH [0, 5] rfl rfl rfl rfl rfl (fun hz3 H locs hH => ?_)
    exact x_retiw (φ := fun _ => True) (f := fun u : Int32 × (Nat → Int32) => u.1) (wf := fun u : Int32 × (Nat → Int32) => [(h0, xO 6 [.ref h1, .ref g0, .ref g1, .ref g2, .ref h5, .int v_isKept]), (h1, xO 0 [.ref h2, .ref g3, .int v_now_inForce, .int v_now_depth, .int v_now_miss, .long v_now_ring, .int v_now_steps, .int v_now_seed]), (h2, xO 2 [.ref h3, .ref h4, .int v_now_laws_count]), (h3, xI X 6 v_now_laws_kinds), (h4, xI X 6 v_now_laws_tunes), (h5, xI X 5 u.2)]) hC hr hlk trivial hf hH rfl rfl dX6_heard_23
  · have hf := xe c2 hf
    refine lv_iload_n hx hb dX6_heard_8 rfl (lv_at hl 2 rfl) ?_
    refine lv_iconst (v := (nI 0)) hx hb dX6_heard_9 (by decide) ?_
    refine lv_iconst (v := (nI 2)) hx hb dX6_heard_10 (by decide) ?_
    obtain ⟨u4, hf4, hf⟩ := xb hf
    refine x_ran (x_runS (rest := []) (As := [.int p2, .int (nI 0), .int (nI 2)]) hC mw_99 md_X6_isWithin (c_X6_isWithin (X := X) hf4) hH [] rfl (by decide) hl.1 rfl rfl (Nat.le_of_ble_eq_true rfl) dX6_heard_11 ⟨Nat.le_of_ble_eq_true rfl, Nat.le_of_ble_eq_true rfl⟩ ⟨rfl, rfl⟩ ⟨Nat.le_refl _, Nat.le_refl _⟩) rfl (fun hz4 => ?_)
    refine lv_if_ne (tgt := 24) hx hb dX6_heard_14 (by decide) (fun c5 => ?_) (fun c5 => ?_)
    · have hf := xe c5 hf
      refine lv_aload_n hx hb dX6_heard_24 rfl (lv_at hl 0 rfl) ?_
      refine x_get hC fd_RX6_10 hH.1 0 rfl rfl dX6_heard_25 ?_
      refine lv_aload_n hx hb dX6_heard_28 rfl (lv_at hl 0 rfl) ?_
      refine x_get hC fd_RX6_10 hH.1 0 rfl rfl dX6_heard_29 ?_
      refine x_getN hC fd_RX6_120 hH.1 1 rfl rfl dX6_heard_32 ?_
      refine lv_aload_n hx hb dX6_heard_35 rfl (lv_at hl 0 rfl) ?_
      refine x_get hC fd_RX6_10 hH.1 0 rfl rfl dX6_heard_36 ?_
      refine x_getN hC fd_RX6_200 hH.1 1 rfl rfl dX6_heard_39 ?_
      refine lv_iload_n hx hb dX6_heard_42 rfl (lv_at hl 2 rfl) ?_
      obtain ⟨u6, hf6, hf⟩ := xb hf
      refine x_ran (x_runV (q0 := 0) (rest := []) (As := [.long v_now_ring, .int v_now_steps, .int p2]) hC mw_719 md_X0_sounds (c_X0_sounds (X := X) hf6) hH [1, 2, 3, 4] rfl (by decide) rfl rfl rfl hl.1 rfl rfl (Nat.le_of_ble_eq_true rfl) dX6_heard_43 ⟨Nat.le_of_ble_eq_true rfl, Nat.le_of_ble_eq_true rfl⟩ ⟨rfl, rfl⟩ ⟨Nat.le_refl _, Nat.le_refl _⟩) rfl (fun hz6 => ?_)
      refine lv_iload_n hx hb dX6_heard_46 rfl (lv_at hl 1 rfl) ?_
      obtain ⟨u7, hf7, hf⟩ := xb hf
      refine x_ran (x_runS (rest := []) (As := [.long u6, .int p1]) hC mw_677 md_X6_isIn (c_X6_isIn (X := X) hf7) hH [] rfl (by decide) hl.1 rfl rfl (Nat.le_of_ble_eq_true rfl) dX6_heard_47 ⟨Nat.le_of_ble_eq_true rfl, Nat.le_of_ble_eq_true rfl⟩ ⟨rfl, rfl⟩ ⟨Nat.le_refl _, Nat.le_refl _⟩) rfl (fun hz7 => ?_)
      obtain ⟨u8, hf8, hf⟩ := xb hf
      refine x_ran (x_runS (rest := []) (As := [.int u7]) hC mw_678 md_X6_asNumber (c_X6_asNumber (X := X) hf8) hH [] rfl (by decide) hl.1 rfl rfl (Nat.le_of_ble_eq_true rfl) dX6_heard_50 ⟨Nat.le_of_ble_eq_true rfl, Nat.le_of_ble_eq_true rfl⟩ ⟨rfl, rfl⟩ ⟨Nat.le_refl _, Nat.le_refl _⟩) rfl (fun hz8 => ?_)
      exact x_retiw (φ := fun _ => True) (f := fun u : Int32 × (Nat → Int32) => u.1) (wf := fun u : Int32 × (Nat → Int32) => [(h0, xO 6 [.ref h1, .ref g0, .ref g1, .ref g2, .ref h5, .int v_isKept]), (h1, xO 0 [.ref h2, .ref g3, .int v_now_inForce, .int v_now_depth, .int v_now_miss, .long v_now_ring, .int v_now_steps, .int v_now_seed]), (h2, xO 2 [.ref h3, .ref h4, .int v_now_laws_count]), (h3, xI X 6 v_now_laws_kinds), (h4, xI X 6 v_now_laws_tunes), (h5, xI X 5 u.2)]) hC hr hlk trivial hf hH rfl rfl dX6_heard_53
    · have hf := xt c5 hf
      refine lv_aload_n hx hb dX6_heard_17 rfl (lv_at hl 0 rfl) ?_
      refine lv_bipush (v := (-2 : Int32)) hx hb dX6_heard_18 (by decide) ?_
      obtain ⟨u9, hf9, hf⟩ := xb hf
      refine x_ranw (ws' := [(h0, xO 6 [.ref h1, .ref g0, .ref g1, .ref g2, .ref h5, .int v_isKept]), (h1, xO 0 [.ref h2, .ref g3, .int v_now_inForce, .int v_now_depth, .int v_now_miss, .long v_now_ring, .int v_now_steps, .int v_now_seed]), (h2, xO 2 [.ref h3, .ref h4, .int v_now_laws_count]), (h3, xI X 6 v_now_laws_kinds), (h4, xI X 6 v_now_laws_tunes), (h5, xI X 5 u9.2)]) (x_runV (q0 := 0) (rest := []) (As := [.int (-2 : Int32)]) hC mw_100 md_X6_refuse (c_X6_refuse (X := X) hf9) hH [0, 5] rfl (by decide) rfl rfl rfl hl.1 rfl rfl (Nat.le_of_ble_eq_true rfl) dX6_heard_20 ⟨Nat.le_of_ble_eq_true rfl, Nat.le_of_ble_eq_true rfl⟩ ⟨rfl, rfl⟩ ⟨Nat.le_refl _, Nat.le_refl _⟩) hH [0, 5] rfl rfl rfl rfl rfl (fun hz9 H locs hH => ?_)
      exact x_retiw (φ := fun _ => True) (f := fun u : Int32 × (Nat → Int32) => u.1) (wf := fun u : Int32 × (Nat → Int32) => [(h0, xO 6 [.ref h1, .ref g0, .ref g1, .ref g2, .ref h5, .int v_isKept]), (h1, xO 0 [.ref h2, .ref g3, .int v_now_inForce, .int v_now_depth, .int v_now_miss, .long v_now_ring, .int v_now_steps, .int v_now_seed]), (h2, xO 2 [.ref h3, .ref h4, .int v_now_laws_count]), (h3, xI X 6 v_now_laws_kinds), (h4, xI X 6 v_now_laws_tunes), (h5, xI X 5 u.2)]) hC hr hlk trivial hf hH rfl rfl dX6_heard_23
def f_X6_all (v_now_inForce : Int32) (v_now_depth : Int32) (v_now_ring : Int64) (v_now_steps : Int32) (v_now_laws_count : Int32) (v_now_laws_kinds : (Nat → Int32)) (v_now_laws_tunes : (Nat → Int32)) (v_refusals : (Nat → Int32)) (p1 : Int32) : Option (Int32 × (Nat → Int32)) :=
  (f_X6_isWithin p1 (nI 0) (nI 2)).bind fun u1 =>
  if u1 = (nI 0) then
    (f_X6_refuse v_refusals (-2 : Int32)).bind fun u5 =>
    some (u5.1, u5.2)
  else
  (f_X0_sounds v_now_inForce v_now_depth v_now_laws_count v_now_laws_kinds v_now_laws_tunes v_now_ring v_now_steps p1).bind fun u3 =>
  (f_J13_bitCount_95d88 u3).bind fun u4 =>
  some (u4, v_refusals)
set_option maxHeartbeats 4000000 in
set_option maxRecDepth 100000 in
theorem c_X6_all {l : Launch} {X : xG} {h0 h1 h2 h3 h4 h5 g0 g1 g2 g3 : Nat} {v_isKept : Int32} {v_now_inForce : Int32} {v_now_depth : Int32} {v_now_miss : Int32} {v_now_ring : Int64} {v_now_steps : Int32} {v_now_seed : Int32} {v_now_laws_count : Int32} {v_now_laws_kinds : (Nat → Int32)} {v_now_laws_tunes : (Nat → Int32)} {v_refusals : (Nat → Int32)} {p1 : Int32} {u : Int32 × (Nat → Int32)} (hf : f_X6_all v_now_inForce v_now_depth v_now_ring v_now_steps v_now_laws_count v_now_laws_kinds v_now_laws_tunes v_refusals p1 = some u) : Met l yX6_all (xw yX6_all cX6_all 2 (some .int)) (xrm 5 128) (xPc [.ref h0, .int p1] X [(h0, xO 6 [.ref h1, .ref g0, .ref g1, .ref g2, .ref h5, .int v_isKept]), (h1, xO 0 [.ref h2, .ref g3, .int v_now_inForce, .int v_now_depth, .int v_now_miss, .long v_now_ring, .int v_now_steps, .int v_now_seed]), (h2, xO 2 [.ref h3, .ref h4, .int v_now_laws_count]), (h3, xI X 6 v_now_laws_kinds), (h4, xI X 6 v_now_laws_tunes), (h5, xI X 5 v_refusals)]) (xQw True (.returned (some (.int u.1))) X [(h0, xO 6 [.ref h1, .ref g0, .ref g1, .ref g2, .ref h5, .int v_isKept]), (h1, xO 0 [.ref h2, .ref g3, .int v_now_inForce, .int v_now_depth, .int v_now_miss, .long v_now_ring, .int v_now_steps, .int v_now_seed]), (h2, xO 2 [.ref h3, .ref h4, .int v_now_laws_count]), (h3, xI X 6 v_now_laws_kinds), (h4, xI X 6 v_now_laws_tunes), (h5, xI X 5 u.2)] (xAs [(h0, xO 6 [.ref h1, .ref g0, .ref g1, .ref g2, .ref h5, .int v_isKept]), (h1, xO 0 [.ref h2, .ref g3, .int v_now_inForce, .int v_now_depth, .int v_now_miss, .long v_now_ring, .int v_now_steps, .int v_now_seed]), (h2, xO 2 [.ref h3, .ref h4, .int v_now_laws_count]), (h3, xI X 6 v_now_laws_kinds), (h4, xI X 6 v_now_laws_tunes), (h5, xI X 5 v_refusals)])) 0 0 (xAs [(h0, xO 6 [.ref h1, .ref g0, .ref g1, .ref g2, .ref h5, .int v_isKept]), (h1, xO 0 [.ref h2, .ref g3, .int v_now_inForce, .int v_now_depth, .int v_now_miss, .long v_now_ring, .int v_now_steps, .int v_now_seed]), (h2, xO 2 [.ref h3, .ref h4, .int v_now_laws_count]), (h3, xI X 6 v_now_laws_kinds), (h4, xI X 6 v_now_laws_tunes), (h5, xI X 5 v_refusals)]) := by
  refine xMetw (Qc := fun A => xQw True (.returned (some (.int u.1))) X [(h0, xO 6 [.ref h1, .ref g0, .ref g1, .ref g2, .ref h5, .int v_isKept]), (h1, xO 0 [.ref h2, .ref g3, .int v_now_inForce, .int v_now_depth, .int v_now_miss, .long v_now_ring, .int v_now_steps, .int v_now_seed]), (h2, xO 2 [.ref h3, .ref h4, .int v_now_laws_count]), (h3, xI X 6 v_now_laws_kinds), (h4, xI X 6 v_now_laws_tunes), (h5, xI X 5 u.2)] A) (n := 1) md_X6_all.1 (Nat.le_of_ble_eq_true rfl) ?_
  intro p e s m args below meth c ls A hC hr hlk hH hl
  have hl : lv_has ls 2 [(0, .ref h0), (1, .int p1)] := hl
  have hx := hC.1
  have hb := hC.2.1
  refine lv_iload_n hx hb dX6_all_0 rfl (lv_at hl 1 rfl) ?_
  refine lv_iconst (v := (nI 0)) hx hb dX6_all_1 (by decide) ?_
  refine lv_iconst (v := (nI 2)) hx hb dX6_all_2 (by decide) ?_
  obtain ⟨u1, hf1, hf⟩ := xb hf
  refine x_ran (x_runS (rest := []) (As := [.int p1, .int (nI 0), .int (nI 2)]) hC mw_99 md_X6_isWithin (c_X6_isWithin (X := X) hf1) hH [] rfl (by decide) hl.1 rfl rfl (Nat.le_of_ble_eq_true rfl) dX6_all_3 ⟨Nat.le_of_ble_eq_true rfl, Nat.le_of_ble_eq_true rfl⟩ ⟨rfl, rfl⟩ ⟨Nat.le_refl _, Nat.le_refl _⟩) rfl (fun hz1 => ?_)
  refine lv_if_ne (tgt := 16) hx hb dX6_all_6 (by decide) (fun c2 => ?_) (fun c2 => ?_)
  · have hf := xe c2 hf
    refine lv_aload_n hx hb dX6_all_16 rfl (lv_at hl 0 rfl) ?_
    refine x_get hC fd_RX6_10 hH.1 0 rfl rfl dX6_all_17 ?_
    refine lv_aload_n hx hb dX6_all_20 rfl (lv_at hl 0 rfl) ?_
    refine x_get hC fd_RX6_10 hH.1 0 rfl rfl dX6_all_21 ?_
    refine x_getN hC fd_RX6_120 hH.1 1 rfl rfl dX6_all_24 ?_
    refine lv_aload_n hx hb dX6_all_27 rfl (lv_at hl 0 rfl) ?_
    refine x_get hC fd_RX6_10 hH.1 0 rfl rfl dX6_all_28 ?_
    refine x_getN hC fd_RX6_200 hH.1 1 rfl rfl dX6_all_31 ?_
    refine lv_iload_n hx hb dX6_all_34 rfl (lv_at hl 1 rfl) ?_
    obtain ⟨u3, hf3, hf⟩ := xb hf
    refine x_ran (x_runV (q0 := 0) (rest := []) (As := [.long v_now_ring, .int v_now_steps, .int p1]) hC mw_719 md_X0_sounds (c_X0_sounds (X := X) hf3) hH [1, 2, 3, 4] rfl (by decide) rfl rfl rfl hl.1 rfl rfl (Nat.le_of_ble_eq_true rfl) dX6_all_35 ⟨Nat.le_of_ble_eq_true rfl, Nat.le_of_ble_eq_true rfl⟩ ⟨rfl, rfl⟩ ⟨Nat.le_refl _, Nat.le_refl _⟩) rfl (fun hz3 => ?_)
    obtain ⟨u4, hf4, hf⟩ := xb hf
    refine x_ran (x_runS (rest := []) (As := [.long u3]) hC mw_744 md_J13_bitCount_95d88 (c_J13_bitCount_95d88 (X := X) hf4) hH [] rfl (by decide) hl.1 rfl rfl (Nat.le_of_ble_eq_true rfl) dX6_all_38 ⟨Nat.le_of_ble_eq_true rfl, Nat.le_of_ble_eq_true rfl⟩ ⟨rfl, rfl⟩ ⟨Nat.le_refl _, Nat.le_refl _⟩) rfl (fun hz4 => ?_)
    exact x_retiw (φ := fun _ => True) (f := fun u : Int32 × (Nat → Int32) => u.1) (wf := fun u : Int32 × (Nat → Int32) => [(h0, xO 6 [.ref h1, .ref g0, .ref g1, .ref g2, .ref h5, .int v_isKept]), (h1, xO 0 [.ref h2, .ref g3, .int v_now_inForce, .int v_now_depth, .int v_now_miss, .long v_now_ring, .int v_now_steps, .int v_now_seed]), (h2, xO 2 [.ref h3, .ref h4, .int v_now_laws_count]), (h3, xI X 6 v_now_laws_kinds), (h4, xI X 6 v_now_laws_tunes), (h5, xI X 5 u.2)]) hC hr hlk trivial hf hH rfl rfl dX6_all_41
  · have hf := xt c2 hf
    refine lv_aload_n hx hb dX6_all_9 rfl (lv_at hl 0 rfl) ?_
    refine lv_bipush (v := (-2 : Int32)) hx hb dX6_all_10 (by decide) ?_
    obtain ⟨u5, hf5, hf⟩ := xb hf
    refine x_ranw (ws' := [(h0, xO 6 [.ref h1, .ref g0, .ref g1, .ref g2, .ref h5, .int v_isKept]), (h1, xO 0 [.ref h2, .ref g3, .int v_now_inForce, .int v_now_depth, .int v_now_miss, .long v_now_ring, .int v_now_steps, .int v_now_seed]), (h2, xO 2 [.ref h3, .ref h4, .int v_now_laws_count]), (h3, xI X 6 v_now_laws_kinds), (h4, xI X 6 v_now_laws_tunes), (h5, xI X 5 u5.2)]) (x_runV (q0 := 0) (rest := []) (As := [.int (-2 : Int32)]) hC mw_100 md_X6_refuse (c_X6_refuse (X := X) hf5) hH [0, 5] rfl (by decide) rfl rfl rfl hl.1 rfl rfl (Nat.le_of_ble_eq_true rfl) dX6_all_12 ⟨Nat.le_of_ble_eq_true rfl, Nat.le_of_ble_eq_true rfl⟩ ⟨rfl, rfl⟩ ⟨Nat.le_refl _, Nat.le_refl _⟩) hH [0, 5] rfl rfl rfl rfl rfl (fun hz5 H locs hH => ?_)
    exact x_retiw (φ := fun _ => True) (f := fun u : Int32 × (Nat → Int32) => u.1) (wf := fun u : Int32 × (Nat → Int32) => [(h0, xO 6 [.ref h1, .ref g0, .ref g1, .ref g2, .ref h5, .int v_isKept]), (h1, xO 0 [.ref h2, .ref g3, .int v_now_inForce, .int v_now_depth, .int v_now_miss, .long v_now_ring, .int v_now_steps, .int v_now_seed]), (h2, xO 2 [.ref h3, .ref h4, .int v_now_laws_count]), (h3, xI X 6 v_now_laws_kinds), (h4, xI X 6 v_now_laws_tunes), (h5, xI X 5 u.2)]) hC hr hlk trivial hf hH rfl rfl dX6_all_15
