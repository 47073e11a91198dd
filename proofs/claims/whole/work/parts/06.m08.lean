def f_X7_element (v_holding : (Nat → Int32)) (v_rowLength : (Nat → Int32)) (v_rowOf : (Nat → Int64)) (p1 : Int32) (p2 : Int32) : Option (Int64) :=
  (f_X7_isShelf p1).bind fun u1 =>
  if u1 = (nI 0) then
    some (lN 0)
  else
  (f_X7_isRow v_holding p1).bind fun u3 =>
  if u3 = (nI 0) then
    some (lN 0)
  else
  if xout p1 8 then none else
  (f_X7_within p2 (nI 0) ((v_rowLength (xat p1)) - (nI 1))).bind fun u6 =>
  if u6 = (nI 0) then
    some (lN 0)
  else
  if xout (((nI 40) * p1) + p2) 320 then none else
  some (v_rowOf (xat (((nI 40) * p1) + p2)))
set_option maxHeartbeats 4000000 in
set_option maxRecDepth 100000 in
theorem c_X7_element {l : Launch} {X : xG} {h0 h1 h2 h3 g0 g1 g2 g3 g4 g5 g6 g7 : Nat} {v_laws : Int32} {v_inForce : Int32} {v_depth : Int32} {v_miss : Int32} {v_ring : Int64} {v_size : Int32} {v_people : Int32} {v_seed : Int32} {v_taped : Int32} {v_from : Int32} {v_to : Int32} {v_token : Int32} {v_value : Int32} {v_imaged : Int32} {v_oldRing : Int64} {v_aheadRing : Int64} {v_holding : (Nat → Int32)} {v_rowLength : (Nat → Int32)} {v_rowOf : (Nat → Int64)} {p1 : Int32} {p2 : Int32} {u : Int64} (hf : f_X7_element v_holding v_rowLength v_rowOf p1 p2 = some u) : Met l yX7_element (xw yX7_element cX7_element 3 (some .long)) (xrm 2 43) (xPc [.ref h0, .int p1, .int p2] X [(h0, xO 7 [.int v_laws, .ref g0, .ref g1, .int v_inForce, .int v_depth, .int v_miss, .long v_ring, .int v_size, .int v_people, .ref g2, .int v_seed, .int v_taped, .ref g3, .int v_from, .int v_to, .int v_token, .int v_value, .ref h1, .ref h2, .ref h3, .ref g4, .int v_imaged, .ref g5, .long v_oldRing, .ref g6, .long v_aheadRing, .ref g7]), (h1, xI X 8 v_holding), (h2, xI X 8 v_rowLength), (h3, xJ X 320 v_rowOf)]) (xQ True (.returned (some (.long u)))) 0 0 xNo := by
  refine xMet (n := 2) md_X7_element.1 (Nat.le_of_ble_eq_true rfl) ?_
  intro p e s m args below meth c ls A hC hr hlk hH hl
  have hl : lv_has ls 3 [(0, .ref h0), (1, .int p1), (2, .int p2)] := hl
  have hx := hC.1
  have hb := hC.2.1
  refine lv_iload_n hx hb dX7_element_0 rfl (lv_at hl 1 rfl) ?_
  obtain ⟨u1, hf1, hf⟩ := xb hf
  refine x_ran (x_runS (rest := []) (As := [.int p1]) hC mw_137 md_X7_isShelf (c_X7_isShelf (X := X) hf1) hH [] rfl (by decide) hl.1 rfl rfl (Nat.le_of_ble_eq_true rfl) dX7_element_1 ⟨Nat.le_of_ble_eq_true rfl, Nat.le_of_ble_eq_true rfl⟩ ⟨rfl, rfl⟩ ⟨Nat.le_refl _, Nat.le_refl _⟩) rfl (fun hz1 => ?_)
  refine lv_if_eq (tgt := 45) hx hb dX7_element_4 (by decide) (fun c2 => ?_) (fun c2 => ?_)
  · have hf := xt c2 hf
    refine lv_lconst (v := (lN 0)) hx hb dX7_element_45 (by decide) ?_
    exact x_retl hC hr hlk trivial hf dX7_element_46
  · have hf := xe c2 hf
    refine lv_aload_n hx hb dX7_element_7 rfl (lv_at hl 0 rfl) ?_
    refine lv_iload_n hx hb dX7_element_8 rfl (lv_at hl 1 rfl) ?_
    obtain ⟨u3, hf3, hf⟩ := xb hf
    refine x_ran (x_runV (q0 := 0) (rest := []) (As := [.int p1]) hC mw_169 md_X7_isRow (c_X7_isRow (X := X) hf3) hH [0, 1] rfl (by decide) rfl rfl rfl hl.1 rfl rfl (Nat.le_of_ble_eq_true rfl) dX7_element_9 ⟨Nat.le_of_ble_eq_true rfl, Nat.le_of_ble_eq_true rfl⟩ ⟨rfl, rfl⟩ ⟨Nat.le_refl _, Nat.le_refl _⟩) rfl (fun hz3 => ?_)
    refine lv_if_eq (tgt := 45) hx hb dX7_element_12 (by decide) (fun c4 => ?_) (fun c4 => ?_)
    · have hf := xt c4 hf
      refine lv_lconst (v := (lN 0)) hx hb dX7_element_45 (by decide) ?_
      exact x_retl hC hr hlk trivial hf dX7_element_46
    · have hf := xe c4 hf
      refine lv_iload_n hx hb dX7_element_15 rfl (lv_at hl 2 rfl) ?_
      refine lv_iconst (v := (nI 0)) hx hb dX7_element_16 (by decide) ?_
      refine lv_aload_n hx hb dX7_element_17 rfl (lv_at hl 0 rfl) ?_
      refine x_get hC fd_RX7_25 hH.1 0 rfl rfl dX7_element_18 ?_
      refine lv_iload_n hx hb dX7_element_21 rfl (lv_at hl 1 rfl) ?_
      obtain ⟨n5, hf⟩ := xok hf
      refine x_iald hC hH.1 2 rfl n5 dX7_element_22 ?_
      refine lv_iconst (v := (nI 1)) hx hb dX7_element_23 (by decide) ?_
      refine lv_isub hx hb dX7_element_24 ?_
      obtain ⟨u6, hf6, hf⟩ := xb hf
      refine x_ran (x_runS (rest := []) (As := [.int p2, .int (nI 0), .int ((v_rowLength (xat p1)) - (nI 1))]) hC mw_140 md_X7_within (c_X7_within (X := X) hf6) hH [] rfl (by decide) hl.1 rfl rfl (Nat.le_of_ble_eq_true rfl) dX7_element_25 ⟨Nat.le_of_ble_eq_true rfl, Nat.le_of_ble_eq_true rfl⟩ ⟨rfl, rfl⟩ ⟨Nat.le_refl _, Nat.le_refl _⟩) rfl (fun hz6 => ?_)
      refine lv_if_eq (tgt := 45) hx hb dX7_element_28 (by decide) (fun c7 => ?_) (fun c7 => ?_)
      · have hf := xt c7 hf
        refine lv_lconst (v := (lN 0)) hx hb dX7_element_45 (by decide) ?_
        exact x_retl hC hr hlk trivial hf dX7_element_46
      · have hf := xe c7 hf
        refine lv_aload_n hx hb dX7_element_31 rfl (lv_at hl 0 rfl) ?_
        refine x_get hC fd_RX7_28 hH.1 0 rfl rfl dX7_element_32 ?_
        refine lv_bipush (v := (nI 40)) hx hb dX7_element_35 (by decide) ?_
        refine lv_iload_n hx hb dX7_element_37 rfl (lv_at hl 1 rfl) ?_
        refine lv_imul hx hb dX7_element_38 ?_
        refine lv_iload_n hx hb dX7_element_39 rfl (lv_at hl 2 rfl) ?_
        refine lv_iadd hx hb dX7_element_40 ?_
        obtain ⟨n8, hf⟩ := xok hf
        refine x_lald hC hH.1 3 rfl n8 dX7_element_41 ?_
        refine lv_goto (tgt := 46) hx hb dX7_element_42 (by decide) ?_
        exact x_retl hC hr hlk trivial hf dX7_element_46
def f_X7_holds (v_holding : (Nat → Int32)) (p1 : Int32) : Option (Int32) :=
  (f_X7_isShelf p1).bind fun u1 =>
  if u1 = (nI 0) then
    some (-1 : Int32)
  else
  if xout p1 8 then none else
  some (v_holding (xat p1))
set_option maxHeartbeats 4000000 in
set_option maxRecDepth 100000 in
theorem c_X7_holds {l : Launch} {X : xG} {h0 h1 g0 g1 g2 g3 g4 g5 g6 g7 g8 g9 : Nat} {v_laws : Int32} {v_inForce : Int32} {v_depth : Int32} {v_miss : Int32} {v_ring : Int64} {v_size : Int32} {v_people : Int32} {v_seed : Int32} {v_taped : Int32} {v_from : Int32} {v_to : Int32} {v_token : Int32} {v_value : Int32} {v_imaged : Int32} {v_oldRing : Int64} {v_aheadRing : Int64} {v_holding : (Nat → Int32)} {p1 : Int32} {u : Int32} (hf : f_X7_holds v_holding p1 = some u) : Met l yX7_holds (xw yX7_holds cX7_holds 2 (some .int)) (xrm 2 42) (xPc [.ref h0, .int p1] X [(h0, xO 7 [.int v_laws, .ref g0, .ref g1, .int v_inForce, .int v_depth, .int v_miss, .long v_ring, .int v_size, .int v_people, .ref g2, .int v_seed, .int v_taped, .ref g3, .int v_from, .int v_to, .int v_token, .int v_value, .ref h1, .ref g4, .ref g5, .ref g6, .int v_imaged, .ref g7, .long v_oldRing, .ref g8, .long v_aheadRing, .ref g9]), (h1, xI X 8 v_holding)]) (xQ True (.returned (some (.int u)))) 0 0 xNo := by
  refine xMet (n := 1) md_X7_holds.1 (Nat.le_of_ble_eq_true rfl) ?_
  intro p e s m args below meth c ls A hC hr hlk hH hl
  have hl : lv_has ls 2 [(0, .ref h0), (1, .int p1)] := hl
  have hx := hC.1
  have hb := hC.2.1
  refine lv_iload_n hx hb dX7_holds_0 rfl (lv_at hl 1 rfl) ?_
  obtain ⟨u1, hf1, hf⟩ := xb hf
  refine x_ran (x_runS (rest := []) (As := [.int p1]) hC mw_137 md_X7_isShelf (c_X7_isShelf (X := X) hf1) hH [] rfl (by decide) hl.1 rfl rfl (Nat.le_of_ble_eq_true rfl) dX7_holds_1 ⟨Nat.le_of_ble_eq_true rfl, Nat.le_of_ble_eq_true rfl⟩ ⟨rfl, rfl⟩ ⟨Nat.le_refl _, Nat.le_refl _⟩) rfl (fun hz1 => ?_)
  refine lv_if_eq (tgt := 16) hx hb dX7_holds_4 (by decide) (fun c2 => ?_) (fun c2 => ?_)
  · have hf := xt c2 hf
    refine lv_iconst (v := (-1 : Int32)) hx hb dX7_holds_16 (by decide) ?_
    exact x_reti hC hr hlk trivial hf dX7_holds_17
  · have hf := xe c2 hf
    refine lv_aload_n hx hb dX7_holds_7 rfl (lv_at hl 0 rfl) ?_
    refine x_get hC fd_RX7_22 hH.1 0 rfl rfl dX7_holds_8 ?_
    refine lv_iload_n hx hb dX7_holds_11 rfl (lv_at hl 1 rfl) ?_
    obtain ⟨n3, hf⟩ := xok hf
    refine x_iald hC hH.1 1 rfl n3 dX7_holds_12 ?_
    refine lv_goto (tgt := 17) hx hb dX7_holds_13 (by decide) ?_
    exact x_reti hC hr hlk trivial hf dX7_holds_17
def f_X7_show_J27 (v_holding : (Nat → Int32)) (v_refusals : (Nat → Int32)) (p1 : Int32) (p2 : Int32) : Option (Int32 × (Nat → Int32) × (Nat → Int32)) :=
  if p2 = (-1 : Int32) then
    if xout p1 8 then none else
    some ((nI 1), upd v_holding (xat p1) (-1 : Int32), v_refusals)
  else
  if xout p1 8 then none else
  some ((nI 1), upd v_holding (xat p1) ((nI 10) + p2), v_refusals)
def f_X7_show (v_laws : Int32) (v_holding : (Nat → Int32)) (v_refusals : (Nat → Int32)) (p1 : Int32) (p2 : Int32) : Option (Int32 × (Nat → Int32) × (Nat → Int32)) :=
  (f_X7_isShelf p1).bind fun u1 =>
  if u1 = (nI 0) then
    (f_X7_no v_refusals (-2 : Int32)).bind fun u3 =>
    some (u3.1, v_holding, u3.2)
  else
  if p2 = (-1 : Int32) then
    f_X7_show_J27 v_holding v_refusals p1 p2
  else
  (f_X7_isLaw v_laws p2).bind fun u8 =>
  if u8 = (nI 0) then
    (f_X7_no v_refusals (-2 : Int32)).bind fun u10 =>
    some (u10.1, v_holding, u10.2)
  else
  f_X7_show_J27 v_holding v_refusals p1 p2
set_option maxHeartbeats 4000000 in
set_option maxRecDepth 100000 in
theorem c_X7_show {l : Launch} {X : xG} {h0 h1 h2 g0 g1 g2 g3 g4 g5 g6 g7 g8 : Nat} {v_laws : Int32} {v_inForce : Int32} {v_depth : Int32} {v_miss : Int32} {v_ring : Int64} {v_size : Int32} {v_people : Int32} {v_seed : Int32} {v_taped : Int32} {v_from : Int32} {v_to : Int32} {v_token : Int32} {v_value : Int32} {v_imaged : Int32} {v_oldRing : Int64} {v_aheadRing : Int64} {v_holding : (Nat → Int32)} {v_refusals : (Nat → Int32)} {p1 : Int32} {p2 : Int32} {u : Int32 × (Nat → Int32) × (Nat → Int32)} (hf : f_X7_show v_laws v_holding v_refusals p1 p2 = some u) : Met l yX7_show (xw yX7_show cX7_show 3 (some .int)) (xrm 2 43) (xPc [.ref h0, .int p1, .int p2] X [(h0, xO 7 [.int v_laws, .ref g0, .ref g1, .int v_inForce, .int v_depth, .int v_miss, .long v_ring, .int v_size, .int v_people, .ref g2, .int v_seed, .int v_taped, .ref g3, .int v_from, .int v_to, .int v_token, .int v_value, .ref h1, .ref g4, .ref g5, .ref h2, .int v_imaged, .ref g6, .long v_oldRing, .ref g7, .long v_aheadRing, .ref g8]), (h1, xI X 8 v_holding), (h2, xI X 7 v_refusals)]) (xQw True (.returned (some (.int u.1))) X [(h0, xO 7 [.int v_laws, .ref g0, .ref g1, .int v_inForce, .int v_depth, .int v_miss, .long v_ring, .int v_size, .int v_people, .ref g2, .int v_seed, .int v_taped, .ref g3, .int v_from, .int v_to, .int v_token, .int v_value, .ref h1, .ref g4, .ref g5, .ref h2, .int v_imaged, .ref g6, .long v_oldRing, .ref g7, .long v_aheadRing, .ref g8]), (h1, xI X 8 u.2.1), (h2, xI X 7 u.2.2)] (xAs [(h0, xO 7 [.int v_laws, .ref g0, .ref g1, .int v_inForce, .int v_depth, .int v_miss, .long v_ring, .int v_size, .int v_people, .ref g2, .int v_seed, .int v_taped, .ref g3, .int v_from, .int v_to, .int v_token, .int v_value, .ref h1, .ref g4, .ref g5, .ref h2, .int v_imaged, .ref g6, .long v_oldRing, .ref g7, .long v_aheadRing, .ref g8]), (h1, xI X 8 v_holding), (h2, xI X 7 v_refusals)])) 0 0 (xAs [(h0, xO 7 [.int v_laws, .ref g0, .ref g1, .int v_inForce, .int v_depth, .int v_miss, .long v_ring, .int v_size, .int v_people, .ref g2, .int v_seed, .int v_taped, .ref g3, .int v_from, .int v_to, .int v_token, .int v_value, .ref h1, .ref g4, .ref g5, .ref h2, .int v_imaged, .ref g6, .long v_oldRing, .ref g7, .long v_aheadRing, .ref g8]), (h1, xI X 8 v_holding), (h2, xI X 7 v_refusals)]) := by
  refine xMetw (Qc := fun A => xQw True (.returned (some (.int u.1))) X [(h0, xO 7 [.int v_laws, .ref g0, .ref g1, .int v_inForce, .int v_depth, .int v_miss, .long v_ring, .int v_size, .int v_people, .ref g2, .int v_seed, .int v_taped, .ref g3, .int v_from, .int v_to, .int v_token, .int v_value, .ref h1, .ref g4, .ref g5, .ref h2, .int v_imaged, .ref g6, .long v_oldRing, .ref g7, .long v_aheadRing, .ref g8]), (h1, xI X 8 u.2.1), (h2, xI X 7 u.2.2)] A) (n := 2) md_X7_show.1 (Nat.le_of_ble_eq_true rfl) ?_
  intro p e s m args below meth c ls A hC hr hlk hH hl
  have hl : lv_has ls 3 [(0, .ref h0), (1, .int p1), (2, .int p2)] := hl
  have hx := hC.1
  have hb := hC.2.1
  have J27 : ∀ (_ : True), f_X7_show_J27 v_holding v_refusals p1 p2 = some u → ∀ (H : Heap) (locs : List Loc), xH X A [(h0, xO 7 [.int v_laws, .ref g0, .ref g1, .int v_inForce, .int v_depth, .int v_miss, .long v_ring, .int v_size, .int v_people, .ref g2, .int v_seed, .int v_taped, .ref g3, .int v_from, .int v_to, .int v_token, .int v_value, .ref h1, .ref g4, .ref g5, .ref h2, .int v_imaged, .ref g6, .long v_oldRing, .ref g7, .long v_aheadRing, .ref g8]), (h1, xI X 8 v_holding), (h2, xI X 7 v_refusals)] s.heap H locs → ∀ (ls : Array Slot), lv_has ls 3 [(0, .ref h0), (1, .int p1), (2, .int p2)] → W p l e (xrm 2 43) s m args below meth c H locs 0 0 (MQ below (xQw True (.returned (some (.int u.1))) X [(h0, xO 7 [.int v_laws, .ref g0, .ref g1, .int v_inForce, .int v_depth, .int v_miss, .long v_ring, .int v_size, .int v_people, .ref g2, .int v_seed, .int v_taped, .ref g3, .int v_from, .int v_to, .int v_token, .int v_value, .ref h1, .ref g4, .ref g5, .ref h2, .int v_imaged, .ref g6, .long v_oldRing, .ref g7, .long v_aheadRing, .ref g8]), (h1, xI X 8 u.2.1), (h2, xI X 7 u.2.2)] A) args s 0 0 A) (F0 m 27 ls []) := by
    intro _ hf H locs hH ls hl
    refine lv_aload_n hx hb dX7_show_27 rfl (lv_at hl 0 rfl) ?_
    refine x_get hC fd_RX7_22 hH.1 0 rfl rfl dX7_show_28 ?_
    refine lv_iload_n hx hb dX7_show_31 rfl (lv_at hl 1 rfl) ?_
    refine lv_iload_n hx hb dX7_show_32 rfl (lv_at hl 2 rfl) ?_
    refine lv_iconst (v := (-1 : Int32)) hx hb dX7_show_33 (by decide) ?_
    refine lv_icmp_ne (tgt := 41) hx hb dX7_show_34 (by decide) (fun c5 => ?_) (fun c5 => ?_)
    · have hf := xe c5 hf
      refine lv_bipush (v := (nI 10)) hx hb dX7_show_41 (by decide) ?_
      refine lv_iload_n hx hb dX7_show_43 rfl (lv_at hl 2 rfl) ?_
      refine lv_iadd hx hb dX7_show_44 ?_
      obtain ⟨n6, hf⟩ := xok hf
      refine x_iast (ws' := [(h0, xO 7 [.int v_laws, .ref g0, .ref g1, .int v_inForce, .int v_depth, .int v_miss, .long v_ring, .int v_size, .int v_people, .ref g2, .int v_seed, .int v_taped, .ref g3, .int v_from, .int v_to, .int v_token, .int v_value, .ref h1, .ref g4, .ref g5, .ref h2, .int v_imaged, .ref g6, .long v_oldRing, .ref g7, .long v_aheadRing, .ref g8]), (h1, xI X 8 (upd v_holding (xat p1) ((nI 10) + p2))), (h2, xI X 7 v_refusals)]) hC hH 1 rfl n6 dX7_show_45 rfl (fun H locs hH => ?_)
      refine lv_iconst (v := (nI 1)) hx hb dX7_show_46 (by decide) ?_
      exact x_retiw (φ := fun _ => True) (f := fun u : Int32 × (Nat → Int32) × (Nat → Int32) => u.1) (wf := fun u : Int32 × (Nat → Int32) × (Nat → Int32) => [(h0, xO 7 [.int v_laws, .ref g0, .ref g1, .int v_inForce, .int v_depth, .int v_miss, .long v_ring, .int v_size, .int v_people, .ref g2, .int v_seed, .int v_taped, .ref g3, .int v_from, .int v_to, .int v_token, .int v_value, .ref h1, .ref g4, .ref g5, .ref h2, .int v_imaged, .ref g6, .long v_oldRing, .ref g7, .long v_aheadRing, .ref g8]), (h1, xI X 8 u.2.1), (h2, xI X 7 u.2.2)]) hC hr hlk trivial hf hH rfl rfl dX7_show_47
    · have hf := xt c5 hf
      refine lv_iconst (v := (-1 : Int32)) hx hb dX7_show_37 (by decide) ?_
      refine lv_goto (tgt := 45) hx hb dX7_show_38 (by decide) ?_
      obtain ⟨n7, hf⟩ := xok hf
      refine x_iast (ws' := [(h0, xO 7 [.int v_laws, .ref g0, .ref g1, .int v_inForce, .int v_depth, .int v_miss, .long v_ring, .int v_size, .int v_people, .ref g2, .int v_seed, .int v_taped, .ref g3, .int v_from, .int v_to, .int v_token, .int v_value, .ref h1, .ref g4, .ref g5, .ref h2, .int v_imaged, .ref g6, .long v_oldRing, .ref g7, .long v_aheadRing, .ref g8]), (h1, xI X 8 (upd v_holding (xat p1) (-1 : Int32))), (h2, xI X 7 v_refusals)]) hC hH 1 rfl n7 dX7_show_45 rfl (fun H locs hH => ?_)
      refine lv_iconst (v := (nI 1)) hx hb dX7_show_46 (by decide) ?_
      exact x_retiw (φ := fun _ => True) (f := fun u : Int32 × (Nat → Int32) × (Nat → Int32) => u.1) (wf := fun u : Int32 × (Nat → Int32) × (Nat → Int32) => [(h0, xO 7 [.int v_laws, .ref g0, .ref g1, .int v_inForce, .int v_depth, .int v_miss, .long v_ring, .int v_size, .int v_people, .ref g2, .int v_seed, .int v_taped, .ref g3, .int v_from, .int v_to, .int v_token, .int v_value, .ref h1, .ref g4, .ref g5, .ref h2, .int v_imaged, .ref g6, .long v_oldRing, .ref g7, .long v_aheadRing, .ref g8]), (h1, xI X 8 u.2.1), (h2, xI X 7 u.2.2)]) hC hr hlk trivial hf hH rfl rfl dX7_show_47
  refine lv_iload_n hx hb dX7_show_0 rfl (lv_at hl 1 rfl) ?_
  obtain ⟨u1, hf1, hf⟩ := xb hf
  refine x_ran (x_runS (rest := []) (As := [.int p1]) hC mw_137 md_X7_isShelf (c_X7_isShelf (X := X) hf1) hH [] rfl (by decide) hl.1 rfl rfl (Nat.le_of_ble_eq_true rfl) dX7_show_1 ⟨Nat.le_of_ble_eq_true rfl, Nat.le_of_ble_eq_true rfl⟩ ⟨rfl, rfl⟩ ⟨Nat.le_refl _, Nat.le_refl _⟩) rfl (fun hz1 => ?_)
  refine lv_if_eq (tgt := 20) hx hb dX7_show_4 (by decide) (fun c2 => ?_) (fun c2 => ?_)
  · have hf := xt c2 hf
    refine lv_aload_n hx hb dX7_show_20 rfl (lv_at hl 0 rfl) ?_
    refine lv_bipush (v := (-2 : Int32)) hx hb dX7_show_21 (by decide) ?_
    obtain ⟨u3, hf3, hf⟩ := xb hf
    refine x_ranw (ws' := [(h0, xO 7 [.int v_laws, .ref g0, .ref g1, .int v_inForce, .int v_depth, .int v_miss, .long v_ring, .int v_size, .int v_people, .ref g2, .int v_seed, .int v_taped, .ref g3, .int v_from, .int v_to, .int v_token, .int v_value, .ref h1, .ref g4, .ref g5, .ref h2, .int v_imaged, .ref g6, .long v_oldRing, .ref g7, .long v_aheadRing, .ref g8]), (h1, xI X 8 v_holding), (h2, xI X 7 u3.2)]) (x_runV (q0 := 0) (rest := []) (As := [.int (-2 : Int32)]) hC mw_143 md_X7_no (c_X7_no (X := X) hf3) hH [0, 2] rfl (by decide) rfl rfl rfl hl.1 rfl rfl (Nat.le_of_ble_eq_true rfl) dX7_show_23 ⟨Nat.le_of_ble_eq_true rfl, Nat.le_of_ble_eq_true rfl⟩ ⟨rfl, rfl⟩ ⟨Nat.le_refl _, Nat.le_refl _⟩) hH [0, 2] rfl rfl rfl rfl rfl (fun hz3 H locs hH => ?_)
    exact x_retiw (φ := fun _ => True) (f := fun u : Int32 × (Nat → Int32) × (Nat → Int32) => u.1) (wf := fun u : Int32 × (Nat → Int32) × (Nat → Int32) => [(h0, xO 7 [.int v_laws, .ref g0, .ref g1, .int v_inForce, .int v_depth, .int v_miss, .long v_ring, .int v_size, .int v_people, .ref g2, .int v_seed, .int v_taped, .ref g3, .int v_from, .int v_to, .int v_token, .int v_value, .ref h1, .ref g4, .ref g5, .ref h2, .int v_imaged, .ref g6, .long v_oldRing, .ref g7, .long v_aheadRing, .ref g8]), (h1, xI X 8 u.2.1), (h2, xI X 7 u.2.2)]) hC hr hlk trivial hf hH rfl rfl dX7_show_26
  · have hf := xe c2 hf
    refine lv_iload_n hx hb dX7_show_7 rfl (lv_at hl 2 rfl) ?_
    refine lv_iconst (v := (-1 : Int32)) hx hb dX7_show_8 (by decide) ?_
    refine lv_icmp_eq (tgt := 27) hx hb dX7_show_9 (by decide) (fun c4 => ?_) (fun c4 => ?_)
    · have hf := xt c4 hf
      exact J27 trivial hf _ _ hH ls (lv_sub hl [0, 1, 2] rfl)
    · have hf := xe c4 hf
      refine lv_aload_n hx hb dX7_show_12 rfl (lv_at hl 0 rfl) ?_
      refine lv_iload_n hx hb dX7_show_13 rfl (lv_at hl 2 rfl) ?_
      obtain ⟨u8, hf8, hf⟩ := xb hf
      refine x_ran (x_runV (q0 := 0) (rest := []) (As := [.int p2]) hC mw_243 md_X7_isLaw (c_X7_isLaw (X := X) hf8) hH [0] rfl (by decide) rfl rfl rfl hl.1 rfl rfl (Nat.le_of_ble_eq_true rfl) dX7_show_14 ⟨Nat.le_of_ble_eq_true rfl, Nat.le_of_ble_eq_true rfl⟩ ⟨rfl, rfl⟩ ⟨Nat.le_refl _, Nat.le_refl _⟩) rfl (fun hz8 => ?_)
      refine lv_if_ne (tgt := 27) hx hb dX7_show_17 (by decide) (fun c9 => ?_) (fun c9 => ?_)
      · have hf := xe c9 hf
        exact J27 trivial hf _ _ hH ls (lv_sub hl [0, 1, 2] rfl)
      · have hf := xt c9 hf
        refine lv_aload_n hx hb dX7_show_20 rfl (lv_at hl 0 rfl) ?_
        refine lv_bipush (v := (-2 : Int32)) hx hb dX7_show_21 (by decide) ?_
        obtain ⟨u10, hf10, hf⟩ := xb hf
        refine x_ranw (ws' := [(h0, xO 7 [.int v_laws, .ref g0, .ref g1, .int v_inForce, .int v_depth, .int v_miss, .long v_ring, .int v_size, .int v_people, .ref g2, .int v_seed, .int v_taped, .ref g3, .int v_from, .int v_to, .int v_token, .int v_value, .ref h1, .ref g4, .ref g5, .ref h2, .int v_imaged, .ref g6, .long v_oldRing, .ref g7, .long v_aheadRing, .ref g8]), (h1, xI X 8 v_holding), (h2, xI X 7 u10.2)]) (x_runV (q0 := 0) (rest := []) (As := [.int (-2 : Int32)]) hC mw_143 md_X7_no (c_X7_no (X := X) hf10) hH [0, 2] rfl (by decide) rfl rfl rfl hl.1 rfl rfl (Nat.le_of_ble_eq_true rfl) dX7_show_23 ⟨Nat.le_of_ble_eq_true rfl, Nat.le_of_ble_eq_true rfl⟩ ⟨rfl, rfl⟩ ⟨Nat.le_refl _, Nat.le_refl _⟩) hH [0, 2] rfl rfl rfl rfl rfl (fun hz10 H locs hH => ?_)
        exact x_retiw (φ := fun _ => True) (f := fun u : Int32 × (Nat → Int32) × (Nat → Int32) => u.1) (wf := fun u : Int32 × (Nat → Int32) × (Nat → Int32) => [(h0, xO 7 [.int v_laws, .ref g0, .ref g1, .int v_inForce, .int v_depth, .int v_miss, .long v_ring, .int v_size, .int v_people, .ref g2, .int v_seed, .int v_taped, .ref g3, .int v_from, .int v_to, .int v_token, .int v_value, .ref h1, .ref g4, .ref g5, .ref h2, .int v_imaged, .ref g6, .long v_oldRing, .ref g7, .long v_aheadRing, .ref g8]), (h1, xI X 8 u.2.1), (h2, xI X 7 u.2.2)]) hC hr hlk trivial hf hH rfl rfl dX7_show_26
def f_X7_isUnder_J19 (p0 : Int32) (p1 : Int32) : Option (Int32) :=
  if p0 = (nI 4) then
    if p1 = (nI 2) then
      some (nI 1)
    else
    some (nI 0)
  else
  some (nI 0)
def f_X7_isUnder (p0 : Int32) (p1 : Int32) : Option (Int32) :=
  if p1 = (nI 0) then
    some (nI 1)
  else
  if p0 = p1 then
    some (nI 1)
  else
  if p0 = (nI 3) then
    if p1 = (nI 1) then
      some (nI 1)
    else
    f_X7_isUnder_J19 p0 p1
  else
  f_X7_isUnder_J19 p0 p1
set_option maxHeartbeats 4000000 in
set_option maxRecDepth 100000 in
theorem c_X7_isUnder {l : Launch} {X : xG} {p0 : Int32} {p1 : Int32} {u : Int32} (hf : f_X7_isUnder p0 p1 = some u) : Met l yX7_isUnder (xw yX7_isUnder cX7_isUnder 2 (some .boolean)) (xrm 0 0) (xPc [.int p0, .int p1] X []) (xQ (u = 0 ∨ u = 1) (.returned (some (.int u)))) 0 0 xNo := by
  refine xMet (n := 2) md_X7_isUnder.1 (Nat.le_of_ble_eq_true rfl) ?_
  intro p e s m args below meth c ls A hC hr hlk hH hl
  have hl : lv_has ls 2 [(0, .int p0), (1, .int p1)] := hl
  have hx := hC.1
  have hb := hC.2.1
  have J19 : ∀ (_ : True), f_X7_isUnder_J19 p0 p1 = some u → ∀ (ls : Array Slot), lv_has ls 2 [(0, .int p0), (1, .int p1)] → W p l e (xrm 0 0) s m args below meth c s.heap [] 0 0 (MQ below (xQ (u = 0 ∨ u = 1) (.returned (some (.int u)))) args s 0 0 xNo) (F0 m 19 ls []) := by
    intro _ hf ls hl
    refine lv_iload_n hx hb dX7_isUnder_19 rfl (lv_at hl 0 rfl) ?_
    refine lv_iconst (v := (nI 4)) hx hb dX7_isUnder_20 (by decide) ?_
    refine lv_icmp_ne (tgt := 33) hx hb dX7_isUnder_21 (by decide) (fun c4 => ?_) (fun c4 => ?_)
    · have hf := xe c4 hf
      refine lv_iconst (v := (nI 0)) hx hb dX7_isUnder_33 (by decide) ?_
      exact x_retz hC hr hlk (Or.inl rfl) hf dX7_isUnder_34
    · have hf := xt c4 hf
      refine lv_iload_n hx hb dX7_isUnder_24 rfl (lv_at hl 1 rfl) ?_
      refine lv_iconst (v := (nI 2)) hx hb dX7_isUnder_25 (by decide) ?_
      refine lv_icmp_ne (tgt := 33) hx hb dX7_isUnder_26 (by decide) (fun c5 => ?_) (fun c5 => ?_)
      · have hf := xe c5 hf
        refine lv_iconst (v := (nI 0)) hx hb dX7_isUnder_33 (by decide) ?_
        exact x_retz hC hr hlk (Or.inl rfl) hf dX7_isUnder_34
      · have hf := xt c5 hf
        refine lv_iconst (v := (nI 1)) hx hb dX7_isUnder_29 (by decide) ?_
        refine lv_goto (tgt := 34) hx hb dX7_isUnder_30 (by decide) ?_
        exact x_retz hC hr hlk (Or.inr rfl) hf dX7_isUnder_34
  refine lv_iload_n hx hb dX7_isUnder_0 rfl (lv_at hl 1 rfl) ?_
  refine lv_if_eq (tgt := 29) hx hb dX7_isUnder_1 (by decide) (fun c1 => ?_) (fun c1 => ?_)
  · have hf := xt c1 hf
    refine lv_iconst (v := (nI 1)) hx hb dX7_isUnder_29 (by decide) ?_
    refine lv_goto (tgt := 34) hx hb dX7_isUnder_30 (by decide) ?_
    exact x_retz hC hr hlk (Or.inr rfl) hf dX7_isUnder_34
  · have hf := xe c1 hf
    refine lv_iload_n hx hb dX7_isUnder_4 rfl (lv_at hl 0 rfl) ?_
    refine lv_iload_n hx hb dX7_isUnder_5 rfl (lv_at hl 1 rfl) ?_
    refine lv_icmp_eq (tgt := 29) hx hb dX7_isUnder_6 (by decide) (fun c2 => ?_) (fun c2 => ?_)
    · have hf := xt c2 hf
      refine lv_iconst (v := (nI 1)) hx hb dX7_isUnder_29 (by decide) ?_
      refine lv_goto (tgt := 34) hx hb dX7_isUnder_30 (by decide) ?_
      exact x_retz hC hr hlk (Or.inr rfl) hf dX7_isUnder_34
    · have hf := xe c2 hf
      refine lv_iload_n hx hb dX7_isUnder_9 rfl (lv_at hl 0 rfl) ?_
      refine lv_iconst (v := (nI 3)) hx hb dX7_isUnder_10 (by decide) ?_
      refine lv_icmp_ne (tgt := 19) hx hb dX7_isUnder_11 (by decide) (fun c3 => ?_) (fun c3 => ?_)
      · have hf := xe c3 hf
        exact J19 trivial hf ls (lv_sub hl [0, 1] rfl)
      · have hf := xt c3 hf
        refine lv_iload_n hx hb dX7_isUnder_14 rfl (lv_at hl 1 rfl) ?_
        refine lv_iconst (v := (nI 1)) hx hb dX7_isUnder_15 (by decide) ?_
        refine lv_icmp_eq (tgt := 29) hx hb dX7_isUnder_16 (by decide) (fun c6 => ?_) (fun c6 => ?_)
        · have hf := xt c6 hf
          refine lv_iconst (v := (nI 1)) hx hb dX7_isUnder_29 (by decide) ?_
          refine lv_goto (tgt := 34) hx hb dX7_isUnder_30 (by decide) ?_
          exact x_retz hC hr hlk (Or.inr rfl) hf dX7_isUnder_34
        · have hf := xe c6 hf
          exact J19 trivial hf ls (lv_sub hl [0, 1] rfl)
def f_X7_isStroke (p0 : Int64) (p1 : Int32) (p2 : Int32) : Option (Int32) :=
  if p2 < (nI 0) then
    some (nI 0)
  else
  if p1 = nI 0 then none else
  (f_X7_has p0 (xrem p2 p1)).bind fun u3 =>
  if u3 = (nI 0) then
    some (nI 0)
  else
  some (nI 1)
set_option maxHeartbeats 4000000 in
set_option maxRecDepth 100000 in
theorem c_X7_isStroke {l : Launch} {X : xG} {p0 : Int64} {p1 : Int32} {p2 : Int32} {u : Int32} (hf : f_X7_isStroke p0 p1 p2 = some u) : Met l yX7_isStroke (xw yX7_isStroke cX7_isStroke 4 (some .boolean)) (xrm 1 22) (xPc [.long p0, .int p1, .int p2] X []) (xQ (u = 0 ∨ u = 1) (.returned (some (.int u)))) 0 0 xNo := by
  refine xMet (n := 3) md_X7_isStroke.1 (Nat.le_of_ble_eq_true rfl) ?_
  intro p e s m args below meth c ls A hC hr hlk hH hl
  have hl : lv_has ls 4 [(0, .long p0), (2, .int p1), (3, .int p2)] := hl
  have hx := hC.1
  have hb := hC.2.1
  refine lv_iload_n hx hb dX7_isStroke_0 rfl (lv_at hl 2 rfl) ?_
  refine lv_if_lt (tgt := 18) hx hb dX7_isStroke_1 (by decide) (fun c1 => ?_) (fun c1 => ?_)
  · have hf := xt c1 hf
    refine lv_iconst (v := (nI 0)) hx hb dX7_isStroke_18 (by decide) ?_
    exact x_retz hC hr hlk (Or.inl rfl) hf dX7_isStroke_19
  · have hf := xe c1 hf
    refine lv_lload_n hx hb dX7_isStroke_4 rfl (lv_at hl 0 rfl) ?_
    refine lv_iload_n hx hb dX7_isStroke_5 rfl (lv_at hl 2 rfl) ?_
    refine lv_iload_n hx hb dX7_isStroke_6 rfl (lv_at hl 1 rfl) ?_
    obtain ⟨n2, hf⟩ := xok hf
    refine x_irem hx hb dX7_isStroke_7 n2 ?_
    obtain ⟨u3, hf3, hf⟩ := xb hf
    refine x_ran (x_runS (rest := []) (As := [.long p0, .int (xrem p2 p1)]) hC mw_336 md_X7_has (c_X7_has (X := X) hf3) hH [] rfl (by decide) hl.1 rfl rfl (Nat.le_of_ble_eq_true rfl) dX7_isStroke_8 ⟨Nat.le_of_ble_eq_true rfl, Nat.le_of_ble_eq_true rfl⟩ ⟨rfl, rfl⟩ ⟨Nat.le_refl _, Nat.le_refl _⟩) rfl (fun hz3 => ?_)
    refine lv_if_eq (tgt := 18) hx hb dX7_isStroke_11 (by decide) (fun c4 => ?_) (fun c4 => ?_)
    · have hf := xt c4 hf
      refine lv_iconst (v := (nI 0)) hx hb dX7_isStroke_18 (by decide) ?_
      exact x_retz hC hr hlk (Or.inl rfl) hf dX7_isStroke_19
    · have hf := xe c4 hf
      refine lv_iconst (v := (nI 1)) hx hb dX7_isStroke_14 (by decide) ?_
      refine lv_goto (tgt := 19) hx hb dX7_isStroke_15 (by decide) ?_
      exact x_retz hC hr hlk (Or.inr rfl) hf dX7_isStroke_19
def f_X7_strokes (p0 : Int64) (p1 : Int32) (p2 : Int32) : Option (Int32) :=
  if p1 = nI 0 then none else
  if p1 = nI 0 then none else
  (f_J13_bitCount_95d88 p0).bind fun u3 =>
  (f_J13_bitCount_95d88 (p0 &&& ((xlshl (lN 1) (xrem p2 p1)) - (lN 1)))).bind fun u4 =>
  some (((p2 / p1) * u3) + u4)
set_option maxHeartbeats 4000000 in
set_option maxRecDepth 100000 in
theorem c_X7_strokes {l : Launch} {X : xG} {p0 : Int64} {p1 : Int32} {p2 : Int32} {u : Int32} (hf : f_X7_strokes p0 p1 p2 = some u) : Met l yX7_strokes (xw yX7_strokes cX7_strokes 5 (some .int)) (xrm 1 21) (xPc [.long p0, .int p1, .int p2] X []) (xQ True (.returned (some (.int u)))) 0 0 xNo := by
  refine xMet (n := 3) md_X7_strokes.1 (Nat.le_of_ble_eq_true rfl) ?_
  intro p e s m args below meth c ls A hC hr hlk hH hl
  have hl : lv_has ls 5 [(0, .long p0), (2, .int p1), (3, .int p2)] := hl
  have hx := hC.1
  have hb := hC.2.1
  refine lv_iload_n hx hb dX7_strokes_0 rfl (lv_at hl 2 rfl) ?_
  refine lv_iload_n hx hb dX7_strokes_1 rfl (lv_at hl 1 rfl) ?_
  obtain ⟨n1, hf⟩ := xok hf
  refine x_irem hx hb dX7_strokes_2 n1 ?_
  refine lv_istore (lv' := [(4, .int (xrem p2 p1)), (0, .long p0), (2, .int p1), (3, .int p2)]) hx hb dX7_strokes_3 hl (by decide) rfl (fun ls hl => ?_)
  refine lv_iload_n hx hb dX7_strokes_5 rfl (lv_at hl 3 rfl) ?_
  refine lv_iload_n hx hb dX7_strokes_6 rfl (lv_at hl 2 rfl) ?_
  obtain ⟨n2, hf⟩ := xok hf
  refine lv_idiv hx hb dX7_strokes_7 n2 ?_
  refine lv_lload_n hx hb dX7_strokes_8 rfl (lv_at hl 1 rfl) ?_
  obtain ⟨u3, hf3, hf⟩ := xb hf
  refine x_ran (x_runS (rest := [.int (p2 / p1)]) (As := [.long p0]) hC mw_342 md_J13_bitCount_95d88 (c_J13_bitCount_95d88 (X := X) hf3) hH [] rfl (by decide) hl.1 rfl rfl (Nat.le_of_ble_eq_true rfl) dX7_strokes_9 ⟨Nat.le_of_ble_eq_true rfl, Nat.le_of_ble_eq_true rfl⟩ ⟨rfl, rfl⟩ ⟨Nat.le_refl _, Nat.le_refl _⟩) rfl (fun hz3 => ?_)
  refine lv_imul hx hb dX7_strokes_12 ?_
  refine lv_lload_n hx hb dX7_strokes_13 rfl (lv_at hl 1 rfl) ?_
  refine lv_lconst (v := (lN 1)) hx hb dX7_strokes_14 (by decide) ?_
  refine lv_iload hx hb dX7_strokes_15 (lv_at hl 0 rfl) ?_
  refine x_lshl hx hb dX7_strokes_17 ?_
  refine lv_lconst (v := (lN 1)) hx hb dX7_strokes_18 (by decide) ?_
  refine lv_lsub hx hb dX7_strokes_19 ?_
  refine lv_land hx hb dX7_strokes_20 ?_
  obtain ⟨u4, hf4, hf⟩ := xb hf
  refine x_ran (x_runS (rest := [.int ((p2 / p1) * u3)]) (As := [.long (p0 &&& ((xlshl (lN 1) (xrem p2 p1)) - (lN 1)))]) hC mw_342 md_J13_bitCount_95d88 (c_J13_bitCount_95d88 (X := X) hf4) hH [] rfl (by decide) hl.1 rfl rfl (Nat.le_of_ble_eq_true rfl) dX7_strokes_21 ⟨Nat.le_of_ble_eq_true rfl, Nat.le_of_ble_eq_true rfl⟩ ⟨rfl, rfl⟩ ⟨Nat.le_refl _, Nat.le_refl _⟩) rfl (fun hz4 => ?_)
  refine lv_iadd hx hb dX7_strokes_24 ?_
  exact x_reti hC hr hlk trivial hf dX7_strokes_25
def f_X7_strikesAt_L88 (p2 : Int64) (p3 : Int32) (p4 : Int32) (x88_6 : Int32) (s88 : Int32) : Option ((Int32) ⊕ (Int32)) :=
  if x88_6 < s88 then
    some (.inl (nI 1))
  else
  (f_X7_isStroke p2 p3 (p4 - s88)).bind fun u8 =>
  if u8 = (nI 0) then
    some (.inr (s88 + (nI 1)))
  else
  some (.inl (nI 0))
def f_X7_strikesAt (v_kind : (Nat → Int32)) (v_own : (Nat → Int32)) (p1 : Int32) (p2 : Int64) (p3 : Int32) (p4 : Int32) : Option (Int32) :=
  if xout p1 6 then none else
  if xout p1 6 then none else
  if (v_kind (xat p1)) = (nI 1) then
    (f_X7_isStroke p2 p3 ((p4 - (v_own (xat p1))) - (nI 1))).bind fun u4 =>
    some u4
  else
  if (v_kind (xat p1)) = (nI 2) then
    if (v_own (xat p1)) ≤ p4 then
      xloop (f_X7_strikesAt_L88 p2 p3 p4 (v_own (xat p1))) xN (nI 0)
    else
    some (nI 0)
  else
  if (v_kind (xat p1)) = (nI 3) then
    (f_X7_isStroke p2 p3 ((p4 - (v_own (xat p1))) - (nI 2))).bind fun u11 =>
    some u11
  else
  if (v_kind (xat p1)) = (nI 4) then
    (f_X7_isStroke p2 p3 p4).bind fun u13 =>
    if u13 = (nI 0) then
      (f_X7_strokes p2 p3 p4).bind fun u15 =>
      if ((v_own (xat p1)) + (nI 1)) = nI 0 then none else
      if (xrem u15 ((v_own (xat p1)) + (nI 1))) = (nI 0) then
        some (nI 1)
      else
      some (nI 0)
    else
    some (nI 0)
  else
  if (v_kind (xat p1)) = (nI 5) then
    if ((v_own (xat p1)) + (nI 2)) = nI 0 then none else
    if (xrem p4 ((v_own (xat p1)) + (nI 2))) = (nI 0) then
      some (nI 1)
    else
    some (nI 0)
  else
  (f_X7_isStroke p2 p3 p4).bind fun u21 =>
  if u21 = (nI 0) then
    some (nI 1)
  else
  some (nI 0)
set_option maxHeartbeats 4000000 in
set_option maxRecDepth 100000 in
theorem c_X7_strikesAt {l : Launch} {X : xG} {h0 h1 h2 g0 g1 g2 g3 g4 g5 g6 g7 g8 : Nat} {v_laws : Int32} {v_inForce : Int32} {v_depth : Int32} {v_miss : Int32} {v_ring : Int64} {v_size : Int32} {v_people : Int32} {v_seed : Int32} {v_taped : Int32} {v_from : Int32} {v_to : Int32} {v_token : Int32} {v_value : Int32} {v_imaged : Int32} {v_oldRing : Int64} {v_aheadRing : Int64} {v_kind : (Nat → Int32)} {v_own : (Nat → Int32)} {p1 : Int32} {p2 : Int64} {p3 : Int32} {p4 : Int32} {u : Int32} (hf : f_X7_strikesAt v_kind v_own p1 p2 p3 p4 = some u) : Met l yX7_strikesAt (xw yX7_strikesAt cX7_strikesAt 8 (some .boolean)) (xrm 2 45) (xPc [.ref h0, .int p1, .long p2, .int p3, .int p4] X [(h0, xO 7 [.int v_laws, .ref h1, .ref h2, .int v_inForce, .int v_depth, .int v_miss, .long v_ring, .int v_size, .int v_people, .ref g0, .int v_seed, .int v_taped, .ref g1, .int v_from, .int v_to, .int v_token, .int v_value, .ref g2, .ref g3, .ref g4, .ref g5, .int v_imaged, .ref g6, .long v_oldRing, .ref g7, .long v_aheadRing, .ref g8]), (h1, xI X 6 v_kind), (h2, xI X 6 v_own)]) (xQ (u = 0 ∨ u = 1) (.returned (some (.int u)))) 0 0 xNo := by
  refine xMet (n := 4) md_X7_strikesAt.1 (Nat.le_of_ble_eq_true rfl) ?_
  intro p e s m args below meth c ls A hC hr hlk hH hl
  have hl : lv_has ls 8 [(0, .ref h0), (1, .int p1), (2, .long p2), (4, .int p3), (5, .int p4)] := hl
  have hx := hC.1
  have hb := hC.2.1
  have L88 : ∀ (x88_6 : Int32) (n : Nat) (s88 : Int32), xloop (f_X7_strikesAt_L88 p2 p3 p4 x88_6) n s88 = some u → ∀ (ls : Array Slot), lv_has ls 8 [(2, .long p2), (4, .int p3), (5, .int p4), (6, .int x88_6), (7, .int s88)] → W p l e (xrm 2 45) s m args below meth c s.heap [] 0 0 (MQ below (xQ (u = 0 ∨ u = 1) (.returned (some (.int u)))) args s 0 0 xNo) (F0 m 88 ls []) := by
    intro x88_6 n
    induction n with
    | zero => intro s88 hf; exact xloop_0 hf
    | succ n ih88 =>
      intro s88 hf ls hl
      obtain ⟨o88, hf, ho88⟩ := xloop_s hf
      refine lv_iload hx hb dX7_strikesAt_88 (lv_at hl 4 rfl) ?_
      refine lv_iload hx hb dX7_strikesAt_90 (lv_at hl 3 rfl) ?_
      refine lv_icmp_gt (tgt := 117) hx hb dX7_strikesAt_92 (by decide) (fun c7 => ?_) (fun c7 => ?_)
      · have hf := xt c7 hf
        refine lv_iconst (v := (nI 1)) hx hb dX7_strikesAt_117 (by decide) ?_
        have hf := xo_ret hf ho88
        exact x_retz hC hr hlk (Or.inr rfl) hf dX7_strikesAt_118
      · have hf := xe c7 hf
        refine lv_lload_n hx hb dX7_strikesAt_95 rfl (lv_at hl 0 rfl) ?_
        refine lv_iload hx hb dX7_strikesAt_96 (lv_at hl 1 rfl) ?_
        refine lv_iload hx hb dX7_strikesAt_98 (lv_at hl 2 rfl) ?_
        refine lv_iload hx hb dX7_strikesAt_100 (lv_at hl 4 rfl) ?_
        refine lv_isub hx hb dX7_strikesAt_102 ?_
        obtain ⟨u8, hf8, hf⟩ := xb hf
        refine x_ran (x_runS (rest := []) (As := [.long p2, .int p3, .int (p4 - s88)]) hC mw_333 md_X7_isStroke (c_X7_isStroke (X := X) hf8) hH [] rfl (by decide) hl.1 rfl rfl (Nat.le_of_ble_eq_true rfl) dX7_strikesAt_103 ⟨Nat.le_of_ble_eq_true rfl, Nat.le_of_ble_eq_true rfl⟩ ⟨rfl, rfl⟩ ⟨Nat.le_refl _, Nat.le_refl _⟩) rfl (fun hz8 => ?_)
        refine lv_if_eq (tgt := 111) hx hb dX7_strikesAt_106 (by decide) (fun c9 => ?_) (fun c9 => ?_)
        · have hf := xt c9 hf
          refine lv_iinc (v := s88 + (nI 1)) (lv' := [(7, .int (s88 + (nI 1))), (2, .long p2), (4, .int p3), (5, .int p4), (6, .int x88_6)]) hx hb dX7_strikesAt_111 hl (k := 4) rfl rfl (by decide) rfl (fun ls hl => ?_)
          refine lv_goto (tgt := 88) hx hb dX7_strikesAt_114 (by decide) ?_
          have hf := xo_go hf ho88
          exact ih88 (s88 + (nI 1)) hf ls (lv_sub hl [1, 2, 3, 4, 0] rfl)
        · have hf := xe c9 hf
          refine lv_iconst (v := (nI 0)) hx hb dX7_strikesAt_109 (by decide) ?_
          have hf := xo_ret hf ho88
          exact x_retz hC hr hlk (Or.inl rfl) hf dX7_strikesAt_110
  refine lv_aload_n hx hb dX7_strikesAt_0 rfl (lv_at hl 0 rfl) ?_
  refine x_get hC fd_RX7_13 hH.1 0 rfl rfl dX7_strikesAt_1 ?_
  refine lv_iload_n hx hb dX7_strikesAt_4 rfl (lv_at hl 1 rfl) ?_
  obtain ⟨n1, hf⟩ := xok hf
  refine x_iald hC hH.1 2 rfl n1 dX7_strikesAt_5 ?_
  refine lv_istore (lv' := [(6, .int (v_own (xat p1))), (0, .ref h0), (1, .int p1), (2, .long p2), (4, .int p3), (5, .int p4)]) hx hb dX7_strikesAt_6 hl (by decide) rfl (fun ls hl => ?_)
  refine lv_aload_n hx hb dX7_strikesAt_8 rfl (lv_at hl 1 rfl) ?_
  refine x_get hC fd_RX7_7 hH.1 0 rfl rfl dX7_strikesAt_9 ?_
  refine lv_iload_n hx hb dX7_strikesAt_12 rfl (lv_at hl 2 rfl) ?_
  obtain ⟨n2, hf⟩ := xok hf
  refine x_iald hC hH.1 1 rfl n2 dX7_strikesAt_13 ?_
  by_cases c3 : (v_kind (xat p1)) = (nI 1)
  · have hf := xt c3 hf
    refine x_tin (k := (nI 1)) (tgt := 48) hx hb dX7_strikesAt_14 c3 (by decide) (by decide) ?_
    refine lv_lload_n hx hb dX7_strikesAt_48 rfl (lv_at hl 3 rfl) ?_
    refine lv_iload hx hb dX7_strikesAt_49 (lv_at hl 4 rfl) ?_
    refine lv_iload hx hb dX7_strikesAt_51 (lv_at hl 5 rfl) ?_
    refine lv_iload hx hb dX7_strikesAt_53 (lv_at hl 0 rfl) ?_
    refine lv_isub hx hb dX7_strikesAt_55 ?_
    refine lv_iconst (v := (nI 1)) hx hb dX7_strikesAt_56 (by decide) ?_
    refine lv_isub hx hb dX7_strikesAt_57 ?_
    obtain ⟨u4, hf4, hf⟩ := xb hf
    refine x_ran (x_runS (rest := []) (As := [.long p2, .int p3, .int ((p4 - (v_own (xat p1))) - (nI 1))]) hC mw_333 md_X7_isStroke (c_X7_isStroke (X := X) hf4) hH [] rfl (by decide) hl.1 rfl rfl (Nat.le_of_ble_eq_true rfl) dX7_strikesAt_58 ⟨Nat.le_of_ble_eq_true rfl, Nat.le_of_ble_eq_true rfl⟩ ⟨rfl, rfl⟩ ⟨Nat.le_refl _, Nat.le_refl _⟩) rfl (fun hz4 => ?_)
    exact x_retz hC hr hlk hz4 hf dX7_strikesAt_61
  · have hf := xe c3 hf
    by_cases c5 : (v_kind (xat p1)) = (nI 2)
    · have hf := xt c5 hf
      refine x_tin (k := (nI 2)) (tgt := 76) hx hb dX7_strikesAt_14 c5 (by decide) (by decide) ?_
      refine lv_iload hx hb dX7_strikesAt_76 (lv_at hl 5 rfl) ?_
      refine lv_iload hx hb dX7_strikesAt_78 (lv_at hl 0 rfl) ?_
      refine lv_icmp_ge (tgt := 85) hx hb dX7_strikesAt_80 (by decide) (fun c6 => ?_) (fun c6 => ?_)
      · have hf := xt c6 hf
        refine lv_iconst (v := (nI 0)) hx hb dX7_strikesAt_85 (by decide) ?_
        refine lv_istore (lv' := [(7, .int (nI 0)), (6, .int (v_own (xat p1))), (0, .ref h0), (1, .int p1), (2, .long p2), (4, .int p3), (5, .int p4)]) hx hb dX7_strikesAt_86 hl (by decide) rfl (fun ls hl => ?_)
        exact L88 (v_own (xat p1)) xN (nI 0) hf ls (lv_sub hl [4, 5, 6, 1, 0] rfl)
      · have hf := xe c6 hf
        refine lv_iconst (v := (nI 0)) hx hb dX7_strikesAt_83 (by decide) ?_
        exact x_retz hC hr hlk (Or.inl rfl) hf dX7_strikesAt_84
    · have hf := xe c5 hf
      by_cases c10 : (v_kind (xat p1)) = (nI 3)
      · have hf := xt c10 hf
        refine x_tin (k := (nI 3)) (tgt := 62) hx hb dX7_strikesAt_14 c10 (by decide) (by decide) ?_
        refine lv_lload_n hx hb dX7_strikesAt_62 rfl (lv_at hl 3 rfl) ?_
        refine lv_iload hx hb dX7_strikesAt_63 (lv_at hl 4 rfl) ?_
        refine lv_iload hx hb dX7_strikesAt_65 (lv_at hl 5 rfl) ?_
        refine lv_iload hx hb dX7_strikesAt_67 (lv_at hl 0 rfl) ?_
        refine lv_isub hx hb dX7_strikesAt_69 ?_
        refine lv_iconst (v := (nI 2)) hx hb dX7_strikesAt_70 (by decide) ?_
        refine lv_isub hx hb dX7_strikesAt_71 ?_
        obtain ⟨u11, hf11, hf⟩ := xb hf
        refine x_ran (x_runS (rest := []) (As := [.long p2, .int p3, .int ((p4 - (v_own (xat p1))) - (nI 2))]) hC mw_333 md_X7_isStroke (c_X7_isStroke (X := X) hf11) hH [] rfl (by decide) hl.1 rfl rfl (Nat.le_of_ble_eq_true rfl) dX7_strikesAt_72 ⟨Nat.le_of_ble_eq_true rfl, Nat.le_of_ble_eq_true rfl⟩ ⟨rfl, rfl⟩ ⟨Nat.le_refl _, Nat.le_refl _⟩) rfl (fun hz11 => ?_)
        exact x_retz hC hr hlk hz11 hf dX7_strikesAt_75
      · have hf := xe c10 hf
        by_cases c12 : (v_kind (xat p1)) = (nI 4)
        · have hf := xt c12 hf
          refine x_tin (k := (nI 4)) (tgt := 119) hx hb dX7_strikesAt_14 c12 (by decide) (by decide) ?_
          refine lv_lload_n hx hb dX7_strikesAt_119 rfl (lv_at hl 3 rfl) ?_
          refine lv_iload hx hb dX7_strikesAt_120 (lv_at hl 4 rfl) ?_
          refine lv_iload hx hb dX7_strikesAt_122 (lv_at hl 5 rfl) ?_
          obtain ⟨u13, hf13, hf⟩ := xb hf
          refine x_ran (x_runS (rest := []) (As := [.long p2, .int p3, .int p4]) hC mw_333 md_X7_isStroke (c_X7_isStroke (X := X) hf13) hH [] rfl (by decide) hl.1 rfl rfl (Nat.le_of_ble_eq_true rfl) dX7_strikesAt_124 ⟨Nat.le_of_ble_eq_true rfl, Nat.le_of_ble_eq_true rfl⟩ ⟨rfl, rfl⟩ ⟨Nat.le_refl _, Nat.le_refl _⟩) rfl (fun hz13 => ?_)
          refine lv_if_ne (tgt := 150) hx hb dX7_strikesAt_127 (by decide) (fun c14 => ?_) (fun c14 => ?_)
          · have hf := xe c14 hf
            refine lv_iconst (v := (nI 0)) hx hb dX7_strikesAt_150 (by decide) ?_
            exact x_retz hC hr hlk (Or.inl rfl) hf dX7_strikesAt_151
          · have hf := xt c14 hf
            refine lv_lload_n hx hb dX7_strikesAt_130 rfl (lv_at hl 3 rfl) ?_
            refine lv_iload hx hb dX7_strikesAt_131 (lv_at hl 4 rfl) ?_
            refine lv_iload hx hb dX7_strikesAt_133 (lv_at hl 5 rfl) ?_
            obtain ⟨u15, hf15, hf⟩ := xb hf
            refine x_ran (x_runS (rest := []) (As := [.long p2, .int p3, .int p4]) hC mw_339 md_X7_strokes (c_X7_strokes (X := X) hf15) hH [] rfl (by decide) hl.1 rfl rfl (Nat.le_of_ble_eq_true rfl) dX7_strikesAt_135 ⟨Nat.le_of_ble_eq_true rfl, Nat.le_of_ble_eq_true rfl⟩ ⟨rfl, rfl⟩ ⟨Nat.le_refl _, Nat.le_refl _⟩) rfl (fun hz15 => ?_)
            refine lv_iload hx hb dX7_strikesAt_138 (lv_at hl 0 rfl) ?_
            refine lv_iconst (v := (nI 1)) hx hb dX7_strikesAt_140 (by decide) ?_
            refine lv_iadd hx hb dX7_strikesAt_141 ?_
            obtain ⟨n16, hf⟩ := xok hf
            refine x_irem hx hb dX7_strikesAt_142 n16 ?_
            refine lv_if_ne (tgt := 150) hx hb dX7_strikesAt_143 (by decide) (fun c17 => ?_) (fun c17 => ?_)
            · have hf := xe c17 hf
              refine lv_iconst (v := (nI 0)) hx hb dX7_strikesAt_150 (by decide) ?_
              exact x_retz hC hr hlk (Or.inl rfl) hf dX7_strikesAt_151
            · have hf := xt c17 hf
              refine lv_iconst (v := (nI 1)) hx hb dX7_strikesAt_146 (by decide) ?_
              refine lv_goto (tgt := 151) hx hb dX7_strikesAt_147 (by decide) ?_
              exact x_retz hC hr hlk (Or.inr rfl) hf dX7_strikesAt_151
        · have hf := xe c12 hf
          by_cases c18 : (v_kind (xat p1)) = (nI 5)
          · have hf := xt c18 hf
            refine x_tin (k := (nI 5)) (tgt := 152) hx hb dX7_strikesAt_14 c18 (by decide) (by decide) ?_
            refine lv_iload hx hb dX7_strikesAt_152 (lv_at hl 5 rfl) ?_
            refine lv_iload hx hb dX7_strikesAt_154 (lv_at hl 0 rfl) ?_
            refine lv_iconst (v := (nI 2)) hx hb dX7_strikesAt_156 (by decide) ?_
            refine lv_iadd hx hb dX7_strikesAt_157 ?_
            obtain ⟨n19, hf⟩ := xok hf
            refine x_irem hx hb dX7_strikesAt_158 n19 ?_
            refine lv_if_ne (tgt := 166) hx hb dX7_strikesAt_159 (by decide) (fun c20 => ?_) (fun c20 => ?_)
            · have hf := xe c20 hf
              refine lv_iconst (v := (nI 0)) hx hb dX7_strikesAt_166 (by decide) ?_
              exact x_retz hC hr hlk (Or.inl rfl) hf dX7_strikesAt_167
            · have hf := xt c20 hf
              refine lv_iconst (v := (nI 1)) hx hb dX7_strikesAt_162 (by decide) ?_
              refine lv_goto (tgt := 167) hx hb dX7_strikesAt_163 (by decide) ?_
              exact x_retz hC hr hlk (Or.inr rfl) hf dX7_strikesAt_167
          · have hf := xe c18 hf
            refine x_tout (tgt := 168) hx hb dX7_strikesAt_14 (fun j hj => match j, hj with | 0, _ => c3 | 1, _ => c5 | 2, _ => c10 | 3, _ => c12 | 4, _ => c18 | _ + 5, hj => absurd hj (by simp <;> omega)) (by decide) ?_
            refine lv_lload_n hx hb dX7_strikesAt_168 rfl (lv_at hl 3 rfl) ?_
            refine lv_iload hx hb dX7_strikesAt_169 (lv_at hl 4 rfl) ?_
            refine lv_iload hx hb dX7_strikesAt_171 (lv_at hl 5 rfl) ?_
            obtain ⟨u21, hf21, hf⟩ := xb hf
            refine x_ran (x_runS (rest := []) (As := [.long p2, .int p3, .int p4]) hC mw_333 md_X7_isStroke (c_X7_isStroke (X := X) hf21) hH [] rfl (by decide) hl.1 rfl rfl (Nat.le_of_ble_eq_true rfl) dX7_strikesAt_173 ⟨Nat.le_of_ble_eq_true rfl, Nat.le_of_ble_eq_true rfl⟩ ⟨rfl, rfl⟩ ⟨Nat.le_refl _, Nat.le_refl _⟩) rfl (fun hz21 => ?_)
            refine lv_if_ne (tgt := 183) hx hb dX7_strikesAt_176 (by decide) (fun c22 => ?_) (fun c22 => ?_)
            · have hf := xe c22 hf
              refine lv_iconst (v := (nI 0)) hx hb dX7_strikesAt_183 (by decide) ?_
              exact x_retz hC hr hlk (Or.inl rfl) hf dX7_strikesAt_184
            · have hf := xt c22 hf
              refine lv_iconst (v := (nI 1)) hx hb dX7_strikesAt_179 (by decide) ?_
              refine lv_goto (tgt := 184) hx hb dX7_strikesAt_180 (by decide) ?_
              exact x_retz hC hr hlk (Or.inr rfl) hf dX7_strikesAt_184
def f_X7_struck_L6 (v_kind : (Nat → Int32)) (v_own : (Nat → Int32)) (p1 : Int32) (p2 : Int64) (p3 : Int32) (s6 : Int32 × Int32) : Option ((Int32) ⊕ (Int32 × Int32)) :=
  if p3 ≤ s6.2 then
    some (.inl s6.1)
  else
  (f_X7_strikesAt v_kind v_own p1 p2 p3 s6.2).bind fun u2 =>
  if u2 = (nI 0) then
    some (.inr (s6.1, s6.2 + (nI 1)))
  else
  some (.inr (s6.1 + (nI 1), s6.2 + (nI 1)))
def f_X7_struck (v_kind : (Nat → Int32)) (v_own : (Nat → Int32)) (p1 : Int32) (p2 : Int64) (p3 : Int32) : Option (Int32) :=
  xloop (f_X7_struck_L6 v_kind v_own p1 p2 p3) xN ((nI 0), (nI 0))
set_option maxHeartbeats 4000000 in
set_option maxRecDepth 100000 in
theorem c_X7_struck {l : Launch} {X : xG} {h0 h1 h2 g0 g1 g2 g3 g4 g5 g6 g7 g8 : Nat} {v_laws : Int32} {v_inForce : Int32} {v_depth : Int32} {v_miss : Int32} {v_ring : Int64} {v_size : Int32} {v_people : Int32} {v_seed : Int32} {v_taped : Int32} {v_from : Int32} {v_to : Int32} {v_token : Int32} {v_value : Int32} {v_imaged : Int32} {v_oldRing : Int64} {v_aheadRing : Int64} {v_kind : (Nat → Int32)} {v_own : (Nat → Int32)} {p1 : Int32} {p2 : Int64} {p3 : Int32} {u : Int32} (hf : f_X7_struck v_kind v_own p1 p2 p3 = some u) : Met l yX7_struck (xw yX7_struck cX7_struck 7 (some .int)) (xrm 3 72) (xPc [.ref h0, .int p1, .long p2, .int p3] X [(h0, xO 7 [.int v_laws, .ref h1, .ref h2, .int v_inForce, .int v_depth, .int v_miss, .long v_ring, .int v_size, .int v_people, .ref g0, .int v_seed, .int v_taped, .ref g1, .int v_from, .int v_to, .int v_token, .int v_value, .ref g2, .ref g3, .ref g4, .ref g5, .int v_imaged, .ref g6, .long v_oldRing, .ref g7, .long v_aheadRing, .ref g8]), (h1, xI X 6 v_kind), (h2, xI X 6 v_own)]) (xQ True (.returned (some (.int u)))) 0 0 xNo := by
  refine xMet (n := 3) md_X7_struck.1 (Nat.le_of_ble_eq_true rfl) ?_
  intro p e s m args below meth c ls A hC hr hlk hH hl
  have hl : lv_has ls 7 [(0, .ref h0), (1, .int p1), (2, .long p2), (4, .int p3)] := hl
  have hx := hC.1
  have hb := hC.2.1
  have L6 : ∀ (n : Nat) (s6 : Int32 × Int32), xloop (f_X7_struck_L6 v_kind v_own p1 p2 p3) n s6 = some u → ∀ (ls : Array Slot), lv_has ls 7 [(0, .ref h0), (1, .int p1), (2, .long p2), (4, .int p3), (5, .int s6.1), (6, .int s6.2)] → W p l e (xrm 3 72) s m args below meth c s.heap [] 0 0 (MQ below (xQ True (.returned (some (.int u)))) args s 0 0 xNo) (F0 m 6 ls []) := by
    intro  n
    induction n with
    | zero => intro s6 hf; exact xloop_0 hf
    | succ n ih6 =>
      intro s6 hf ls hl
      obtain ⟨o6, hf, ho6⟩ := xloop_s hf
      refine lv_iload hx hb dX7_struck_6 (lv_at hl 5 rfl) ?_
      refine lv_iload hx hb dX7_struck_8 (lv_at hl 3 rfl) ?_
      refine lv_icmp_ge (tgt := 35) hx hb dX7_struck_10 (by decide) (fun c1 => ?_) (fun c1 => ?_)
      · have hf := xt c1 hf
        refine lv_iload hx hb dX7_struck_35 (lv_at hl 4 rfl) ?_
        have hf := xo_ret hf ho6
        exact x_reti hC hr hlk trivial hf dX7_struck_37
      · have hf := xe c1 hf
        refine lv_aload_n hx hb dX7_struck_13 rfl (lv_at hl 0 rfl) ?_
        refine lv_iload_n hx hb dX7_struck_14 rfl (lv_at hl 1 rfl) ?_
        refine lv_lload_n hx hb dX7_struck_15 rfl (lv_at hl 2 rfl) ?_
        refine lv_iload hx hb dX7_struck_16 (lv_at hl 3 rfl) ?_
        refine lv_iload hx hb dX7_struck_18 (lv_at hl 5 rfl) ?_
        obtain ⟨u2, hf2, hf⟩ := xb hf
        refine x_ran (x_runV (q0 := 0) (rest := []) (As := [.int p1, .long p2, .int p3, .int s6.2]) hC mw_329 md_X7_strikesAt (c_X7_strikesAt (X := X) hf2) hH [0, 1, 2] rfl (by decide) rfl rfl rfl hl.1 rfl rfl (Nat.le_of_ble_eq_true rfl) dX7_struck_20 ⟨Nat.le_of_ble_eq_true rfl, Nat.le_of_ble_eq_true rfl⟩ ⟨rfl, rfl⟩ ⟨Nat.le_refl _, Nat.le_refl _⟩) rfl (fun hz2 => ?_)
        refine lv_if_eq (tgt := 29) hx hb dX7_struck_23 (by decide) (fun c3 => ?_) (fun c3 => ?_)
        · have hf := xt c3 hf
          refine lv_iinc (v := s6.2 + (nI 1)) (lv' := [(6, .int (s6.2 + (nI 1))), (0, .ref h0), (1, .int p1), (2, .long p2), (4, .int p3), (5, .int s6.1)]) hx hb dX7_struck_29 hl (k := 5) rfl rfl (by decide) rfl (fun ls hl => ?_)
          refine lv_goto (tgt := 6) hx hb dX7_struck_32 (by decide) ?_
          have hf := xo_go hf ho6
          exact ih6 (s6.1, s6.2 + (nI 1)) hf ls (lv_sub hl [1, 2, 3, 4, 5, 0] rfl)
        · have hf := xe c3 hf
          refine lv_iinc (v := s6.1 + (nI 1)) (lv' := [(5, .int (s6.1 + (nI 1))), (0, .ref h0), (1, .int p1), (2, .long p2), (4, .int p3), (6, .int s6.2)]) hx hb dX7_struck_26 hl (k := 4) rfl rfl (by decide) rfl (fun ls hl => ?_)
          refine lv_iinc (v := s6.2 + (nI 1)) (lv' := [(6, .int (s6.2 + (nI 1))), (5, .int (s6.1 + (nI 1))), (0, .ref h0), (1, .int p1), (2, .long p2), (4, .int p3)]) hx hb dX7_struck_29 hl (k := 5) rfl rfl (by decide) rfl (fun ls hl => ?_)
          refine lv_goto (tgt := 6) hx hb dX7_struck_32 (by decide) ?_
          have hf := xo_go hf ho6
          exact ih6 (s6.1 + (nI 1), s6.2 + (nI 1)) hf ls (lv_sub hl [2, 3, 4, 5, 1, 0] rfl)
  refine lv_iconst (v := (nI 0)) hx hb dX7_struck_0 (by decide) ?_
  refine lv_istore (lv' := [(5, .int (nI 0)), (0, .ref h0), (1, .int p1), (2, .long p2), (4, .int p3)]) hx hb dX7_struck_1 hl (by decide) rfl (fun ls hl => ?_)
  refine lv_iconst (v := (nI 0)) hx hb dX7_struck_3 (by decide) ?_
  refine lv_istore (lv' := [(6, .int (nI 0)), (5, .int (nI 0)), (0, .ref h0), (1, .int p1), (2, .long p2), (4, .int p3)]) hx hb dX7_struck_4 hl (by decide) rfl (fun ls hl => ?_)
  exact L6 xN ((nI 0), (nI 0)) hf ls (lv_sub hl [2, 3, 4, 5, 1, 0] rfl)
def f_X7_says_J123 (v_kind : (Nat → Int32)) (v_own : (Nat → Int32)) (v_refusals : (Nat → Int32)) (j123_3 : Int32) : Option (Int32 × (Nat → Int32)) :=
  if xout j123_3 6 then none else
  if xout j123_3 6 then none else
  if (v_kind (xat j123_3)) = (nI 3) then
    some ((v_own (xat j123_3)) + (nI 2), v_refusals)
  else
  some ((v_own (xat j123_3)) + (nI 1), v_refusals)
def f_X7_says (v_ring : Int64) (v_size : Int32) (v_holding : (Nat → Int32)) (v_kind : (Nat → Int32)) (v_own : (Nat → Int32)) (v_refusals : (Nat → Int32)) (p1 : Int32) (p2 : Int32) : Option (Int32 × (Nat → Int32)) :=
  (f_X7_isShelf p1).bind fun u1 =>
  if u1 = (nI 0) then
    (f_X7_no v_refusals (-2 : Int32)).bind fun u3 =>
    some (u3.1, u3.2)
  else
  (f_X7_within p2 (nI 0) (nI 5)).bind fun u4 =>
  if u4 = (nI 0) then
    (f_X7_no v_refusals (-2 : Int32)).bind fun u27 =>
    some (u27.1, u27.2)
  else
  (f_X7_isRow v_holding p1).bind fun u6 =>
  if u6 = (nI 0) then
    if xout p1 8 then none else
    if (nI 0) ≤ (v_holding (xat p1)) then
      if xout p1 8 then none else
      if xout ((v_holding (xat p1)) - (nI 10)) 6 then none else
      (f_X7_isUnder (v_kind (xat ((v_holding (xat p1)) - (nI 10)))) p2).bind fun u12 =>
      if u12 = (nI 0) then
        (f_X7_no v_refusals (-3 : Int32)).bind fun u24 =>
        some (u24.1, u24.2)
      else
      if p2 = (nI 0) then
        if xout ((v_holding (xat p1)) - (nI 10)) 6 then none else
        some (v_own (xat ((v_holding (xat p1)) - (nI 10))), v_refusals)
      else
      if p2 = (nI 1) then
        f_X7_says_J123 v_kind v_own v_refusals ((v_holding (xat p1)) - (nI 10))
      else
      if p2 = (nI 2) then
        (f_X7_struck v_kind v_own ((v_holding (xat p1)) - (nI 10)) v_ring v_size).bind fun u21 =>
        some (u21, v_refusals)
      else
      if p2 = (nI 3) then
        f_X7_says_J123 v_kind v_own v_refusals ((v_holding (xat p1)) - (nI 10))
      else
      (f_X7_struck v_kind v_own ((v_holding (xat p1)) - (nI 10)) v_ring v_size).bind fun u23 =>
      some (u23, v_refusals)
    else
    (f_X7_no v_refusals (-4 : Int32)).bind fun u25 =>
    some (u25.1, u25.2)
  else
  (f_X7_no v_refusals (-3 : Int32)).bind fun u26 =>
  some (u26.1, u26.2)
set_option maxHeartbeats 4000000 in
set_option maxRecDepth 100000 in
theorem c_X7_says {l : Launch} {X : xG} {h0 h1 h2 h3 h4 g0 g1 g2 g3 g4 g5 g6 : Nat} {v_laws : Int32} {v_inForce : Int32} {v_depth : Int32} {v_miss : Int32} {v_ring : Int64} {v_size : Int32} {v_people : Int32} {v_seed : Int32} {v_taped : Int32} {v_from : Int32} {v_to : Int32} {v_token : Int32} {v_value : Int32} {v_imaged : Int32} {v_oldRing : Int64} {v_aheadRing : Int64} {v_holding : (Nat → Int32)} {v_kind : (Nat → Int32)} {v_own : (Nat → Int32)} {v_refusals : (Nat → Int32)} {p1 : Int32} {p2 : Int32} {u : Int32 × (Nat → Int32)} (hf : f_X7_says v_ring v_size v_holding v_kind v_own v_refusals p1 p2 = some u) : Met l yX7_says (xw yX7_says cX7_says 4 (some .int)) (xrm 4 98) (xPc [.ref h0, .int p1, .int p2] X [(h0, xO 7 [.int v_laws, .ref h2, .ref h3, .int v_inForce, .int v_depth, .int v_miss, .long v_ring, .int v_size, .int v_people, .ref g0, .int v_seed, .int v_taped, .ref g1, .int v_from, .int v_to, .int v_token, .int v_value, .ref h1, .ref g2, .ref g3, .ref h4, .int v_imaged, .ref g4, .long v_oldRing, .ref g5, .long v_aheadRing, .ref g6]), (h1, xI X 8 v_holding), (h2, xI X 6 v_kind), (h3, xI X 6 v_own), (h4, xI X 7 v_refusals)]) (xQw True (.returned (some (.int u.1))) X [(h0, xO 7 [.int v_laws, .ref h2, .ref h3, .int v_inForce, .int v_depth, .int v_miss, .long v_ring, .int v_size, .int v_people, .ref g0, .int v_seed, .int v_taped, .ref g1, .int v_from, .int v_to, .int v_token, .int v_value, .ref h1, .ref g2, .ref g3, .ref h4, .int v_imaged, .ref g4, .long v_oldRing, .ref g5, .long v_aheadRing, .ref g6]), (h1, xI X 8 v_holding), (h2, xI X 6 v_kind), (h3, xI X 6 v_own), (h4, xI X 7 u.2)] (xAs [(h0, xO 7 [.int v_laws, .ref h2, .ref h3, .int v_inForce, .int v_depth, .int v_miss, .long v_ring, .int v_size, .int v_people, .ref g0, .int v_seed, .int v_taped, .ref g1, .int v_from, .int v_to, .int v_token, .int v_value, .ref h1, .ref g2, .ref g3, .ref h4, .int v_imaged, .ref g4, .long v_oldRing, .ref g5, .long v_aheadRing, .ref g6]), (h1, xI X 8 v_holding), (h2, xI X 6 v_kind), (h3, xI X 6 v_own), (h4, xI X 7 v_refusals)])) 0 0 (xAs [(h0, xO 7 [.int v_laws, .ref h2, .ref h3, .int v_inForce, .int v_depth, .int v_miss, .long v_ring, .int v_size, .int v_people, .ref g0, .int v_seed, .int v_taped, .ref g1, .int v_from, .int v_to, .int v_token, .int v_value, .ref h1, .ref g2, .ref g3, .ref h4, .int v_imaged, .ref g4, .long v_oldRing, .ref g5, .long v_aheadRing, .ref g6]), (h1, xI X 8 v_holding), (h2, xI X 6 v_kind), (h3, xI X 6 v_own), (h4, xI X 7 v_refusals)]) := by
  refine xMetw (Qc := fun A => xQw True (.returned (some (.int u.1))) X [(h0, xO 7 [.int v_laws, .ref h2, .ref h3, .int v_inForce, .int v_depth, .int v_miss, .long v_ring, .int v_size, .int v_people, .ref g0, .int v_seed, .int v_taped, .ref g1, .int v_from, .int v_to, .int v_token, .int v_value, .ref h1, .ref g2, .ref g3, .ref h4, .int v_imaged, .ref g4, .long v_oldRing, .ref g5, .long v_aheadRing, .ref g6]), (h1, xI X 8 v_holding), (h2, xI X 6 v_kind), (h3, xI X 6 v_own), (h4, xI X 7 u.2)] A) (n := 2) md_X7_says.1 (Nat.le_of_ble_eq_true rfl) ?_
  intro p e s m args below meth c ls A hC hr hlk hH hl
  have hl : lv_has ls 4 [(0, .ref h0), (1, .int p1), (2, .int p2)] := hl
  have hx := hC.1
  have hb := hC.2.1
  have J123 : ∀ (j123_3 : Int32), f_X7_says_J123 v_kind v_own v_refusals j123_3 = some u → ∀ (H : Heap) (locs : List Loc), xH X A [(h0, xO 7 [.int v_laws, .ref h2, .ref h3, .int v_inForce, .int v_depth, .int v_miss, .long v_ring, .int v_size, .int v_people, .ref g0, .int v_seed, .int v_taped, .ref g1, .int v_from, .int v_to, .int v_token, .int v_value, .ref h1, .ref g2, .ref g3, .ref h4, .int v_imaged, .ref g4, .long v_oldRing, .ref g5, .long v_aheadRing, .ref g6]), (h1, xI X 8 v_holding), (h2, xI X 6 v_kind), (h3, xI X 6 v_own), (h4, xI X 7 v_refusals)] s.heap H locs → ∀ (ls : Array Slot), lv_has ls 4 [(0, .ref h0), (3, .int j123_3)] → W p l e (xrm 4 98) s m args below meth c H locs 0 0 (MQ below (xQw True (.returned (some (.int u.1))) X [(h0, xO 7 [.int v_laws, .ref h2, .ref h3, .int v_inForce, .int v_depth, .int v_miss, .long v_ring, .int v_size, .int v_people, .ref g0, .int v_seed, .int v_taped, .ref g1, .int v_from, .int v_to, .int v_token, .int v_value, .ref h1, .ref g2, .ref g3, .ref h4, .int v_imaged, .ref g4, .long v_oldRing, .ref g5, .long v_aheadRing, .ref g6]), (h1, xI X 8 v_holding), (h2, xI X 6 v_kind), (h3, xI X 6 v_own), (h4, xI X 7 u.2)] A) args s 0 0 A) (F0 m 123 ls []) := by
    intro j123_3 hf H locs hH ls hl
    refine lv_aload_n hx hb dX7_says_123 rfl (lv_at hl 0 rfl) ?_
    refine x_get hC fd_RX7_13 hH.1 0 rfl rfl dX7_says_124 ?_
    refine lv_iload_n hx hb dX7_says_127 rfl (lv_at hl 1 rfl) ?_
    obtain ⟨n17, hf⟩ := xok hf
    refine x_iald hC hH.1 3 rfl n17 dX7_says_128 ?_
    refine lv_aload_n hx hb dX7_says_129 rfl (lv_at hl 0 rfl) ?_
    refine x_get hC fd_RX7_7 hH.1 0 rfl rfl dX7_says_130 ?_
    refine lv_iload_n hx hb dX7_says_133 rfl (lv_at hl 1 rfl) ?_
    obtain ⟨n18, hf⟩ := xok hf
    refine x_iald hC hH.1 2 rfl n18 dX7_says_134 ?_
    refine lv_iconst (v := (nI 3)) hx hb dX7_says_135 (by decide) ?_
    refine lv_icmp_ne (tgt := 143) hx hb dX7_says_136 (by decide) (fun c19 => ?_) (fun c19 => ?_)
    · have hf := xe c19 hf
      refine lv_iconst (v := (nI 1)) hx hb dX7_says_143 (by decide) ?_
      refine lv_iadd hx hb dX7_says_144 ?_
      exact x_retiw (φ := fun _ => True) (f := fun u : Int32 × (Nat → Int32) => u.1) (wf := fun u : Int32 × (Nat → Int32) => [(h0, xO 7 [.int v_laws, .ref h2, .ref h3, .int v_inForce, .int v_depth, .int v_miss, .long v_ring, .int v_size, .int v_people, .ref g0, .int v_seed, .int v_taped, .ref g1, .int v_from, .int v_to, .int v_token, .int v_value, .ref h1, .ref g2, .ref g3, .ref h4, .int v_imaged, .ref g4, .long v_oldRing, .ref g5, .long v_aheadRing, .ref g6]), (h1, xI X 8 v_holding), (h2, xI X 6 v_kind), (h3, xI X 6 v_own), (h4, xI X 7 u.2)]) hC hr hlk trivial hf hH rfl rfl dX7_says_145
    · have hf := xt c19 hf
      refine lv_iconst (v := (nI 2)) hx hb dX7_says_139 (by decide) ?_
      refine lv_goto (tgt := 144) hx hb dX7_says_140 (by decide) ?_
      refine lv_iadd hx hb dX7_says_144 ?_
      exact x_retiw (φ := fun _ => True) (f := fun u : Int32 × (Nat → Int32) => u.1) (wf := fun u : Int32 × (Nat → Int32) => [(h0, xO 7 [.int v_laws, .ref h2, .ref h3, .int v_inForce, .int v_depth, .int v_miss, .long v_ring, .int v_size, .int v_people, .ref g0, .int v_seed, .int v_taped, .ref g1, .int v_from, .int v_to, .int v_token, .int v_value, .ref h1, .ref g2, .ref g3, .ref h4, .int v_imaged, .ref g4, .long v_oldRing, .ref g5, .long v_aheadRing, .ref g6]), (h1, xI X 8 v_holding), (h2, xI X 6 v_kind), (h3, xI X 6 v_own), (h4, xI X 7 u.2)]) hC hr hlk trivial hf hH rfl rfl dX7_says_145
  refine lv_iload_n hx hb dX7_says_0 rfl (lv_at hl 1 rfl) ?_
  obtain ⟨u1, hf1, hf⟩ := xb hf
  refine x_ran (x_runS (rest := []) (As := [.int p1]) hC mw_137 md_X7_isShelf (c_X7_isShelf (X := X) hf1) hH [] rfl (by decide) hl.1 rfl rfl (Nat.le_of_ble_eq_true rfl) dX7_says_1 ⟨Nat.le_of_ble_eq_true rfl, Nat.le_of_ble_eq_true rfl⟩ ⟨rfl, rfl⟩ ⟨Nat.le_refl _, Nat.le_refl _⟩) rfl (fun hz1 => ?_)
  refine lv_if_eq (tgt := 16) hx hb dX7_says_4 (by decide) (fun c2 => ?_) (fun c2 => ?_)
  · have hf := xt c2 hf
    refine lv_aload_n hx hb dX7_says_16 rfl (lv_at hl 0 rfl) ?_
    refine lv_bipush (v := (-2 : Int32)) hx hb dX7_says_17 (by decide) ?_
    obtain ⟨u3, hf3, hf⟩ := xb hf
    refine x_ranw (ws' := [(h0, xO 7 [.int v_laws, .ref h2, .ref h3, .int v_inForce, .int v_depth, .int v_miss, .long v_ring, .int v_size, .int v_people, .ref g0, .int v_seed, .int v_taped, .ref g1, .int v_from, .int v_to, .int v_token, .int v_value, .ref h1, .ref g2, .ref g3, .ref h4, .int v_imaged, .ref g4, .long v_oldRing, .ref g5, .long v_aheadRing, .ref g6]), (h1, xI X 8 v_holding), (h2, xI X 6 v_kind), (h3, xI X 6 v_own), (h4, xI X 7 u3.2)]) (x_runV (q0 := 0) (rest := []) (As := [.int (-2 : Int32)]) hC mw_143 md_X7_no (c_X7_no (X := X) hf3) hH [0, 4] rfl (by decide) rfl rfl rfl hl.1 rfl rfl (Nat.le_of_ble_eq_true rfl) dX7_says_19 ⟨Nat.le_of_ble_eq_true rfl, Nat.le_of_ble_eq_true rfl⟩ ⟨rfl, rfl⟩ ⟨Nat.le_refl _, Nat.le_refl _⟩) hH [0, 4] rfl rfl rfl rfl rfl (fun hz3 H locs hH => ?_)
    exact x_retiw (φ := fun _ => True) (f := fun u : Int32 × (Nat → Int32) => u.1) (wf := fun u : Int32 × (Nat → Int32) => [(h0, xO 7 [.int v_laws, .ref h2, .ref h3, .int v_inForce, .int v_depth, .int v_miss, .long v_ring, .int v_size, .int v_people, .ref g0, .int v_seed, .int v_taped, .ref g1, .int v_from, .int v_to, .int v_token, .int v_value, .ref h1, .ref g2, .ref g3, .ref h4, .int v_imaged, .ref g4, .long v_oldRing, .ref g5, .long v_aheadRing, .ref g6]), (h1, xI X 8 v_holding), (h2, xI X 6 v_kind), (h3, xI X 6 v_own), (h4, xI X 7 u.2)]) hC hr hlk trivial hf hH rfl rfl dX7_says_22
  · have hf := xe c2 hf
    refine lv_iload_n hx hb dX7_says_7 rfl (lv_at hl 2 rfl) ?_
    refine lv_iconst (v := (nI 0)) hx hb dX7_says_8 (by decide) ?_
    refine lv_iconst (v := (nI 5)) hx hb dX7_says_9 (by decide) ?_
    obtain ⟨u4, hf4, hf⟩ := xb hf
    refine x_ran (x_runS (rest := []) (As := [.int p2, .int (nI 0), .int (nI 5)]) hC mw_140 md_X7_within (c_X7_within (X := X) hf4) hH [] rfl (by decide) hl.1 rfl rfl (Nat.le_of_ble_eq_true rfl) dX7_says_10 ⟨Nat.le_of_ble_eq_true rfl, Nat.le_of_ble_eq_true rfl⟩ ⟨rfl, rfl⟩ ⟨Nat.le_refl _, Nat.le_refl _⟩) rfl (fun hz4 => ?_)
    refine lv_if_ne (tgt := 23) hx hb dX7_says_13 (by decide) (fun c5 => ?_) (fun c5 => ?_)
    · have hf := xe c5 hf
      refine lv_aload_n hx hb dX7_says_23 rfl (lv_at hl 0 rfl) ?_
      refine lv_iload_n hx hb dX7_says_24 rfl (lv_at hl 1 rfl) ?_
      obtain ⟨u6, hf6, hf⟩ := xb hf
      refine x_ran (x_runV (q0 := 0) (rest := []) (As := [.int p1]) hC mw_169 md_X7_isRow (c_X7_isRow (X := X) hf6) hH [0, 1] rfl (by decide) rfl rfl rfl hl.1 rfl rfl (Nat.le_of_ble_eq_true rfl) dX7_says_25 ⟨Nat.le_of_ble_eq_true rfl, Nat.le_of_ble_eq_true rfl⟩ ⟨rfl, rfl⟩ ⟨Nat.le_refl _, Nat.le_refl _⟩) rfl (fun hz6 => ?_)
      refine lv_if_eq (tgt := 38) hx hb dX7_says_28 (by decide) (fun c7 => ?_) (fun c7 => ?_)
      · have hf := xt c7 hf
        refine lv_aload_n hx hb dX7_says_38 rfl (lv_at hl 0 rfl) ?_
        refine x_get hC fd_RX7_22 hH.1 0 rfl rfl dX7_says_39 ?_
        refine lv_iload_n hx hb dX7_says_42 rfl (lv_at hl 1 rfl) ?_
        obtain ⟨n8, hf⟩ := xok hf
        refine x_iald hC hH.1 1 rfl n8 dX7_says_43 ?_
        refine lv_if_ge (tgt := 54) hx hb dX7_says_44 (by decide) (fun c9 => ?_) (fun c9 => ?_)
        · have hf := xt c9 hf
          refine lv_aload_n hx hb dX7_says_54 rfl (lv_at hl 0 rfl) ?_
          refine x_get hC fd_RX7_22 hH.1 0 rfl rfl dX7_says_55 ?_
          refine lv_iload_n hx hb dX7_says_58 rfl (lv_at hl 1 rfl) ?_
          obtain ⟨n10, hf⟩ := xok hf
          refine x_iald hC hH.1 1 rfl n10 dX7_says_59 ?_
          refine lv_bipush (v := (nI 10)) hx hb dX7_says_60 (by decide) ?_
          refine lv_isub hx hb dX7_says_62 ?_
          refine lv_istore_n (lv' := [(3, .int ((v_holding (xat p1)) - (nI 10))), (0, .ref h0), (1, .int p1), (2, .int p2)]) hx hb dX7_says_63 rfl hl (by decide) rfl (fun ls hl => ?_)
          refine lv_aload_n hx hb dX7_says_64 rfl (lv_at hl 1 rfl) ?_
          refine x_get hC fd_RX7_7 hH.1 0 rfl rfl dX7_says_65 ?_
          refine lv_iload_n hx hb dX7_says_68 rfl (lv_at hl 0 rfl) ?_
          obtain ⟨n11, hf⟩ := xok hf
          refine x_iald hC hH.1 2 rfl n11 dX7_says_69 ?_
          refine lv_iload_n hx hb dX7_says_70 rfl (lv_at hl 3 rfl) ?_
          obtain ⟨u12, hf12, hf⟩ := xb hf
          refine x_ran (x_runS (rest := []) (As := [.int (v_kind (xat ((v_holding (xat p1)) - (nI 10)))), .int p2]) hC mw_322 md_X7_isUnder (c_X7_isUnder (X := X) hf12) hH [] rfl (by decide) hl.1 rfl rfl (Nat.le_of_ble_eq_true rfl) dX7_says_71 ⟨Nat.le_of_ble_eq_true rfl, Nat.le_of_ble_eq_true rfl⟩ ⟨rfl, rfl⟩ ⟨Nat.le_refl _, Nat.le_refl _⟩) rfl (fun hz12 => ?_)
          refine lv_if_ne (tgt := 84) hx hb dX7_says_74 (by decide) (fun c13 => ?_) (fun c13 => ?_)
          · have hf := xe c13 hf
            refine lv_iload_n hx hb dX7_says_84 rfl (lv_at hl 3 rfl) ?_
            by_cases c14 : p2 = (nI 0)
            · have hf := xt c14 hf
              refine x_tin (k := (nI 0)) (tgt := 116) hx hb dX7_says_85 c14 (by decide) (by decide) ?_
              refine lv_aload_n hx hb dX7_says_116 rfl (lv_at hl 1 rfl) ?_
              refine x_get hC fd_RX7_13 hH.1 0 rfl rfl dX7_says_117 ?_
              refine lv_iload_n hx hb dX7_says_120 rfl (lv_at hl 0 rfl) ?_
              obtain ⟨n15, hf⟩ := xok hf
              refine x_iald hC hH.1 3 rfl n15 dX7_says_121 ?_
              exact x_retiw (φ := fun _ => True) (f := fun u : Int32 × (Nat → Int32) => u.1) (wf := fun u : Int32 × (Nat → Int32) => [(h0, xO 7 [.int v_laws, .ref h2, .ref h3, .int v_inForce, .int v_depth, .int v_miss, .long v_ring, .int v_size, .int v_people, .ref g0, .int v_seed, .int v_taped, .ref g1, .int v_from, .int v_to, .int v_token, .int v_value, .ref h1, .ref g2, .ref g3, .ref h4, .int v_imaged, .ref g4, .long v_oldRing, .ref g5, .long v_aheadRing, .ref g6]), (h1, xI X 8 v_holding), (h2, xI X 6 v_kind), (h3, xI X 6 v_own), (h4, xI X 7 u.2)]) hC hr hlk trivial hf hH rfl rfl dX7_says_122
            · have hf := xe c14 hf
              by_cases c16 : p2 = (nI 1)
              · have hf := xt c16 hf
                refine x_tin (k := (nI 1)) (tgt := 123) hx hb dX7_says_85 c16 (by decide) (by decide) ?_
                exact J123 ((v_holding (xat p1)) - (nI 10)) hf _ _ hH ls (lv_sub hl [1, 0] rfl)
              · have hf := xe c16 hf
                by_cases c20 : p2 = (nI 2)
                · have hf := xt c20 hf
                  refine x_tin (k := (nI 2)) (tgt := 146) hx hb dX7_says_85 c20 (by decide) (by decide) ?_
                  refine lv_aload_n hx hb dX7_says_146 rfl (lv_at hl 1 rfl) ?_
                  refine lv_iload_n hx hb dX7_says_147 rfl (lv_at hl 0 rfl) ?_
                  refine lv_aload_n hx hb dX7_says_148 rfl (lv_at hl 1 rfl) ?_
                  refine x_get hC fd_RX7_90 hH.1 0 rfl rfl dX7_says_149 ?_
                  refine lv_aload_n hx hb dX7_says_152 rfl (lv_at hl 1 rfl) ?_
                  refine x_get hC fd_RX7_62 hH.1 0 rfl rfl dX7_says_153 ?_
                  obtain ⟨u21, hf21, hf⟩ := xb hf
                  refine x_ran (x_runV (q0 := 0) (rest := []) (As := [.int ((v_holding (xat p1)) - (nI 10)), .long v_ring, .int v_size]) hC mw_325 md_X7_struck (c_X7_struck (X := X) hf21) hH [0, 2, 3] rfl (by decide) rfl rfl rfl hl.1 rfl rfl (Nat.le_of_ble_eq_true rfl) dX7_says_156 ⟨Nat.le_of_ble_eq_true rfl, Nat.le_of_ble_eq_true rfl⟩ ⟨rfl, rfl⟩ ⟨Nat.le_refl _, Nat.le_refl _⟩) rfl (fun hz21 => ?_)
                  exact x_retiw (φ := fun _ => True) (f := fun u : Int32 × (Nat → Int32) => u.1) (wf := fun u : Int32 × (Nat → Int32) => [(h0, xO 7 [.int v_laws, .ref h2, .ref h3, .int v_inForce, .int v_depth, .int v_miss, .long v_ring, .int v_size, .int v_people, .ref g0, .int v_seed, .int v_taped, .ref g1, .int v_from, .int v_to, .int v_token, .int v_value, .ref h1, .ref g2, .ref g3, .ref h4, .int v_imaged, .ref g4, .long v_oldRing, .ref g5, .long v_aheadRing, .ref g6]), (h1, xI X 8 v_holding), (h2, xI X 6 v_kind), (h3, xI X 6 v_own), (h4, xI X 7 u.2)]) hC hr hlk trivial hf hH rfl rfl dX7_says_159
                · have hf := xe c20 hf
                  by_cases c22 : p2 = (nI 3)
                  · have hf := xt c22 hf
                    refine x_tin (k := (nI 3)) (tgt := 123) hx hb dX7_says_85 c22 (by decide) (by decide) ?_
                    exact J123 ((v_holding (xat p1)) - (nI 10)) hf _ _ hH ls (lv_sub hl [1, 0] rfl)
                  · have hf := xe c22 hf
                    refine x_tout (tgt := 146) hx hb dX7_says_85 (fun j hj => match j, hj with | 0, _ => c14 | 1, _ => c16 | 2, _ => c20 | 3, _ => c22 | _ + 4, hj => absurd hj (by simp <;> omega)) (by decide) ?_
                    refine lv_aload_n hx hb dX7_says_146 rfl (lv_at hl 1 rfl) ?_
                    refine lv_iload_n hx hb dX7_says_147 rfl (lv_at hl 0 rfl) ?_
                    refine lv_aload_n hx hb dX7_says_148 rfl (lv_at hl 1 rfl) ?_
                    refine x_get hC fd_RX7_90 hH.1 0 rfl rfl dX7_says_149 ?_
                    refine lv_aload_n hx hb dX7_says_152 rfl (lv_at hl 1 rfl) ?_
                    refine x_get hC fd_RX7_62 hH.1 0 rfl rfl dX7_says_153 ?_
                    obtain ⟨u23, hf23, hf⟩ := xb hf
                    refine x_ran (x_runV (q0 := 0) (rest := []) (As := [.int ((v_holding (xat p1)) - (nI 10)), .long v_ring, .int v_size]) hC mw_325 md_X7_struck (c_X7_struck (X := X) hf23) hH [0, 2, 3] rfl (by decide) rfl rfl rfl hl.1 rfl rfl (Nat.le_of_ble_eq_true rfl) dX7_says_156 ⟨Nat.le_of_ble_eq_true rfl, Nat.le_of_ble_eq_true rfl⟩ ⟨rfl, rfl⟩ ⟨Nat.le_refl _, Nat.le_refl _⟩) rfl (fun hz23 => ?_)
                    exact x_retiw (φ := fun _ => True) (f := fun u : Int32 × (Nat → Int32) => u.1) (wf := fun u : Int32 × (Nat → Int32) => [(h0, xO 7 [.int v_laws, .ref h2, .ref h3, .int v_inForce, .int v_depth, .int v_miss, .long v_ring, .int v_size, .int v_people, .ref g0, .int v_seed, .int v_taped, .ref g1, .int v_from, .int v_to, .int v_token, .int v_value, .ref h1, .ref g2, .ref g3, .ref h4, .int v_imaged, .ref g4, .long v_oldRing, .ref g5, .long v_aheadRing, .ref g6]), (h1, xI X 8 v_holding), (h2, xI X 6 v_kind), (h3, xI X 6 v_own), (h4, xI X 7 u.2)]) hC hr hlk trivial hf hH rfl rfl dX7_says_159
          · have hf := xt c13 hf
            refine lv_aload_n hx hb dX7_says_77 rfl (lv_at hl 1 rfl) ?_
            refine lv_bipush (v := (-3 : Int32)) hx hb dX7_says_78 (by decide) ?_
            obtain ⟨u24, hf24, hf⟩ := xb hf
            refine x_ranw (ws' := [(h0, xO 7 [.int v_laws, .ref h2, .ref h3, .int v_inForce, .int v_depth, .int v_miss, .long v_ring, .int v_size, .int v_people, .ref g0, .int v_seed, .int v_taped, .ref g1, .int v_from, .int v_to, .int v_token, .int v_value, .ref h1, .ref g2, .ref g3, .ref h4, .int v_imaged, .ref g4, .long v_oldRing, .ref g5, .long v_aheadRing, .ref g6]), (h1, xI X 8 v_holding), (h2, xI X 6 v_kind), (h3, xI X 6 v_own), (h4, xI X 7 u24.2)]) (x_runV (q0 := 0) (rest := []) (As := [.int (-3 : Int32)]) hC mw_143 md_X7_no (c_X7_no (X := X) hf24) hH [0, 4] rfl (by decide) rfl rfl rfl hl.1 rfl rfl (Nat.le_of_ble_eq_true rfl) dX7_says_80 ⟨Nat.le_of_ble_eq_true rfl, Nat.le_of_ble_eq_true rfl⟩ ⟨rfl, rfl⟩ ⟨Nat.le_refl _, Nat.le_refl _⟩) hH [0, 4] rfl rfl rfl rfl rfl (fun hz24 H locs hH => ?_)
            exact x_retiw (φ := fun _ => True) (f := fun u : Int32 × (Nat → Int32) => u.1) (wf := fun u : Int32 × (Nat → Int32) => [(h0, xO 7 [.int v_laws, .ref h2, .ref h3, .int v_inForce, .int v_depth, .int v_miss, .long v_ring, .int v_size, .int v_people, .ref g0, .int v_seed, .int v_taped, .ref g1, .int v_from, .int v_to, .int v_token, .int v_value, .ref h1, .ref g2, .ref g3, .ref h4, .int v_imaged, .ref g4, .long v_oldRing, .ref g5, .long v_aheadRing, .ref g6]), (h1, xI X 8 v_holding), (h2, xI X 6 v_kind), (h3, xI X 6 v_own), (h4, xI X 7 u.2)]) hC hr hlk trivial hf hH rfl rfl dX7_says_83
        · have hf := xe c9 hf
          refine lv_aload_n hx hb dX7_says_47 rfl (lv_at hl 0 rfl) ?_
          refine lv_bipush (v := (-4 : Int32)) hx hb dX7_says_48 (by decide) ?_
          obtain ⟨u25, hf25, hf⟩ := xb hf
          refine x_ranw (ws' := [(h0, xO 7 [.int v_laws, .ref h2, .ref h3, .int v_inForce, .int v_depth, .int v_miss, .long v_ring, .int v_size, .int v_people, .ref g0, .int v_seed, .int v_taped, .ref g1, .int v_from, .int v_to, .int v_token, .int v_value, .ref h1, .ref g2, .ref g3, .ref h4, .int v_imaged, .ref g4, .long v_oldRing, .ref g5, .long v_aheadRing, .ref g6]), (h1, xI X 8 v_holding), (h2, xI X 6 v_kind), (h3, xI X 6 v_own), (h4, xI X 7 u25.2)]) (x_runV (q0 := 0) (rest := []) (As := [.int (-4 : Int32)]) hC mw_143 md_X7_no (c_X7_no (X := X) hf25) hH [0, 4] rfl (by decide) rfl rfl rfl hl.1 rfl rfl (Nat.le_of_ble_eq_true rfl) dX7_says_50 ⟨Nat.le_of_ble_eq_true rfl, Nat.le_of_ble_eq_true rfl⟩ ⟨rfl, rfl⟩ ⟨Nat.le_refl _, Nat.le_refl _⟩) hH [0, 4] rfl rfl rfl rfl rfl (fun hz25 H locs hH => ?_)
          exact x_retiw (φ := fun _ => True) (f := fun u : Int32 × (Nat → Int32) => u.1) (wf := fun u : Int32 × (Nat → Int32) => [(h0, xO 7 [.int v_laws, .ref h2, .ref h3, .int v_inForce, .int v_depth, .int v_miss, .long v_ring, .int v_size, .int v_people, .ref g0, .int v_seed, .int v_taped, .ref g1, .int v_from, .int v_to, .int v_token, .int v_value, .ref h1, .ref g2, .ref g3, .ref h4, .int v_imaged, .ref g4, .long v_oldRing, .ref g5, .long v_aheadRing, .ref g6]), (h1, xI X 8 v_holding), (h2, xI X 6 v_kind), (h3, xI X 6 v_own), (h4, xI X 7 u.2)]) hC hr hlk trivial hf hH rfl rfl dX7_says_53
      · have hf := xe c7 hf
        refine lv_aload_n hx hb dX7_says_31 rfl (lv_at hl 0 rfl) ?_
        refine lv_bipush (v := (-3 : Int32)) hx hb dX7_says_32 (by decide) ?_
        obtain ⟨u26, hf26, hf⟩ := xb hf
        refine x_ranw (ws' := [(h0, xO 7 [.int v_laws, .ref h2, .ref h3, .int v_inForce, .int v_depth, .int v_miss, .long v_ring, .int v_size, .int v_people, .ref g0, .int v_seed, .int v_taped, .ref g1, .int v_from, .int v_to, .int v_token, .int v_value, .ref h1, .ref g2, .ref g3, .ref h4, .int v_imaged, .ref g4, .long v_oldRing, .ref g5, .long v_aheadRing, .ref g6]), (h1, xI X 8 v_holding), (h2, xI X 6 v_kind), (h3, xI X 6 v_own), (h4, xI X 7 u26.2)]) (x_runV (q0 := 0) (rest := []) (As := [.int (-3 : Int32)]) hC mw_143 md_X7_no (c_X7_no (X := X) hf26) hH [0, 4] rfl (by decide) rfl rfl rfl hl.1 rfl rfl (Nat.le_of_ble_eq_true rfl) dX7_says_34 ⟨Nat.le_of_ble_eq_true rfl, Nat.le_of_ble_eq_true rfl⟩ ⟨rfl, rfl⟩ ⟨Nat.le_refl _, Nat.le_refl _⟩) hH [0, 4] rfl rfl rfl rfl rfl (fun hz26 H locs hH => ?_)
        exact x_retiw (φ := fun _ => True) (f := fun u : Int32 × (Nat → Int32) => u.1) (wf := fun u : Int32 × (Nat → Int32) => [(h0, xO 7 [.int v_laws, .ref h2, .ref h3, .int v_inForce, .int v_depth, .int v_miss, .long v_ring, .int v_size, .int v_people, .ref g0, .int v_seed, .int v_taped, .ref g1, .int v_from, .int v_to, .int v_token, .int v_value, .ref h1, .ref g2, .ref g3, .ref h4, .int v_imaged, .ref g4, .long v_oldRing, .ref g5, .long v_aheadRing, .ref g6]), (h1, xI X 8 v_holding), (h2, xI X 6 v_kind), (h3, xI X 6 v_own), (h4, xI X 7 u.2)]) hC hr hlk trivial hf hH rfl rfl dX7_says_37
    · have hf := xt c5 hf
      refine lv_aload_n hx hb dX7_says_16 rfl (lv_at hl 0 rfl) ?_
      refine lv_bipush (v := (-2 : Int32)) hx hb dX7_says_17 (by decide) ?_
      obtain ⟨u27, hf27, hf⟩ := xb hf
      refine x_ranw (ws' := [(h0, xO 7 [.int v_laws, .ref h2, .ref h3, .int v_inForce, .int v_depth, .int v_miss, .long v_ring, .int v_size, .int v_people, .ref g0, .int v_seed, .int v_taped, .ref g1, .int v_from, .int v_to, .int v_token, .int v_value, .ref h1, .ref g2, .ref g3, .ref h4, .int v_imaged, .ref g4, .long v_oldRing, .ref g5, .long v_aheadRing, .ref g6]), (h1, xI X 8 v_holding), (h2, xI X 6 v_kind), (h3, xI X 6 v_own), (h4, xI X 7 u27.2)]) (x_runV (q0 := 0) (rest := []) (As := [.int (-2 : Int32)]) hC mw_143 md_X7_no (c_X7_no (X := X) hf27) hH [0, 4] rfl (by decide) rfl rfl rfl hl.1 rfl rfl (Nat.le_of_ble_eq_true rfl) dX7_says_19 ⟨Nat.le_of_ble_eq_true rfl, Nat.le_of_ble_eq_true rfl⟩ ⟨rfl, rfl⟩ ⟨Nat.le_refl _, Nat.le_refl _⟩) hH [0, 4] rfl rfl rfl rfl rfl (fun hz27 H locs hH => ?_)
      exact x_retiw (φ := fun _ => True) (f := fun u : Int32 × (Nat → Int32) => u.1) (wf := fun u : Int32 × (Nat → Int32) => [(h0, xO 7 [.int v_laws, .ref h2, .ref h3, .int v_inForce, .int v_depth, .int v_miss, .long v_ring, .int v_size, .int v_people, .ref g0, .int v_seed, .int v_taped, .ref g1, .int v_from, .int v_to, .int v_token, .int v_value, .ref h1, .ref g2, .ref g3, .ref h4, .int v_imaged, .ref g4, .long v_oldRing, .ref g5, .long v_aheadRing, .ref g6]), (h1, xI X 8 v_holding), (h2, xI X 6 v_kind), (h3, xI X 6 v_own), (h4, xI X 7 u.2)]) hC hr hlk trivial hf hH rfl rfl dX7_says_22
def f_X7_newLaw (v_laws : Int32) (v_kind : (Nat → Int32)) (v_own : (Nat → Int32)) (p1 : Int32) (p2 : Int32) : Option (Int32 × Int32 × (Nat → Int32) × (Nat → Int32)) :=
  if xout v_laws 6 then none else
  if xout v_laws 6 then none else
  some (v_laws, v_laws + (nI 1), upd v_kind (xat v_laws) p1, upd v_own (xat v_laws) p2)
set_option maxHeartbeats 4000000 in
set_option maxRecDepth 100000 in
theorem c_X7_newLaw {l : Launch} {X : xG} {h0 h1 h2 g0 g1 g2 g3 g4 g5 g6 g7 g8 : Nat} {v_laws : Int32} {v_inForce : Int32} {v_depth : Int32} {v_miss : Int32} {v_ring : Int64} {v_size : Int32} {v_people : Int32} {v_seed : Int32} {v_taped : Int32} {v_from : Int32} {v_to : Int32} {v_token : Int32} {v_value : Int32} {v_imaged : Int32} {v_oldRing : Int64} {v_aheadRing : Int64} {v_kind : (Nat → Int32)} {v_own : (Nat → Int32)} {p1 : Int32} {p2 : Int32} {u : Int32 × Int32 × (Nat → Int32) × (Nat → Int32)} (hf : f_X7_newLaw v_laws v_kind v_own p1 p2 = some u) : Met l yX7_newLaw (xw yX7_newLaw cX7_newLaw 3 (some .int)) (xrm 0 0) (xPc [.ref h0, .int p1, .int p2] X [(h0, xO 7 [.int v_laws, .ref h1, .ref h2, .int v_inForce, .int v_depth, .int v_miss, .long v_ring, .int v_size, .int v_people, .ref g0, .int v_seed, .int v_taped, .ref g1, .int v_from, .int v_to, .int v_token, .int v_value, .ref g2, .ref g3, .ref g4, .ref g5, .int v_imaged, .ref g6, .long v_oldRing, .ref g7, .long v_aheadRing, .ref g8]), (h1, xI X 6 v_kind), (h2, xI X 6 v_own)]) (xQw True (.returned (some (.int u.1))) X [(h0, xO 7 [.int u.2.1, .ref h1, .ref h2, .int v_inForce, .int v_depth, .int v_miss, .long v_ring, .int v_size, .int v_people, .ref g0, .int v_seed, .int v_taped, .ref g1, .int v_from, .int v_to, .int v_token, .int v_value, .ref g2, .ref g3, .ref g4, .ref g5, .int v_imaged, .ref g6, .long v_oldRing, .ref g7, .long v_aheadRing, .ref g8]), (h1, xI X 6 u.2.2.1), (h2, xI X 6 u.2.2.2)] (xAs [(h0, xO 7 [.int v_laws, .ref h1, .ref h2, .int v_inForce, .int v_depth, .int v_miss, .long v_ring, .int v_size, .int v_people, .ref g0, .int v_seed, .int v_taped, .ref g1, .int v_from, .int v_to, .int v_token, .int v_value, .ref g2, .ref g3, .ref g4, .ref g5, .int v_imaged, .ref g6, .long v_oldRing, .ref g7, .long v_aheadRing, .ref g8]), (h1, xI X 6 v_kind), (h2, xI X 6 v_own)])) 0 0 (xAs [(h0, xO 7 [.int v_laws, .ref h1, .ref h2, .int v_inForce, .int v_depth, .int v_miss, .long v_ring, .int v_size, .int v_people, .ref g0, .int v_seed, .int v_taped, .ref g1, .int v_from, .int v_to, .int v_token, .int v_value, .ref g2, .ref g3, .ref g4, .ref g5, .int v_imaged, .ref g6, .long v_oldRing, .ref g7, .long v_aheadRing, .ref g8]), (h1, xI X 6 v_kind), (h2, xI X 6 v_own)]) := by
  refine xMetw (Qc := fun A => xQw True (.returned (some (.int u.1))) X [(h0, xO 7 [.int u.2.1, .ref h1, .ref h2, .int v_inForce, .int v_depth, .int v_miss, .long v_ring, .int v_size, .int v_people, .ref g0, .int v_seed, .int v_taped, .ref g1, .int v_from, .int v_to, .int v_token, .int v_value, .ref g2, .ref g3, .ref g4, .ref g5, .int v_imaged, .ref g6, .long v_oldRing, .ref g7, .long v_aheadRing, .ref g8]), (h1, xI X 6 u.2.2.1), (h2, xI X 6 u.2.2.2)] A) (n := 2) md_X7_newLaw.1 (Nat.le_of_ble_eq_true rfl) ?_
  intro p e s m args below meth c ls A hC hr hlk hH hl
  have hl : lv_has ls 3 [(0, .ref h0), (1, .int p1), (2, .int p2)] := hl
  have hx := hC.1
  have hb := hC.2.1
  refine lv_aload_n hx hb dX7_newLaw_0 rfl (lv_at hl 0 rfl) ?_
  refine x_get hC fd_RX7_7 hH.1 0 rfl rfl dX7_newLaw_1 ?_
  refine lv_aload_n hx hb dX7_newLaw_4 rfl (lv_at hl 0 rfl) ?_
  refine x_get hC fd_RX7_52 hH.1 0 rfl rfl dX7_newLaw_5 ?_
  refine lv_iload_n hx hb dX7_newLaw_8 rfl (lv_at hl 1 rfl) ?_
  obtain ⟨n1, hf⟩ := xok hf
  refine x_iast (ws' := [(h0, xO 7 [.int v_laws, .ref h1, .ref h2, .int v_inForce, .int v_depth, .int v_miss, .long v_ring, .int v_size, .int v_people, .ref g0, .int v_seed, .int v_taped, .ref g1, .int v_from, .int v_to, .int v_token, .int v_value, .ref g2, .ref g3, .ref g4, .ref g5, .int v_imaged, .ref g6, .long v_oldRing, .ref g7, .long v_aheadRing, .ref g8]), (h1, xI X 6 (upd v_kind (xat v_laws) p1)), (h2, xI X 6 v_own)]) hC hH 1 rfl n1 dX7_newLaw_9 rfl (fun H locs hH => ?_)
  refine lv_aload_n hx hb dX7_newLaw_10 rfl (lv_at hl 0 rfl) ?_
  refine x_get hC fd_RX7_13 hH.1 0 rfl rfl dX7_newLaw_11 ?_
  refine lv_aload_n hx hb dX7_newLaw_14 rfl (lv_at hl 0 rfl) ?_
  refine x_get hC fd_RX7_52 hH.1 0 rfl rfl dX7_newLaw_15 ?_
  refine lv_iload_n hx hb dX7_newLaw_18 rfl (lv_at hl 2 rfl) ?_
  obtain ⟨n2, hf⟩ := xok hf
  refine x_iast (ws' := [(h0, xO 7 [.int v_laws, .ref h1, .ref h2, .int v_inForce, .int v_depth, .int v_miss, .long v_ring, .int v_size, .int v_people, .ref g0, .int v_seed, .int v_taped, .ref g1, .int v_from, .int v_to, .int v_token, .int v_value, .ref g2, .ref g3, .ref g4, .ref g5, .int v_imaged, .ref g6, .long v_oldRing, .ref g7, .long v_aheadRing, .ref g8]), (h1, xI X 6 (upd v_kind (xat v_laws) p1)), (h2, xI X 6 (upd v_own (xat v_laws) p2))]) hC hH 2 rfl n2 dX7_newLaw_19 rfl (fun H locs hH => ?_)
  refine lv_aload_n hx hb dX7_newLaw_20 rfl (lv_at hl 0 rfl) ?_
  refine lv_dup hx hb dX7_newLaw_21 rfl ?_
  refine x_get hC fd_RX7_52 hH.1 0 rfl rfl dX7_newLaw_22 ?_
  refine lv_dup_x1 hx hb dX7_newLaw_25 rfl rfl ?_
  refine lv_iconst (v := (nI 1)) hx hb dX7_newLaw_26 (by decide) ?_
  refine lv_iadd hx hb dX7_newLaw_27 ?_
  refine x_put (ws' := [(h0, xO 7 [.int (v_laws + (nI 1)), .ref h1, .ref h2, .int v_inForce, .int v_depth, .int v_miss, .long v_ring, .int v_size, .int v_people, .ref g0, .int v_seed, .int v_taped, .ref g1, .int v_from, .int v_to, .int v_token, .int v_value, .ref g2, .ref g3, .ref g4, .ref g5, .int v_imaged, .ref g6, .long v_oldRing, .ref g7, .long v_aheadRing, .ref g8]), (h1, xI X 6 (upd v_kind (xat v_laws) p1)), (h2, xI X 6 (upd v_own (xat v_laws) p2))]) hC fd_RX7_52 hH 0 rfl (Nat.le_of_ble_eq_true rfl) rfl rfl dX7_newLaw_28 rfl (fun H locs hH => ?_)
  exact x_retiw (φ := fun _ => True) (f := fun u : Int32 × Int32 × (Nat → Int32) × (Nat → Int32) => u.1) (wf := fun u : Int32 × Int32 × (Nat → Int32) × (Nat → Int32) => [(h0, xO 7 [.int u.2.1, .ref h1, .ref h2, .int v_inForce, .int v_depth, .int v_miss, .long v_ring, .int v_size, .int v_people, .ref g0, .int v_seed, .int v_taped, .ref g1, .int v_from, .int v_to, .int v_token, .int v_value, .ref g2, .ref g3, .ref g4, .ref g5, .int v_imaged, .ref g6, .long v_oldRing, .ref g7, .long v_aheadRing, .ref g8]), (h1, xI X 6 u.2.2.1), (h2, xI X 6 u.2.2.2)]) hC hr hlk trivial hf hH rfl rfl dX7_newLaw_31
def f_X7_law (v_laws : Int32) (v_kind : (Nat → Int32)) (v_own : (Nat → Int32)) (v_refusals : (Nat → Int32)) (p1 : Int32) (p2 : Int32) : Option (Int32 × Int32 × (Nat → Int32) × (Nat → Int32) × (Nat → Int32)) :=
  (f_X7_within p1 (nI 0) (nI 5)).bind fun u1 =>
  if u1 = (nI 0) then
    (f_X7_no v_refusals (-2 : Int32)).bind fun u3 =>
    some (u3.1, v_laws, v_kind, v_own, u3.2)
  else
  (f_X7_within p2 (nI 0) (nI 9)).bind fun u4 =>
  if u4 = (nI 0) then
    (f_X7_no v_refusals (-2 : Int32)).bind fun u9 =>
    some (u9.1, v_laws, v_kind, v_own, u9.2)
  else
  if v_laws = (nI 6) then
    (f_X7_no v_refusals (-6 : Int32)).bind fun u8 =>
    some (u8.1, v_laws, v_kind, v_own, u8.2)
  else
  (f_X7_newLaw v_laws v_kind v_own p1 p2).bind fun u7 =>
  some (u7.1, u7.2.1, u7.2.2.1, u7.2.2.2, v_refusals)
set_option maxHeartbeats 4000000 in
set_option maxRecDepth 100000 in
theorem c_X7_law {l : Launch} {X : xG} {h0 h1 h2 h3 g0 g1 g2 g3 g4 g5 g6 g7 : Nat} {v_laws : Int32} {v_inForce : Int32} {v_depth : Int32} {v_miss : Int32} {v_ring : Int64} {v_size : Int32} {v_people : Int32} {v_seed : Int32} {v_taped : Int32} {v_from : Int32} {v_to : Int32} {v_token : Int32} {v_value : Int32} {v_imaged : Int32} {v_oldRing : Int64} {v_aheadRing : Int64} {v_kind : (Nat → Int32)} {v_own : (Nat → Int32)} {v_refusals : (Nat → Int32)} {p1 : Int32} {p2 : Int32} {u : Int32 × Int32 × (Nat → Int32) × (Nat → Int32) × (Nat → Int32)} (hf : f_X7_law v_laws v_kind v_own v_refusals p1 p2 = some u) : Met l yX7_law (xw yX7_law cX7_law 3 (some .int)) (xrm 1 22) (xPc [.ref h0, .int p1, .int p2] X [(h0, xO 7 [.int v_laws, .ref h1, .ref h2, .int v_inForce, .int v_depth, .int v_miss, .long v_ring, .int v_size, .int v_people, .ref g0, .int v_seed, .int v_taped, .ref g1, .int v_from, .int v_to, .int v_token, .int v_value, .ref g2, .ref g3, .ref g4, .ref h3, .int v_imaged, .ref g5, .long v_oldRing, .ref g6, .long v_aheadRing, .ref g7]), (h1, xI X 6 v_kind), (h2, xI X 6 v_own), (h3, xI X 7 v_refusals)]) (xQw True (.returned (some (.int u.1))) X [(h0, xO 7 [.int u.2.1, .ref h1, .ref h2, .int v_inForce, .int v_depth, .int v_miss, .long v_ring, .int v_size, .int v_people, .ref g0, .int v_seed, .int v_taped, .ref g1, .int v_from, .int v_to, .int v_token, .int v_value, .ref g2, .ref g3, .ref g4, .ref h3, .int v_imaged, .ref g5, .long v_oldRing, .ref g6, .long v_aheadRing, .ref g7]), (h1, xI X 6 u.2.2.1), (h2, xI X 6 u.2.2.2.1), (h3, xI X 7 u.2.2.2.2)] (xAs [(h0, xO 7 [.int v_laws, .ref h1, .ref h2, .int v_inForce, .int v_depth, .int v_miss, .long v_ring, .int v_size, .int v_people, .ref g0, .int v_seed, .int v_taped, .ref g1, .int v_from, .int v_to, .int v_token, .int v_value, .ref g2, .ref g3, .ref g4, .ref h3, .int v_imaged, .ref g5, .long v_oldRing, .ref g6, .long v_aheadRing, .ref g7]), (h1, xI X 6 v_kind), (h2, xI X 6 v_own), (h3, xI X 7 v_refusals)])) 0 0 (xAs [(h0, xO 7 [.int v_laws, .ref h1, .ref h2, .int v_inForce, .int v_depth, .int v_miss, .long v_ring, .int v_size, .int v_people, .ref g0, .int v_seed, .int v_taped, .ref g1, .int v_from, .int v_to, .int v_token, .int v_value, .ref g2, .ref g3, .ref g4, .ref h3, .int v_imaged, .ref g5, .long v_oldRing, .ref g6, .long v_aheadRing, .ref g7]), (h1, xI X 6 v_kind), (h2, xI X 6 v_own), (h3, xI X 7 v_refusals)]) := by
  refine xMetw (Qc := fun A => xQw True (.returned (some (.int u.1))) X [(h0, xO 7 [.int u.2.1, .ref h1, .ref h2, .int v_inForce, .int v_depth, .int v_miss, .long v_ring, .int v_size, .int v_people, .ref g0, .int v_seed, .int v_taped, .ref g1, .int v_from, .int v_to, .int v_token, .int v_value, .ref g2, .ref g3, .ref g4, .ref h3, .int v_imaged, .ref g5, .long v_oldRing, .ref g6, .long v_aheadRing, .ref g7]), (h1, xI X 6 u.2.2.1), (h2, xI X 6 u.2.2.2.1), (h3, xI X 7 u.2.2.2.2)] A) (n := 2) md_X7_law.1 (Nat.le_of_ble_eq_true rfl) ?_
  intro p e s m args below meth c ls A hC hr hlk hH hl
  have hl : lv_has ls 3 [(0, .ref h0), (1, .int p1), (2, .int p2)] := hl
  have hx := hC.1
  have hb := hC.2.1
  refine lv_iload_n hx hb dX7_law_0 rfl (lv_at hl 1 rfl) ?_
  refine lv_iconst (v := (nI 0)) hx hb dX7_law_1 (by decide) ?_
  refine lv_iconst (v := (nI 5)) hx hb dX7_law_2 (by decide) ?_
  obtain ⟨u1, hf1, hf⟩ := xb hf
  refine x_ran (x_runS (rest := []) (As := [.int p1, .int (nI 0), .int (nI 5)]) hC mw_140 md_X7_within (c_X7_within (X := X) hf1) hH [] rfl (by decide) hl.1 rfl rfl (Nat.le_of_ble_eq_true rfl) dX7_law_3 ⟨Nat.le_of_ble_eq_true rfl, Nat.le_of_ble_eq_true rfl⟩ ⟨rfl, rfl⟩ ⟨Nat.le_refl _, Nat.le_refl _⟩) rfl (fun hz1 => ?_)
  refine lv_if_eq (tgt := 19) hx hb dX7_law_6 (by decide) (fun c2 => ?_) (fun c2 => ?_)
  · have hf := xt c2 hf
    refine lv_aload_n hx hb dX7_law_19 rfl (lv_at hl 0 rfl) ?_
    refine lv_bipush (v := (-2 : Int32)) hx hb dX7_law_20 (by decide) ?_
    obtain ⟨u3, hf3, hf⟩ := xb hf
    refine x_ranw (ws' := [(h0, xO 7 [.int v_laws, .ref h1, .ref h2, .int v_inForce, .int v_depth, .int v_miss, .long v_ring, .int v_size, .int v_people, .ref g0, .int v_seed, .int v_taped, .ref g1, .int v_from, .int v_to, .int v_token, .int v_value, .ref g2, .ref g3, .ref g4, .ref h3, .int v_imaged, .ref g5, .long v_oldRing, .ref g6, .long v_aheadRing, .ref g7]), (h1, xI X 6 v_kind), (h2, xI X 6 v_own), (h3, xI X 7 u3.2)]) (x_runV (q0 := 0) (rest := []) (As := [.int (-2 : Int32)]) hC mw_143 md_X7_no (c_X7_no (X := X) hf3) hH [0, 3] rfl (by decide) rfl rfl rfl hl.1 rfl rfl (Nat.le_of_ble_eq_true rfl) dX7_law_22 ⟨Nat.le_of_ble_eq_true rfl, Nat.le_of_ble_eq_true rfl⟩ ⟨rfl, rfl⟩ ⟨Nat.le_refl _, Nat.le_refl _⟩) hH [0, 3] rfl rfl rfl rfl rfl (fun hz3 H locs hH => ?_)
    exact x_retiw (φ := fun _ => True) (f := fun u : Int32 × Int32 × (Nat → Int32) × (Nat → Int32) × (Nat → Int32) => u.1) (wf := fun u : Int32 × Int32 × (Nat → Int32) × (Nat → Int32) × (Nat → Int32) => [(h0, xO 7 [.int u.2.1, .ref h1, .ref h2, .int v_inForce, .int v_depth, .int v_miss, .long v_ring, .int v_size, .int v_people, .ref g0, .int v_seed, .int v_taped, .ref g1, .int v_from, .int v_to, .int v_token, .int v_value, .ref g2, .ref g3, .ref g4, .ref h3, .int v_imaged, .ref g5, .long v_oldRing, .ref g6, .long v_aheadRing, .ref g7]), (h1, xI X 6 u.2.2.1), (h2, xI X 6 u.2.2.2.1), (h3, xI X 7 u.2.2.2.2)]) hC hr hlk trivial hf hH rfl rfl dX7_law_25
  · have hf := xe c2 hf
    refine lv_iload_n hx hb dX7_law_9 rfl (lv_at hl 2 rfl) ?_
    refine lv_iconst (v := (nI 0)) hx hb dX7_law_10 (by decide) ?_
    refine lv_bipush (v := (nI 9)) hx hb dX7_law_11 (by decide) ?_
    obtain ⟨u4, hf4, hf⟩ := xb hf
    refine x_ran (x_runS (rest := []) (As := [.int p2, .int (nI 0), .int (nI 9)]) hC mw_140 md_X7_within (c_X7_within (X := X) hf4) hH [] rfl (by decide) hl.1 rfl rfl (Nat.le_of_ble_eq_true rfl) dX7_law_13 ⟨Nat.le_of_ble_eq_true rfl, Nat.le_of_ble_eq_true rfl⟩ ⟨rfl, rfl⟩ ⟨Nat.le_refl _, Nat.le_refl _⟩) rfl (fun hz4 => ?_)
    refine lv_if_ne (tgt := 26) hx hb dX7_law_16 (by decide) (fun c5 => ?_) (fun c5 => ?_)
    · have hf := xe c5 hf
      refine lv_aload_n hx hb dX7_law_26 rfl (lv_at hl 0 rfl) ?_
      refine x_get hC fd_RX7_52 hH.1 0 rfl rfl dX7_law_27 ?_
      refine lv_bipush (v := (nI 6)) hx hb dX7_law_30 (by decide) ?_
      refine lv_icmp_ne (tgt := 44) hx hb dX7_law_32 (by decide) (fun c6 => ?_) (fun c6 => ?_)
      · have hf := xe c6 hf
        refine lv_aload_n hx hb dX7_law_44 rfl (lv_at hl 0 rfl) ?_
        refine lv_iload_n hx hb dX7_law_45 rfl (lv_at hl 1 rfl) ?_
        refine lv_iload_n hx hb dX7_law_46 rfl (lv_at hl 2 rfl) ?_
        obtain ⟨u7, hf7, hf⟩ := xb hf
        refine x_ranw (ws' := [(h0, xO 7 [.int u7.2.1, .ref h1, .ref h2, .int v_inForce, .int v_depth, .int v_miss, .long v_ring, .int v_size, .int v_people, .ref g0, .int v_seed, .int v_taped, .ref g1, .int v_from, .int v_to, .int v_token, .int v_value, .ref g2, .ref g3, .ref g4, .ref h3, .int v_imaged, .ref g5, .long v_oldRing, .ref g6, .long v_aheadRing, .ref g7]), (h1, xI X 6 u7.2.2.1), (h2, xI X 6 u7.2.2.2), (h3, xI X 7 v_refusals)]) (x_runV (q0 := 0) (rest := []) (As := [.int p1, .int p2]) hC mw_363 md_X7_newLaw (c_X7_newLaw (X := X) hf7) hH [0, 1, 2] rfl (by decide) rfl rfl rfl hl.1 rfl rfl (Nat.le_of_ble_eq_true rfl) dX7_law_47 ⟨Nat.le_of_ble_eq_true rfl, Nat.le_of_ble_eq_true rfl⟩ ⟨rfl, rfl⟩ ⟨Nat.le_refl _, Nat.le_refl _⟩) hH [0, 1, 2] rfl rfl rfl rfl rfl (fun hz7 H locs hH => ?_)
        exact x_retiw (φ := fun _ => True) (f := fun u : Int32 × Int32 × (Nat → Int32) × (Nat → Int32) × (Nat → Int32) => u.1) (wf := fun u : Int32 × Int32 × (Nat → Int32) × (Nat → Int32) × (Nat → Int32) => [(h0, xO 7 [.int u.2.1, .ref h1, .ref h2, .int v_inForce, .int v_depth, .int v_miss, .long v_ring, .int v_size, .int v_people, .ref g0, .int v_seed, .int v_taped, .ref g1, .int v_from, .int v_to, .int v_token, .int v_value, .ref g2, .ref g3, .ref g4, .ref h3, .int v_imaged, .ref g5, .long v_oldRing, .ref g6, .long v_aheadRing, .ref g7]), (h1, xI X 6 u.2.2.1), (h2, xI X 6 u.2.2.2.1), (h3, xI X 7 u.2.2.2.2)]) hC hr hlk trivial hf hH rfl rfl dX7_law_50
      · have hf := xt c6 hf
        refine lv_aload_n hx hb dX7_law_35 rfl (lv_at hl 0 rfl) ?_
        refine lv_bipush (v := (-6 : Int32)) hx hb dX7_law_36 (by decide) ?_
        obtain ⟨u8, hf8, hf⟩ := xb hf
        refine x_ranw (ws' := [(h0, xO 7 [.int v_laws, .ref h1, .ref h2, .int v_inForce, .int v_depth, .int v_miss, .long v_ring, .int v_size, .int v_people, .ref g0, .int v_seed, .int v_taped, .ref g1, .int v_from, .int v_to, .int v_token, .int v_value, .ref g2, .ref g3, .ref g4, .ref h3, .int v_imaged, .ref g5, .long v_oldRing, .ref g6, .long v_aheadRing, .ref g7]), (h1, xI X 6 v_kind), (h2, xI X 6 v_own), (h3, xI X 7 u8.2)]) (x_runV (q0 := 0) (rest := []) (As := [.int (-6 : Int32)]) hC mw_143 md_X7_no (c_X7_no (X := X) hf8) hH [0, 3] rfl (by decide) rfl rfl rfl hl.1 rfl rfl (Nat.le_of_ble_eq_true rfl) dX7_law_38 ⟨Nat.le_of_ble_eq_true rfl, Nat.le_of_ble_eq_true rfl⟩ ⟨rfl, rfl⟩ ⟨Nat.le_refl _, Nat.le_refl _⟩) hH [0, 3] rfl rfl rfl rfl rfl (fun hz8 H locs hH => ?_)
        refine lv_goto (tgt := 50) hx hb dX7_law_41 (by decide) ?_
        exact x_retiw (φ := fun _ => True) (f := fun u : Int32 × Int32 × (Nat → Int32) × (Nat → Int32) × (Nat → Int32) => u.1) (wf := fun u : Int32 × Int32 × (Nat → Int32) × (Nat → Int32) × (Nat → Int32) => [(h0, xO 7 [.int u.2.1, .ref h1, .ref h2, .int v_inForce, .int v_depth, .int v_miss, .long v_ring, .int v_size, .int v_people, .ref g0, .int v_seed, .int v_taped, .ref g1, .int v_from, .int v_to, .int v_token, .int v_value, .ref g2, .ref g3, .ref g4, .ref h3, .int v_imaged, .ref g5, .long v_oldRing, .ref g6, .long v_aheadRing, .ref g7]), (h1, xI X 6 u.2.2.1), (h2, xI X 6 u.2.2.2.1), (h3, xI X 7 u.2.2.2.2)]) hC hr hlk trivial hf hH rfl rfl dX7_law_50
    · have hf := xt c5 hf
      refine lv_aload_n hx hb dX7_law_19 rfl (lv_at hl 0 rfl) ?_
      refine lv_bipush (v := (-2 : Int32)) hx hb dX7_law_20 (by decide) ?_
      obtain ⟨u9, hf9, hf⟩ := xb hf
      refine x_ranw (ws' := [(h0, xO 7 [.int v_laws, .ref h1, .ref h2, .int v_inForce, .int v_depth, .int v_miss, .long v_ring, .int v_size, .int v_people, .ref g0, .int v_seed, .int v_taped, .ref g1, .int v_from, .int v_to, .int v_token, .int v_value, .ref g2, .ref g3, .ref g4, .ref h3, .int v_imaged, .ref g5, .long v_oldRing, .ref g6, .long v_aheadRing, .ref g7]), (h1, xI X 6 v_kind), (h2, xI X 6 v_own), (h3, xI X 7 u9.2)]) (x_runV (q0 := 0) (rest := []) (As := [.int (-2 : Int32)]) hC mw_143 md_X7_no (c_X7_no (X := X) hf9) hH [0, 3] rfl (by decide) rfl rfl rfl hl.1 rfl rfl (Nat.le_of_ble_eq_true rfl) dX7_law_22 ⟨Nat.le_of_ble_eq_true rfl, Nat.le_of_ble_eq_true rfl⟩ ⟨rfl, rfl⟩ ⟨Nat.le_refl _, Nat.le_refl _⟩) hH [0, 3] rfl rfl rfl rfl rfl (fun hz9 H locs hH => ?_)
      exact x_retiw (φ := fun _ => True) (f := fun u : Int32 × Int32 × (Nat → Int32) × (Nat → Int32) × (Nat → Int32) => u.1) (wf := fun u : Int32 × Int32 × (Nat → Int32) × (Nat → Int32) × (Nat → Int32) => [(h0, xO 7 [.int u.2.1, .ref h1, .ref h2, .int v_inForce, .int v_depth, .int v_miss, .long v_ring, .int v_size, .int v_people, .ref g0, .int v_seed, .int v_taped, .ref g1, .int v_from, .int v_to, .int v_token, .int v_value, .ref g2, .ref g3, .ref g4, .ref h3, .int v_imaged, .ref g5, .long v_oldRing, .ref g6, .long v_aheadRing, .ref g7]), (h1, xI X 6 u.2.2.1), (h2, xI X 6 u.2.2.2.1), (h3, xI X 7 u.2.2.2.2)]) hC hr hlk trivial hf hH rfl rfl dX7_law_25
def f_X7_use (v_laws : Int32) (v_inForce : Int32) (v_refusals : (Nat → Int32)) (p1 : Int32) : Option (Int32 × Int32 × (Nat → Int32)) :=
  (f_X7_isLaw v_laws p1).bind fun u1 =>
  if u1 = (nI 0) then
    (f_X7_no v_refusals (-2 : Int32)).bind fun u3 =>
    some (u3.1, v_inForce, u3.2)
  else
  some (v_inForce, p1, v_refusals)
set_option maxHeartbeats 4000000 in
set_option maxRecDepth 100000 in
theorem c_X7_use {l : Launch} {X : xG} {h0 h1 g0 g1 g2 g3 g4 g5 g6 g7 g8 g9 : Nat} {v_laws : Int32} {v_inForce : Int32} {v_depth : Int32} {v_miss : Int32} {v_ring : Int64} {v_size : Int32} {v_people : Int32} {v_seed : Int32} {v_taped : Int32} {v_from : Int32} {v_to : Int32} {v_token : Int32} {v_value : Int32} {v_imaged : Int32} {v_oldRing : Int64} {v_aheadRing : Int64} {v_refusals : (Nat → Int32)} {p1 : Int32} {u : Int32 × Int32 × (Nat → Int32)} (hf : f_X7_use v_laws v_inForce v_refusals p1 = some u) : Met l yX7_use (xw yX7_use cX7_use 3 (some .int)) (xrm 2 43) (xPc [.ref h0, .int p1] X [(h0, xO 7 [.int v_laws, .ref g0, .ref g1, .int v_inForce, .int v_depth, .int v_miss, .long v_ring, .int v_size, .int v_people, .ref g2, .int v_seed, .int v_taped, .ref g3, .int v_from, .int v_to, .int v_token, .int v_value, .ref g4, .ref g5, .ref g6, .ref h1, .int v_imaged, .ref g7, .long v_oldRing, .ref g8, .long v_aheadRing, .ref g9]), (h1, xI X 7 v_refusals)]) (xQw True (.returned (some (.int u.1))) X [(h0, xO 7 [.int v_laws, .ref g0, .ref g1, .int u.2.1, .int v_depth, .int v_miss, .long v_ring, .int v_size, .int v_people, .ref g2, .int v_seed, .int v_taped, .ref g3, .int v_from, .int v_to, .int v_token, .int v_value, .ref g4, .ref g5, .ref g6, .ref h1, .int v_imaged, .ref g7, .long v_oldRing, .ref g8, .long v_aheadRing, .ref g9]), (h1, xI X 7 u.2.2)] (xAs [(h0, xO 7 [.int v_laws, .ref g0, .ref g1, .int v_inForce, .int v_depth, .int v_miss, .long v_ring, .int v_size, .int v_people, .ref g2, .int v_seed, .int v_taped, .ref g3, .int v_from, .int v_to, .int v_token, .int v_value, .ref g4, .ref g5, .ref g6, .ref h1, .int v_imaged, .ref g7, .long v_oldRing, .ref g8, .long v_aheadRing, .ref g9]), (h1, xI X 7 v_refusals)])) 0 0 (xAs [(h0, xO 7 [.int v_laws, .ref g0, .ref g1, .int v_inForce, .int v_depth, .int v_miss, .long v_ring, .int v_size, .int v_people, .ref g2, .int v_seed, .int v_taped, .ref g3, .int v_from, .int v_to, .int v_token, .int v_value, .ref g4, .ref g5, .ref g6, .ref h1, .int v_imaged, .ref g7, .long v_oldRing, .ref g8, .long v_aheadRing, .ref g9]), (h1, xI X 7 v_refusals)]) := by
  refine xMetw (Qc := fun A => xQw True (.returned (some (.int u.1))) X [(h0, xO 7 [.int v_laws, .ref g0, .ref g1, .int u.2.1, .int v_depth, .int v_miss, .long v_ring, .int v_size, .int v_people, .ref g2, .int v_seed, .int v_taped, .ref g3, .int v_from, .int v_to, .int v_token, .int v_value, .ref g4, .ref g5, .ref g6, .ref h1, .int v_imaged, .ref g7, .long v_oldRing, .ref g8, .long v_aheadRing, .ref g9]), (h1, xI X 7 u.2.2)] A) (n := 1) md_X7_use.1 (Nat.le_of_ble_eq_true rfl) ?_
  intro p e s m args below meth c ls A hC hr hlk hH hl
  have hl : lv_has ls 3 [(0, .ref h0), (1, .int p1)] := hl
  have hx := hC.1
  have hb := hC.2.1
  refine lv_aload_n hx hb dX7_use_0 rfl (lv_at hl 0 rfl) ?_
  refine lv_iload_n hx hb dX7_use_1 rfl (lv_at hl 1 rfl) ?_
  obtain ⟨u1, hf1, hf⟩ := xb hf
  refine x_ran (x_runV (q0 := 0) (rest := []) (As := [.int p1]) hC mw_243 md_X7_isLaw (c_X7_isLaw (X := X) hf1) hH [0] rfl (by decide) rfl rfl rfl hl.1 rfl rfl (Nat.le_of_ble_eq_true rfl) dX7_use_2 ⟨Nat.le_of_ble_eq_true rfl, Nat.le_of_ble_eq_true rfl⟩ ⟨rfl, rfl⟩ ⟨Nat.le_refl _, Nat.le_refl _⟩) rfl (fun hz1 => ?_)
  refine lv_if_ne (tgt := 15) hx hb dX7_use_5 (by decide) (fun c2 => ?_) (fun c2 => ?_)
  · have hf := xe c2 hf
    refine lv_aload_n hx hb dX7_use_15 rfl (lv_at hl 0 rfl) ?_
    refine x_get hC fd_RX7_102 hH.1 0 rfl rfl dX7_use_16 ?_
    refine lv_istore_n (lv' := [(2, .int v_inForce), (0, .ref h0), (1, .int p1)]) hx hb dX7_use_19 rfl hl (by decide) rfl (fun ls hl => ?_)
    refine lv_aload_n hx hb dX7_use_20 rfl (lv_at hl 1 rfl) ?_
    refine lv_iload_n hx hb dX7_use_21 rfl (lv_at hl 2 rfl) ?_
    refine x_put (ws' := [(h0, xO 7 [.int v_laws, .ref g0, .ref g1, .int p1, .int v_depth, .int v_miss, .long v_ring, .int v_size, .int v_people, .ref g2, .int v_seed, .int v_taped, .ref g3, .int v_from, .int v_to, .int v_token, .int v_value, .ref g4, .ref g5, .ref g6, .ref h1, .int v_imaged, .ref g7, .long v_oldRing, .ref g8, .long v_aheadRing, .ref g9]), (h1, xI X 7 v_refusals)]) hC fd_RX7_102 hH 0 rfl (Nat.le_of_ble_eq_true rfl) rfl rfl dX7_use_22 rfl (fun H locs hH => ?_)
    refine lv_iload_n hx hb dX7_use_25 rfl (lv_at hl 0 rfl) ?_
    exact x_retiw (φ := fun _ => True) (f := fun u : Int32 × Int32 × (Nat → Int32) => u.1) (wf := fun u : Int32 × Int32 × (Nat → Int32) => [(h0, xO 7 [.int v_laws, .ref g0, .ref g1, .int u.2.1, .int v_depth, .int v_miss, .long v_ring, .int v_size, .int v_people, .ref g2, .int v_seed, .int v_taped, .ref g3, .int v_from, .int v_to, .int v_token, .int v_value, .ref g4, .ref g5, .ref g6, .ref h1, .int v_imaged, .ref g7, .long v_oldRing, .ref g8, .long v_aheadRing, .ref g9]), (h1, xI X 7 u.2.2)]) hC hr hlk trivial hf hH rfl rfl dX7_use_26
  · have hf := xt c2 hf
    refine lv_aload_n hx hb dX7_use_8 rfl (lv_at hl 0 rfl) ?_
    refine lv_bipush (v := (-2 : Int32)) hx hb dX7_use_9 (by decide) ?_
    obtain ⟨u3, hf3, hf⟩ := xb hf
    refine x_ranw (ws' := [(h0, xO 7 [.int v_laws, .ref g0, .ref g1, .int v_inForce, .int v_depth, .int v_miss, .long v_ring, .int v_size, .int v_people, .ref g2, .int v_seed, .int v_taped, .ref g3, .int v_from, .int v_to, .int v_token, .int v_value, .ref g4, .ref g5, .ref g6, .ref h1, .int v_imaged, .ref g7, .long v_oldRing, .ref g8, .long v_aheadRing, .ref g9]), (h1, xI X 7 u3.2)]) (x_runV (q0 := 0) (rest := []) (As := [.int (-2 : Int32)]) hC mw_143 md_X7_no (c_X7_no (X := X) hf3) hH [0, 1] rfl (by decide) rfl rfl rfl hl.1 rfl rfl (Nat.le_of_ble_eq_true rfl) dX7_use_11 ⟨Nat.le_of_ble_eq_true rfl, Nat.le_of_ble_eq_true rfl⟩ ⟨rfl, rfl⟩ ⟨Nat.le_refl _, Nat.le_refl _⟩) hH [0, 1] rfl rfl rfl rfl rfl (fun hz3 H locs hH => ?_)
    exact x_retiw (φ := fun _ => True) (f := fun u : Int32 × Int32 × (Nat → Int32) => u.1) (wf := fun u : Int32 × Int32 × (Nat → Int32) => [(h0, xO 7 [.int v_laws, .ref g0, .ref g1, .int u.2.1, .int v_depth, .int v_miss, .long v_ring, .int v_size, .int v_people, .ref g2, .int v_seed, .int v_taped, .ref g3, .int v_from, .int v_to, .int v_token, .int v_value, .ref g4, .ref g5, .ref g6, .ref h1, .int v_imaged, .ref g7, .long v_oldRing, .ref g8, .long v_aheadRing, .ref g9]), (h1, xI X 7 u.2.2)]) hC hr hlk trivial hf hH rfl rfl dX7_use_14
def f_X7_ask_J50 (v_depth : Int32) (v_miss : Int32) (v_refusals : (Nat → Int32)) (p1 : Int32) (p2 : Int32) (j50_s0 : Int32) : Option (Int32 × Int32 × Int32 × (Nat → Int32)) :=
  if p1 = (nI 0) then
    some (j50_s0, p2, v_miss, v_refusals)
  else
  some (j50_s0, v_depth, p2, v_refusals)
def f_X7_ask_J22 (v_depth : Int32) (v_miss : Int32) (v_refusals : (Nat → Int32)) (p1 : Int32) (p2 : Int32) (j22_s0 : Int32) (j22_s1 : Int32) (j22_s2 : Int32) : Option (Int32 × Int32 × Int32 × (Nat → Int32)) :=
  (f_X7_within j22_s0 j22_s1 j22_s2).bind fun u5 =>
  if u5 = (nI 0) then
    (f_X7_no v_refusals (-2 : Int32)).bind fun u9 =>
    some (u9.1, v_depth, v_miss, u9.2)
  else
  if p1 = (nI 0) then
    f_X7_ask_J50 v_depth v_miss v_refusals p1 p2 v_depth
  else
  f_X7_ask_J50 v_depth v_miss v_refusals p1 p2 v_miss
def f_X7_ask (v_depth : Int32) (v_miss : Int32) (v_refusals : (Nat → Int32)) (p1 : Int32) (p2 : Int32) : Option (Int32 × Int32 × Int32 × (Nat → Int32)) :=
  (f_X7_within p1 (nI 0) (nI 1)).bind fun u1 =>
  if u1 = (nI 0) then
    (f_X7_no v_refusals (-2 : Int32)).bind fun u3 =>
    some (u3.1, v_depth, v_miss, u3.2)
  else
  if p1 = (nI 0) then
    f_X7_ask_J22 v_depth v_miss v_refusals p1 p2 p2 (nI 0) (nI 9)
  else
  f_X7_ask_J22 v_depth v_miss v_refusals p1 p2 p2 (nI 0) (nI 100)
set_option maxHeartbeats 4000000 in
set_option maxRecDepth 100000 in
theorem c_X7_ask {l : Launch} {X : xG} {h0 h1 g0 g1 g2 g3 g4 g5 g6 g7 g8 g9 : Nat} {v_laws : Int32} {v_inForce : Int32} {v_depth : Int32} {v_miss : Int32} {v_ring : Int64} {v_size : Int32} {v_people : Int32} {v_seed : Int32} {v_taped : Int32} {v_from : Int32} {v_to : Int32} {v_token : Int32} {v_value : Int32} {v_imaged : Int32} {v_oldRing : Int64} {v_aheadRing : Int64} {v_refusals : (Nat → Int32)} {p1 : Int32} {p2 : Int32} {u : Int32 × Int32 × Int32 × (Nat → Int32)} (hf : f_X7_ask v_depth v_miss v_refusals p1 p2 = some u) : Met l yX7_ask (xw yX7_ask cX7_ask 4 (some .int)) (xrm 1 22) (xPc [.ref h0, .int p1, .int p2] X [(h0, xO 7 [.int v_laws, .ref g0, .ref g1, .int v_inForce, .int v_depth, .int v_miss, .long v_ring, .int v_size, .int v_people, .ref g2, .int v_seed, .int v_taped, .ref g3, .int v_from, .int v_to, .int v_token, .int v_value, .ref g4, .ref g5, .ref g6, .ref h1, .int v_imaged, .ref g7, .long v_oldRing, .ref g8, .long v_aheadRing, .ref g9]), (h1, xI X 7 v_refusals)]) (xQw True (.returned (some (.int u.1))) X [(h0, xO 7 [.int v_laws, .ref g0, .ref g1, .int v_inForce, .int u.2.1, .int u.2.2.1, .long v_ring, .int v_size, .int v_people, .ref g2, .int v_seed, .int v_taped, .ref g3, .int v_from, .int v_to, .int v_token, .int v_value, .ref g4, .ref g5, .ref g6, .ref h1, .int v_imaged, .ref g7, .long v_oldRing, .ref g8, .long v_aheadRing, .ref g9]), (h1, xI X 7 u.2.2.2)] (xAs [(h0, xO 7 [.int v_laws, .ref g0, .ref g1, .int v_inForce, .int v_depth, .int v_miss, .long v_ring, .int v_size, .int v_people, .ref g2, .int v_seed, .int v_taped, .ref g3, .int v_from, .int v_to, .int v_token, .int v_value, .ref g4, .ref g5, .ref g6, .ref h1, .int v_imaged, .ref g7, .long v_oldRing, .ref g8, .long v_aheadRing, .ref g9]), (h1, xI X 7 v_refusals)])) 0 0 (xAs [(h0, xO 7 [.int v_laws, .ref g0, .ref g1, .int v_inForce, .int v_depth, .int v_miss, .long v_ring, .int v_size, .int v_people, .ref g2, .int v_seed, .int v_taped, .ref g3, .int v_from, .int v_to, .int v_token, .int v_value, .ref g4, .ref g5, .ref g6, .ref h1, .int v_imaged, .ref g7, .long v_oldRing, .ref g8, .long v_aheadRing, .ref g9]), (h1, xI X 7 v_refusals)]) := by
  refine xMetw (Qc := fun A => xQw True (.returned (some (.int u.1))) X [(h0, xO 7 [.int v_laws, .ref g0, .ref g1, .int v_inForce, .int u.2.1, .int u.2.2.1, .long v_ring, .int v_size, .int v_people, .ref g2, .int v_seed, .int v_taped, .ref g3, .int v_from, .int v_to, .int v_token, .int v_value, .ref g4, .ref g5, .ref g6, .ref h1, .int v_imaged, .ref g7, .long v_oldRing, .ref g8, .long v_aheadRing, .ref g9]), (h1, xI X 7 u.2.2.2)] A) (n := 2) md_X7_ask.1 (Nat.le_of_ble_eq_true rfl) ?_
  intro p e s m args below meth c ls A hC hr hlk hH hl
  have hl : lv_has ls 4 [(0, .ref h0), (1, .int p1), (2, .int p2)] := hl
  have hx := hC.1
  have hb := hC.2.1
  have J50 : ∀ (j50_s0 : Int32), f_X7_ask_J50 v_depth v_miss v_refusals p1 p2 j50_s0 = some u → ∀ (H : Heap) (locs : List Loc), xH X A [(h0, xO 7 [.int v_laws, .ref g0, .ref g1, .int v_inForce, .int v_depth, .int v_miss, .long v_ring, .int v_size, .int v_people, .ref g2, .int v_seed, .int v_taped, .ref g3, .int v_from, .int v_to, .int v_token, .int v_value, .ref g4, .ref g5, .ref g6, .ref h1, .int v_imaged, .ref g7, .long v_oldRing, .ref g8, .long v_aheadRing, .ref g9]), (h1, xI X 7 v_refusals)] s.heap H locs → ∀ (ls : Array Slot), lv_has ls 4 [(0, .ref h0), (1, .int p1), (2, .int p2)] → W p l e (xrm 1 22) s m args below meth c H locs 0 0 (MQ below (xQw True (.returned (some (.int u.1))) X [(h0, xO 7 [.int v_laws, .ref g0, .ref g1, .int v_inForce, .int u.2.1, .int u.2.2.1, .long v_ring, .int v_size, .int v_people, .ref g2, .int v_seed, .int v_taped, .ref g3, .int v_from, .int v_to, .int v_token, .int v_value, .ref g4, .ref g5, .ref g6, .ref h1, .int v_imaged, .ref g7, .long v_oldRing, .ref g8, .long v_aheadRing, .ref g9]), (h1, xI X 7 u.2.2.2)] A) args s 0 0 A) (F0 m 50 ls [.int j50_s0]) := by
    intro j50_s0 hf H locs hH ls hl
    refine lv_istore_n (lv' := [(3, .int j50_s0), (0, .ref h0), (1, .int p1), (2, .int p2)]) hx hb dX7_ask_50 rfl hl (by decide) rfl (fun ls hl => ?_)
    refine lv_iload_n hx hb dX7_ask_51 rfl (lv_at hl 2 rfl) ?_
    refine lv_if_ne (tgt := 63) hx hb dX7_ask_52 (by decide) (fun c8 => ?_) (fun c8 => ?_)
    · have hf := xe c8 hf
      refine lv_aload_n hx hb dX7_ask_63 rfl (lv_at hl 1 rfl) ?_
      refine lv_iload_n hx hb dX7_ask_64 rfl (lv_at hl 3 rfl) ?_
      refine x_put (ws' := [(h0, xO 7 [.int v_laws, .ref g0, .ref g1, .int v_inForce, .int v_depth, .int p2, .long v_ring, .int v_size, .int v_people, .ref g2, .int v_seed, .int v_taped, .ref g3, .int v_from, .int v_to, .int v_token, .int v_value, .ref g4, .ref g5, .ref g6, .ref h1, .int v_imaged, .ref g7, .long v_oldRing, .ref g8, .long v_aheadRing, .ref g9]), (h1, xI X 7 v_refusals)]) hC fd_RX7_105 hH 0 rfl (Nat.le_of_ble_eq_true rfl) rfl rfl dX7_ask_65 rfl (fun H locs hH => ?_)
      refine lv_iload_n hx hb dX7_ask_68 rfl (lv_at hl 0 rfl) ?_
      exact x_retiw (φ := fun _ => True) (f := fun u : Int32 × Int32 × Int32 × (Nat → Int32) => u.1) (wf := fun u : Int32 × Int32 × Int32 × (Nat → Int32) => [(h0, xO 7 [.int v_laws, .ref g0, .ref g1, .int v_inForce, .int u.2.1, .int u.2.2.1, .long v_ring, .int v_size, .int v_people, .ref g2, .int v_seed, .int v_taped, .ref g3, .int v_from, .int v_to, .int v_token, .int v_value, .ref g4, .ref g5, .ref g6, .ref h1, .int v_imaged, .ref g7, .long v_oldRing, .ref g8, .long v_aheadRing, .ref g9]), (h1, xI X 7 u.2.2.2)]) hC hr hlk trivial hf hH rfl rfl dX7_ask_69
    · have hf := xt c8 hf
      refine lv_aload_n hx hb dX7_ask_55 rfl (lv_at hl 1 rfl) ?_
      refine lv_iload_n hx hb dX7_ask_56 rfl (lv_at hl 3 rfl) ?_
      refine x_put (ws' := [(h0, xO 7 [.int v_laws, .ref g0, .ref g1, .int v_inForce, .int p2, .int v_miss, .long v_ring, .int v_size, .int v_people, .ref g2, .int v_seed, .int v_taped, .ref g3, .int v_from, .int v_to, .int v_token, .int v_value, .ref g4, .ref g5, .ref g6, .ref h1, .int v_imaged, .ref g7, .long v_oldRing, .ref g8, .long v_aheadRing, .ref g9]), (h1, xI X 7 v_refusals)]) hC fd_RX7_45 hH 0 rfl (Nat.le_of_ble_eq_true rfl) rfl rfl dX7_ask_57 rfl (fun H locs hH => ?_)
      refine lv_goto (tgt := 68) hx hb dX7_ask_60 (by decide) ?_
      refine lv_iload_n hx hb dX7_ask_68 rfl (lv_at hl 0 rfl) ?_
      exact x_retiw (φ := fun _ => True) (f := fun u : Int32 × Int32 × Int32 × (Nat → Int32) => u.1) (wf := fun u : Int32 × Int32 × Int32 × (Nat → Int32) => [(h0, xO 7 [.int v_laws, .ref g0, .ref g1, .int v_inForce, .int u.2.1, .int u.2.2.1, .long v_ring, .int v_size, .int v_people, .ref g2, .int v_seed, .int v_taped, .ref g3, .int v_from, .int v_to, .int v_token, .int v_value, .ref g4, .ref g5, .ref g6, .ref h1, .int v_imaged, .ref g7, .long v_oldRing, .ref g8, .long v_aheadRing, .ref g9]), (h1, xI X 7 u.2.2.2)]) hC hr hlk trivial hf hH rfl rfl dX7_ask_69
  have J22 : ∀ (j22_s0 : Int32) (j22_s1 : Int32) (j22_s2 : Int32), f_X7_ask_J22 v_depth v_miss v_refusals p1 p2 j22_s0 j22_s1 j22_s2 = some u → ∀ (H : Heap) (locs : List Loc), xH X A [(h0, xO 7 [.int v_laws, .ref g0, .ref g1, .int v_inForce, .int v_depth, .int v_miss, .long v_ring, .int v_size, .int v_people, .ref g2, .int v_seed, .int v_taped, .ref g3, .int v_from, .int v_to, .int v_token, .int v_value, .ref g4, .ref g5, .ref g6, .ref h1, .int v_imaged, .ref g7, .long v_oldRing, .ref g8, .long v_aheadRing, .ref g9]), (h1, xI X 7 v_refusals)] s.heap H locs → ∀ (ls : Array Slot), lv_has ls 4 [(0, .ref h0), (1, .int p1), (2, .int p2)] → W p l e (xrm 1 22) s m args below meth c H locs 0 0 (MQ below (xQw True (.returned (some (.int u.1))) X [(h0, xO 7 [.int v_laws, .ref g0, .ref g1, .int v_inForce, .int u.2.1, .int u.2.2.1, .long v_ring, .int v_size, .int v_people, .ref g2, .int v_seed, .int v_taped, .ref g3, .int v_from, .int v_to, .int v_token, .int v_value, .ref g4, .ref g5, .ref g6, .ref h1, .int v_imaged, .ref g7, .long v_oldRing, .ref g8, .long v_aheadRing, .ref g9]), (h1, xI X 7 u.2.2.2)] A) args s 0 0 A) (F0 m 22 ls [.int j22_s2, .int j22_s1, .int j22_s0]) := by
    intro j22_s0 j22_s1 j22_s2 hf H locs hH ls hl
    obtain ⟨u5, hf5, hf⟩ := xb hf
    refine x_ran (x_runS (rest := []) (As := [.int j22_s0, .int j22_s1, .int j22_s2]) hC mw_140 md_X7_within (c_X7_within (X := X) hf5) hH [] rfl (by decide) hl.1 rfl rfl (Nat.le_of_ble_eq_true rfl) dX7_ask_22 ⟨Nat.le_of_ble_eq_true rfl, Nat.le_of_ble_eq_true rfl⟩ ⟨rfl, rfl⟩ ⟨Nat.le_refl _, Nat.le_refl _⟩) rfl (fun hz5 => ?_)
    refine lv_if_ne (tgt := 35) hx hb dX7_ask_25 (by decide) (fun c6 => ?_) (fun c6 => ?_)
    · have hf := xe c6 hf
      refine lv_iload_n hx hb dX7_ask_35 rfl (lv_at hl 1 rfl) ?_
      refine lv_if_ne (tgt := 46) hx hb dX7_ask_36 (by decide) (fun c7 => ?_) (fun c7 => ?_)
      · have hf := xe c7 hf
        refine lv_aload_n hx hb dX7_ask_46 rfl (lv_at hl 0 rfl) ?_
        refine x_get hC fd_RX7_105 hH.1 0 rfl rfl dX7_ask_47 ?_
        exact J50 v_miss hf _ _ hH ls (lv_sub hl [0, 1, 2] rfl)
      · have hf := xt c7 hf
        refine lv_aload_n hx hb dX7_ask_39 rfl (lv_at hl 0 rfl) ?_
        refine x_get hC fd_RX7_45 hH.1 0 rfl rfl dX7_ask_40 ?_
        refine lv_goto (tgt := 50) hx hb dX7_ask_43 (by decide) ?_
        exact J50 v_depth hf _ _ hH ls (lv_sub hl [0, 1, 2] rfl)
    · have hf := xt c6 hf
      refine lv_aload_n hx hb dX7_ask_28 rfl (lv_at hl 0 rfl) ?_
      refine lv_bipush (v := (-2 : Int32)) hx hb dX7_ask_29 (by decide) ?_
      obtain ⟨u9, hf9, hf⟩ := xb hf
      refine x_ranw (ws' := [(h0, xO 7 [.int v_laws, .ref g0, .ref g1, .int v_inForce, .int v_depth, .int v_miss, .long v_ring, .int v_size, .int v_people, .ref g2, .int v_seed, .int v_taped, .ref g3, .int v_from, .int v_to, .int v_token, .int v_value, .ref g4, .ref g5, .ref g6, .ref h1, .int v_imaged, .ref g7, .long v_oldRing, .ref g8, .long v_aheadRing, .ref g9]), (h1, xI X 7 u9.2)]) (x_runV (q0 := 0) (rest := []) (As := [.int (-2 : Int32)]) hC mw_143 md_X7_no (c_X7_no (X := X) hf9) hH [0, 1] rfl (by decide) rfl rfl rfl hl.1 rfl rfl (Nat.le_of_ble_eq_true rfl) dX7_ask_31 ⟨Nat.le_of_ble_eq_true rfl, Nat.le_of_ble_eq_true rfl⟩ ⟨rfl, rfl⟩ ⟨Nat.le_refl _, Nat.le_refl _⟩) hH [0, 1] rfl rfl rfl rfl rfl (fun hz9 H locs hH => ?_)
      exact x_retiw (φ := fun _ => True) (f := fun u : Int32 × Int32 × Int32 × (Nat → Int32) => u.1) (wf := fun u : Int32 × Int32 × Int32 × (Nat → Int32) => [(h0, xO 7 [.int v_laws, .ref g0, .ref g1, .int v_inForce, .int u.2.1, .int u.2.2.1, .long v_ring, .int v_size, .int v_people, .ref g2, .int v_seed, .int v_taped, .ref g3, .int v_from, .int v_to, .int v_token, .int v_value, .ref g4, .ref g5, .ref g6, .ref h1, .int v_imaged, .ref g7, .long v_oldRing, .ref g8, .long v_aheadRing, .ref g9]), (h1, xI X 7 u.2.2.2)]) hC hr hlk trivial hf hH rfl rfl dX7_ask_34
  refine lv_iload_n hx hb dX7_ask_0 rfl (lv_at hl 1 rfl) ?_
  refine lv_iconst (v := (nI 0)) hx hb dX7_ask_1 (by decide) ?_
  refine lv_iconst (v := (nI 1)) hx hb dX7_ask_2 (by decide) ?_
  obtain ⟨u1, hf1, hf⟩ := xb hf
  refine x_ran (x_runS (rest := []) (As := [.int p1, .int (nI 0), .int (nI 1)]) hC mw_140 md_X7_within (c_X7_within (X := X) hf1) hH [] rfl (by decide) hl.1 rfl rfl (Nat.le_of_ble_eq_true rfl) dX7_ask_3 ⟨Nat.le_of_ble_eq_true rfl, Nat.le_of_ble_eq_true rfl⟩ ⟨rfl, rfl⟩ ⟨Nat.le_refl _, Nat.le_refl _⟩) rfl (fun hz1 => ?_)
  refine lv_if_eq (tgt := 28) hx hb dX7_ask_6 (by decide) (fun c2 => ?_) (fun c2 => ?_)
  · have hf := xt c2 hf
    refine lv_aload_n hx hb dX7_ask_28 rfl (lv_at hl 0 rfl) ?_
    refine lv_bipush (v := (-2 : Int32)) hx hb dX7_ask_29 (by decide) ?_
    obtain ⟨u3, hf3, hf⟩ := xb hf
    refine x_ranw (ws' := [(h0, xO 7 [.int v_laws, .ref g0, .ref g1, .int v_inForce, .int v_depth, .int v_miss, .long v_ring, .int v_size, .int v_people, .ref g2, .int v_seed, .int v_taped, .ref g3, .int v_from, .int v_to, .int v_token, .int v_value, .ref g4, .ref g5, .ref g6, .ref h1, .int v_imaged, .ref g7, .long v_oldRing, .ref g8, .long v_aheadRing, .ref g9]), (h1, xI X 7 u3.2)]) (x_runV (q0 := 0) (rest := []) (As := [.int (-2 : Int32)]) hC mw_143 md_X7_no (c_X7_no (X := X) hf3) hH [0, 1] rfl (by decide) rfl rfl rfl hl.1 rfl rfl (Nat.le_of_ble_eq_true rfl) dX7_ask_31 ⟨Nat.le_of_ble_eq_true rfl, Nat.le_of_ble_eq_true rfl⟩ ⟨rfl, rfl⟩ ⟨Nat.le_refl _, Nat.le_refl _⟩) hH [0, 1] rfl rfl rfl rfl rfl (fun hz3 H locs hH => ?_)
    exact x_retiw (φ := fun _ => True) (f := fun u : Int32 × Int32 × Int32 × (Nat → Int32) => u.1) (wf := fun u : Int32 × Int32 × Int32 × (Nat → Int32) => [(h0, xO 7 [.int v_laws, .ref g0, .ref g1, .int v_inForce, .int u.2.1, .int u.2.2.1, .long v_ring, .int v_size, .int v_people, .ref g2, .int v_seed, .int v_taped, .ref g3, .int v_from, .int v_to, .int v_token, .int v_value, .ref g4, .ref g5, .ref g6, .ref h1, .int v_imaged, .ref g7, .long v_oldRing, .ref g8, .long v_aheadRing, .ref g9]), (h1, xI X 7 u.2.2.2)]) hC hr hlk trivial hf hH rfl rfl dX7_ask_34
  · have hf := xe c2 hf
    refine lv_iload_n hx hb dX7_ask_9 rfl (lv_at hl 2 rfl) ?_
    refine lv_iconst (v := (nI 0)) hx hb dX7_ask_10 (by decide) ?_
    refine lv_iload_n hx hb dX7_ask_11 rfl (lv_at hl 1 rfl) ?_
    refine lv_if_ne (tgt := 20) hx hb dX7_ask_12 (by decide) (fun c4 => ?_) (fun c4 => ?_)
    · have hf := xe c4 hf
      refine lv_bipush (v := (nI 100)) hx hb dX7_ask_20 (by decide) ?_
      exact J22 p2 (nI 0) (nI 100) hf _ _ hH ls (lv_sub hl [0, 1, 2] rfl)
    · have hf := xt c4 hf
      refine lv_bipush (v := (nI 9)) hx hb dX7_ask_15 (by decide) ?_
      refine lv_goto (tgt := 22) hx hb dX7_ask_17 (by decide) ?_
      exact J22 p2 (nI 0) (nI 9) hf _ _ hH ls (lv_sub hl [0, 1, 2] rfl)
def f_X7_newOne (v_people : Int32) (v_ages : (Nat → Int32)) (p1 : Int32) : Option (Int32 × Int32 × (Nat → Int32)) :=
  if xout v_people 10 then none else
  some (v_people, v_people + (nI 1), upd v_ages (xat v_people) p1)
set_option maxHeartbeats 4000000 in
set_option maxRecDepth 100000 in
theorem c_X7_newOne {l : Launch} {X : xG} {h0 h1 g0 g1 g2 g3 g4 g5 g6 g7 g8 g9 : Nat} {v_laws : Int32} {v_inForce : Int32} {v_depth : Int32} {v_miss : Int32} {v_ring : Int64} {v_size : Int32} {v_people : Int32} {v_seed : Int32} {v_taped : Int32} {v_from : Int32} {v_to : Int32} {v_token : Int32} {v_value : Int32} {v_imaged : Int32} {v_oldRing : Int64} {v_aheadRing : Int64} {v_ages : (Nat → Int32)} {p1 : Int32} {u : Int32 × Int32 × (Nat → Int32)} (hf : f_X7_newOne v_people v_ages p1 = some u) : Met l yX7_newOne (xw yX7_newOne cX7_newOne 2 (some .int)) (xrm 0 0) (xPc [.ref h0, .int p1] X [(h0, xO 7 [.int v_laws, .ref g0, .ref g1, .int v_inForce, .int v_depth, .int v_miss, .long v_ring, .int v_size, .int v_people, .ref h1, .int v_seed, .int v_taped, .ref g2, .int v_from, .int v_to, .int v_token, .int v_value, .ref g3, .ref g4, .ref g5, .ref g6, .int v_imaged, .ref g7, .long v_oldRing, .ref g8, .long v_aheadRing, .ref g9]), (h1, xI X 10 v_ages)]) (xQw True (.returned (some (.int u.1))) X [(h0, xO 7 [.int v_laws, .ref g0, .ref g1, .int v_inForce, .int v_depth, .int v_miss, .long v_ring, .int v_size, .int u.2.1, .ref h1, .int v_seed, .int v_taped, .ref g2, .int v_from, .int v_to, .int v_token, .int v_value, .ref g3, .ref g4, .ref g5, .ref g6, .int v_imaged, .ref g7, .long v_oldRing, .ref g8, .long v_aheadRing, .ref g9]), (h1, xI X 10 u.2.2)] (xAs [(h0, xO 7 [.int v_laws, .ref g0, .ref g1, .int v_inForce, .int v_depth, .int v_miss, .long v_ring, .int v_size, .int v_people, .ref h1, .int v_seed, .int v_taped, .ref g2, .int v_from, .int v_to, .int v_token, .int v_value, .ref g3, .ref g4, .ref g5, .ref g6, .int v_imaged, .ref g7, .long v_oldRing, .ref g8, .long v_aheadRing, .ref g9]), (h1, xI X 10 v_ages)])) 0 0 (xAs [(h0, xO 7 [.int v_laws, .ref g0, .ref g1, .int v_inForce, .int v_depth, .int v_miss, .long v_ring, .int v_size, .int v_people, .ref h1, .int v_seed, .int v_taped, .ref g2, .int v_from, .int v_to, .int v_token, .int v_value, .ref g3, .ref g4, .ref g5, .ref g6, .int v_imaged, .ref g7, .long v_oldRing, .ref g8, .long v_aheadRing, .ref g9]), (h1, xI X 10 v_ages)]) := by
  refine xMetw (Qc := fun A => xQw True (.returned (some (.int u.1))) X [(h0, xO 7 [.int v_laws, .ref g0, .ref g1, .int v_inForce, .int v_depth, .int v_miss, .long v_ring, .int v_size, .int u.2.1, .ref h1, .int v_seed, .int v_taped, .ref g2, .int v_from, .int v_to, .int v_token, .int v_value, .ref g3, .ref g4, .ref g5, .ref g6, .int v_imaged, .ref g7, .long v_oldRing, .ref g8, .long v_aheadRing, .ref g9]), (h1, xI X 10 u.2.2)] A) (n := 1) md_X7_newOne.1 (Nat.le_of_ble_eq_true rfl) ?_
  intro p e s m args below meth c ls A hC hr hlk hH hl
  have hl : lv_has ls 2 [(0, .ref h0), (1, .int p1)] := hl
  have hx := hC.1
  have hb := hC.2.1
  refine lv_aload_n hx hb dX7_newOne_0 rfl (lv_at hl 0 rfl) ?_
  refine x_get hC fd_RX7_16 hH.1 0 rfl rfl dX7_newOne_1 ?_
  refine lv_aload_n hx hb dX7_newOne_4 rfl (lv_at hl 0 rfl) ?_
  refine x_get hC fd_RX7_59 hH.1 0 rfl rfl dX7_newOne_5 ?_
  refine lv_iload_n hx hb dX7_newOne_8 rfl (lv_at hl 1 rfl) ?_
  obtain ⟨n1, hf⟩ := xok hf
  refine x_iast (ws' := [(h0, xO 7 [.int v_laws, .ref g0, .ref g1, .int v_inForce, .int v_depth, .int v_miss, .long v_ring, .int v_size, .int v_people, .ref h1, .int v_seed, .int v_taped, .ref g2, .int v_from, .int v_to, .int v_token, .int v_value, .ref g3, .ref g4, .ref g5, .ref g6, .int v_imaged, .ref g7, .long v_oldRing, .ref g8, .long v_aheadRing, .ref g9]), (h1, xI X 10 (upd v_ages (xat v_people) p1))]) hC hH 1 rfl n1 dX7_newOne_9 rfl (fun H locs hH => ?_)
  refine lv_aload_n hx hb dX7_newOne_10 rfl (lv_at hl 0 rfl) ?_
  refine lv_dup hx hb dX7_newOne_11 rfl ?_
  refine x_get hC fd_RX7_59 hH.1 0 rfl rfl dX7_newOne_12 ?_
  refine lv_dup_x1 hx hb dX7_newOne_15 rfl rfl ?_
  refine lv_iconst (v := (nI 1)) hx hb dX7_newOne_16 (by decide) ?_
  refine lv_iadd hx hb dX7_newOne_17 ?_
  refine x_put (ws' := [(h0, xO 7 [.int v_laws, .ref g0, .ref g1, .int v_inForce, .int v_depth, .int v_miss, .long v_ring, .int v_size, .int (v_people + (nI 1)), .ref h1, .int v_seed, .int v_taped, .ref g2, .int v_from, .int v_to, .int v_token, .int v_value, .ref g3, .ref g4, .ref g5, .ref g6, .int v_imaged, .ref g7, .long v_oldRing, .ref g8, .long v_aheadRing, .ref g9]), (h1, xI X 10 (upd v_ages (xat v_people) p1))]) hC fd_RX7_59 hH 0 rfl (Nat.le_of_ble_eq_true rfl) rfl rfl dX7_newOne_18 rfl (fun H locs hH => ?_)
  exact x_retiw (φ := fun _ => True) (f := fun u : Int32 × Int32 × (Nat → Int32) => u.1) (wf := fun u : Int32 × Int32 × (Nat → Int32) => [(h0, xO 7 [.int v_laws, .ref g0, .ref g1, .int v_inForce, .int v_depth, .int v_miss, .long v_ring, .int v_size, .int u.2.1, .ref h1, .int v_seed, .int v_taped, .ref g2, .int v_from, .int v_to, .int v_token, .int v_value, .ref g3, .ref g4, .ref g5, .ref g6, .int v_imaged, .ref g7, .long v_oldRing, .ref g8, .long v_aheadRing, .ref g9]), (h1, xI X 10 u.2.2)]) hC hr hlk trivial hf hH rfl rfl dX7_newOne_21
def f_X7_person (v_people : Int32) (v_ages : (Nat → Int32)) (v_refusals : (Nat → Int32)) (p1 : Int32) : Option (Int32 × Int32 × (Nat → Int32) × (Nat → Int32)) :=
  (f_X7_within p1 (nI 1) (nI 99)).bind fun u1 =>
  if u1 = (nI 0) then
    (f_X7_no v_refusals (-2 : Int32)).bind fun u6 =>
    some (u6.1, v_people, v_ages, u6.2)
  else
  if v_people = (nI 10) then
    (f_X7_no v_refusals (-6 : Int32)).bind fun u5 =>
    some (u5.1, v_people, v_ages, u5.2)
  else
  (f_X7_newOne v_people v_ages p1).bind fun u4 =>
  some (u4.1, u4.2.1, u4.2.2, v_refusals)
set_option maxHeartbeats 4000000 in
set_option maxRecDepth 100000 in
theorem c_X7_person {l : Launch} {X : xG} {h0 h1 h2 g0 g1 g2 g3 g4 g5 g6 g7 g8 : Nat} {v_laws : Int32} {v_inForce : Int32} {v_depth : Int32} {v_miss : Int32} {v_ring : Int64} {v_size : Int32} {v_people : Int32} {v_seed : Int32} {v_taped : Int32} {v_from : Int32} {v_to : Int32} {v_token : Int32} {v_value : Int32} {v_imaged : Int32} {v_oldRing : Int64} {v_aheadRing : Int64} {v_ages : (Nat → Int32)} {v_refusals : (Nat → Int32)} {p1 : Int32} {u : Int32 × Int32 × (Nat → Int32) × (Nat → Int32)} (hf : f_X7_person v_people v_ages v_refusals p1 = some u) : Met l yX7_person (xw yX7_person cX7_person 2 (some .int)) (xrm 1 22) (xPc [.ref h0, .int p1] X [(h0, xO 7 [.int v_laws, .ref g0, .ref g1, .int v_inForce, .int v_depth, .int v_miss, .long v_ring, .int v_size, .int v_people, .ref h1, .int v_seed, .int v_taped, .ref g2, .int v_from, .int v_to, .int v_token, .int v_value, .ref g3, .ref g4, .ref g5, .ref h2, .int v_imaged, .ref g6, .long v_oldRing, .ref g7, .long v_aheadRing, .ref g8]), (h1, xI X 10 v_ages), (h2, xI X 7 v_refusals)]) (xQw True (.returned (some (.int u.1))) X [(h0, xO 7 [.int v_laws, .ref g0, .ref g1, .int v_inForce, .int v_depth, .int v_miss, .long v_ring, .int v_size, .int u.2.1, .ref h1, .int v_seed, .int v_taped, .ref g2, .int v_from, .int v_to, .int v_token, .int v_value, .ref g3, .ref g4, .ref g5, .ref h2, .int v_imaged, .ref g6, .long v_oldRing, .ref g7, .long v_aheadRing, .ref g8]), (h1, xI X 10 u.2.2.1), (h2, xI X 7 u.2.2.2)] (xAs [(h0, xO 7 [.int v_laws, .ref g0, .ref g1, .int v_inForce, .int v_depth, .int v_miss, .long v_ring, .int v_size, .int v_people, .ref h1, .int v_seed, .int v_taped, .ref g2, .int v_from, .int v_to, .int v_token, .int v_value, .ref g3, .ref g4, .ref g5, .ref h2, .int v_imaged, .ref g6, .long v_oldRing, .ref g7, .long v_aheadRing, .ref g8]), (h1, xI X 10 v_ages), (h2, xI X 7 v_refusals)])) 0 0 (xAs [(h0, xO 7 [.int v_laws, .ref g0, .ref g1, .int v_inForce, .int v_depth, .int v_miss, .long v_ring, .int v_size, .int v_people, .ref h1, .int v_seed, .int v_taped, .ref g2, .int v_from, .int v_to, .int v_token, .int v_value, .ref g3, .ref g4, .ref g5, .ref h2, .int v_imaged, .ref g6, .long v_oldRing, .ref g7, .long v_aheadRing, .ref g8]), (h1, xI X 10 v_ages), (h2, xI X 7 v_refusals)]) := by
  refine xMetw (Qc := fun A => xQw True (.returned (some (.int u.1))) X [(h0, xO 7 [.int v_laws, .ref g0, .ref g1, .int v_inForce, .int v_depth, .int v_miss, .long v_ring, .int v_size, .int u.2.1, .ref h1, .int v_seed, .int v_taped, .ref g2, .int v_from, .int v_to, .int v_token, .int v_value, .ref g3, .ref g4, .ref g5, .ref h2, .int v_imaged, .ref g6, .long v_oldRing, .ref g7, .long v_aheadRing, .ref g8]), (h1, xI X 10 u.2.2.1), (h2, xI X 7 u.2.2.2)] A) (n := 1) md_X7_person.1 (Nat.le_of_ble_eq_true rfl) ?_
  intro p e s m args below meth c ls A hC hr hlk hH hl
  have hl : lv_has ls 2 [(0, .ref h0), (1, .int p1)] := hl
  have hx := hC.1
  have hb := hC.2.1
  refine lv_iload_n hx hb dX7_person_0 rfl (lv_at hl 1 rfl) ?_
  refine lv_iconst (v := (nI 1)) hx hb dX7_person_1 (by decide) ?_
  refine lv_bipush (v := (nI 99)) hx hb dX7_person_2 (by decide) ?_
  obtain ⟨u1, hf1, hf⟩ := xb hf
  refine x_ran (x_runS (rest := []) (As := [.int p1, .int (nI 1), .int (nI 99)]) hC mw_140 md_X7_within (c_X7_within (X := X) hf1) hH [] rfl (by decide) hl.1 rfl rfl (Nat.le_of_ble_eq_true rfl) dX7_person_4 ⟨Nat.le_of_ble_eq_true rfl, Nat.le_of_ble_eq_true rfl⟩ ⟨rfl, rfl⟩ ⟨Nat.le_refl _, Nat.le_refl _⟩) rfl (fun hz1 => ?_)
  refine lv_if_ne (tgt := 17) hx hb dX7_person_7 (by decide) (fun c2 => ?_) (fun c2 => ?_)
  · have hf := xe c2 hf
    refine lv_aload_n hx hb dX7_person_17 rfl (lv_at hl 0 rfl) ?_
    refine x_get hC fd_RX7_59 hH.1 0 rfl rfl dX7_person_18 ?_
    refine lv_bipush (v := (nI 10)) hx hb dX7_person_21 (by decide) ?_
    refine lv_icmp_ne (tgt := 35) hx hb dX7_person_23 (by decide) (fun c3 => ?_) (fun c3 => ?_)
    · have hf := xe c3 hf
      refine lv_aload_n hx hb dX7_person_35 rfl (lv_at hl 0 rfl) ?_
      refine lv_iload_n hx hb dX7_person_36 rfl (lv_at hl 1 rfl) ?_
      obtain ⟨u4, hf4, hf⟩ := xb hf
      refine x_ranw (ws' := [(h0, xO 7 [.int v_laws, .ref g0, .ref g1, .int v_inForce, .int v_depth, .int v_miss, .long v_ring, .int v_size, .int u4.2.1, .ref h1, .int v_seed, .int v_taped, .ref g2, .int v_from, .int v_to, .int v_token, .int v_value, .ref g3, .ref g4, .ref g5, .ref h2, .int v_imaged, .ref g6, .long v_oldRing, .ref g7, .long v_aheadRing, .ref g8]), (h1, xI X 10 u4.2.2), (h2, xI X 7 v_refusals)]) (x_runV (q0 := 0) (rest := []) (As := [.int p1]) hC mw_407 md_X7_newOne (c_X7_newOne (X := X) hf4) hH [0, 1] rfl (by decide) rfl rfl rfl hl.1 rfl rfl (Nat.le_of_ble_eq_true rfl) dX7_person_37 ⟨Nat.le_of_ble_eq_true rfl, Nat.le_of_ble_eq_true rfl⟩ ⟨rfl, rfl⟩ ⟨Nat.le_refl _, Nat.le_refl _⟩) hH [0, 1] rfl rfl rfl rfl rfl (fun hz4 H locs hH => ?_)
      exact x_retiw (φ := fun _ => True) (f := fun u : Int32 × Int32 × (Nat → Int32) × (Nat → Int32) => u.1) (wf := fun u : Int32 × Int32 × (Nat → Int32) × (Nat → Int32) => [(h0, xO 7 [.int v_laws, .ref g0, .ref g1, .int v_inForce, .int v_depth, .int v_miss, .long v_ring, .int v_size, .int u.2.1, .ref h1, .int v_seed, .int v_taped, .ref g2, .int v_from, .int v_to, .int v_token, .int v_value, .ref g3, .ref g4, .ref g5, .ref h2, .int v_imaged, .ref g6, .long v_oldRing, .ref g7, .long v_aheadRing, .ref g8]), (h1, xI X 10 u.2.2.1), (h2, xI X 7 u.2.2.2)]) hC hr hlk trivial hf hH rfl rfl dX7_person_40
    · have hf := xt c3 hf
      refine lv_aload_n hx hb dX7_person_26 rfl (lv_at hl 0 rfl) ?_
      refine lv_bipush (v := (-6 : Int32)) hx hb dX7_person_27 (by decide) ?_
      obtain ⟨u5, hf5, hf⟩ := xb hf
      refine x_ranw (ws' := [(h0, xO 7 [.int v_laws, .ref g0, .ref g1, .int v_inForce, .int v_depth, .int v_miss, .long v_ring, .int v_size, .int v_people, .ref h1, .int v_seed, .int v_taped, .ref g2, .int v_from, .int v_to, .int v_token, .int v_value, .ref g3, .ref g4, .ref g5, .ref h2, .int v_imaged, .ref g6, .long v_oldRing, .ref g7, .long v_aheadRing, .ref g8]), (h1, xI X 10 v_ages), (h2, xI X 7 u5.2)]) (x_runV (q0 := 0) (rest := []) (As := [.int (-6 : Int32)]) hC mw_143 md_X7_no (c_X7_no (X := X) hf5) hH [0, 2] rfl (by decide) rfl rfl rfl hl.1 rfl rfl (Nat.le_of_ble_eq_true rfl) dX7_person_29 ⟨Nat.le_of_ble_eq_true rfl, Nat.le_of_ble_eq_true rfl⟩ ⟨rfl, rfl⟩ ⟨Nat.le_refl _, Nat.le_refl _⟩) hH [0, 2] rfl rfl rfl rfl rfl (fun hz5 H locs hH => ?_)
      refine lv_goto (tgt := 40) hx hb dX7_person_32 (by decide) ?_
      exact x_retiw (φ := fun _ => True) (f := fun u : Int32 × Int32 × (Nat → Int32) × (Nat → Int32) => u.1) (wf := fun u : Int32 × Int32 × (Nat → Int32) × (Nat → Int32) => [(h0, xO 7 [.int v_laws, .ref g0, .ref g1, .int v_inForce, .int v_depth, .int v_miss, .long v_ring, .int v_size, .int u.2.1, .ref h1, .int v_seed, .int v_taped, .ref g2, .int v_from, .int v_to, .int v_token, .int v_value, .ref g3, .ref g4, .ref g5, .ref h2, .int v_imaged, .ref g6, .long v_oldRing, .ref g7, .long v_aheadRing, .ref g8]), (h1, xI X 10 u.2.2.1), (h2, xI X 7 u.2.2.2)]) hC hr hlk trivial hf hH rfl rfl dX7_person_40
  · have hf := xt c2 hf
    refine lv_aload_n hx hb dX7_person_10 rfl (lv_at hl 0 rfl) ?_
    refine lv_bipush (v := (-2 : Int32)) hx hb dX7_person_11 (by decide) ?_
    obtain ⟨u6, hf6, hf⟩ := xb hf
    refine x_ranw (ws' := [(h0, xO 7 [.int v_laws, .ref g0, .ref g1, .int v_inForce, .int v_depth, .int v_miss, .long v_ring, .int v_size, .int v_people, .ref h1, .int v_seed, .int v_taped, .ref g2, .int v_from, .int v_to, .int v_token, .int v_value, .ref g3, .ref g4, .ref g5, .ref h2, .int v_imaged, .ref g6, .long v_oldRing, .ref g7, .long v_aheadRing, .ref g8]), (h1, xI X 10 v_ages), (h2, xI X 7 u6.2)]) (x_runV (q0 := 0) (rest := []) (As := [.int (-2 : Int32)]) hC mw_143 md_X7_no (c_X7_no (X := X) hf6) hH [0, 2] rfl (by decide) rfl rfl rfl hl.1 rfl rfl (Nat.le_of_ble_eq_true rfl) dX7_person_13 ⟨Nat.le_of_ble_eq_true rfl, Nat.le_of_ble_eq_true rfl⟩ ⟨rfl, rfl⟩ ⟨Nat.le_refl _, Nat.le_refl _⟩) hH [0, 2] rfl rfl rfl rfl rfl (fun hz6 H locs hH => ?_)
    exact x_retiw (φ := fun _ => True) (f := fun u : Int32 × Int32 × (Nat → Int32) × (Nat → Int32) => u.1) (wf := fun u : Int32 × Int32 × (Nat → Int32) × (Nat → Int32) => [(h0, xO 7 [.int v_laws, .ref g0, .ref g1, .int v_inForce, .int v_depth, .int v_miss, .long v_ring, .int v_size, .int u.2.1, .ref h1, .int v_seed, .int v_taped, .ref g2, .int v_from, .int v_to, .int v_token, .int v_value, .ref g3, .ref g4, .ref g5, .ref h2, .int v_imaged, .ref g6, .long v_oldRing, .ref g7, .long v_aheadRing, .ref g8]), (h1, xI X 10 u.2.2.1), (h2, xI X 7 u.2.2.2)]) hC hr hlk trivial hf hH rfl rfl dX7_person_16
def f_X7_adds (v_ring : Int64) (v_size : Int32) (p1 : Int32) : Option (Int64 × Int32) :=
  if p1 = (nI 0) then
    some (v_ring, v_size + (nI 1))
  else
  some (v_ring ||| (xlshl (lN 1) v_size), v_size + (nI 1))
set_option maxHeartbeats 4000000 in
set_option maxRecDepth 100000 in
theorem c_X7_adds {l : Launch} {X : xG} {h0 g0 g1 g2 g3 g4 g5 g6 g7 g8 g9 g10 : Nat} {v_laws : Int32} {v_inForce : Int32} {v_depth : Int32} {v_miss : Int32} {v_ring : Int64} {v_size : Int32} {v_people : Int32} {v_seed : Int32} {v_taped : Int32} {v_from : Int32} {v_to : Int32} {v_token : Int32} {v_value : Int32} {v_imaged : Int32} {v_oldRing : Int64} {v_aheadRing : Int64} {p1 : Int32} {u : Int64 × Int32} (hf : f_X7_adds v_ring v_size p1 = some u) : Met l yX7_adds (xw yX7_adds cX7_adds 2 none) (xrm 0 0) (xPc [.ref h0, .int p1] X [(h0, xO 7 [.int v_laws, .ref g0, .ref g1, .int v_inForce, .int v_depth, .int v_miss, .long v_ring, .int v_size, .int v_people, .ref g2, .int v_seed, .int v_taped, .ref g3, .int v_from, .int v_to, .int v_token, .int v_value, .ref g4, .ref g5, .ref g6, .ref g7, .int v_imaged, .ref g8, .long v_oldRing, .ref g9, .long v_aheadRing, .ref g10])]) (xQw True (.returned none) X [(h0, xO 7 [.int v_laws, .ref g0, .ref g1, .int v_inForce, .int v_depth, .int v_miss, .long u.1, .int u.2, .int v_people, .ref g2, .int v_seed, .int v_taped, .ref g3, .int v_from, .int v_to, .int v_token, .int v_value, .ref g4, .ref g5, .ref g6, .ref g7, .int v_imaged, .ref g8, .long v_oldRing, .ref g9, .long v_aheadRing, .ref g10])] (xAs [(h0, xO 7 [.int v_laws, .ref g0, .ref g1, .int v_inForce, .int v_depth, .int v_miss, .long v_ring, .int v_size, .int v_people, .ref g2, .int v_seed, .int v_taped, .ref g3, .int v_from, .int v_to, .int v_token, .int v_value, .ref g4, .ref g5, .ref g6, .ref g7, .int v_imaged, .ref g8, .long v_oldRing, .ref g9, .long v_aheadRing, .ref g10])])) 0 0 (xAs [(h0, xO 7 [.int v_laws, .ref g0, .ref g1, .int v_inForce, .int v_depth, .int v_miss, .long v_ring, .int v_size, .int v_people, .ref g2, .int v_seed, .int v_taped, .ref g3, .int v_from, .int v_to, .int v_token, .int v_value, .ref g4, .ref g5, .ref g6, .ref g7, .int v_imaged, .ref g8, .long v_oldRing, .ref g9, .long v_aheadRing, .ref g10])]) := by
  refine xMetw (Qc := fun A => xQw True (.returned none) X [(h0, xO 7 [.int v_laws, .ref g0, .ref g1, .int v_inForce, .int v_depth, .int v_miss, .long u.1, .int u.2, .int v_people, .ref g2, .int v_seed, .int v_taped, .ref g3, .int v_from, .int v_to, .int v_token, .int v_value, .ref g4, .ref g5, .ref g6, .ref g7, .int v_imaged, .ref g8, .long v_oldRing, .ref g9, .long v_aheadRing, .ref g10])] A) (n := 1) md_X7_adds.1 (Nat.le_of_ble_eq_true rfl) ?_
  intro p e s m args below meth c ls A hC hr hlk hH hl
  have hl : lv_has ls 2 [(0, .ref h0), (1, .int p1)] := hl
  have hx := hC.1
  have hb := hC.2.1
  refine lv_iload_n hx hb dX7_adds_0 rfl (lv_at hl 1 rfl) ?_
  refine lv_if_eq (tgt := 19) hx hb dX7_adds_1 (by decide) (fun c1 => ?_) (fun c1 => ?_)
  · have hf := xt c1 hf
    refine lv_aload_n hx hb dX7_adds_19 rfl (lv_at hl 0 rfl) ?_
    refine lv_dup hx hb dX7_adds_20 rfl ?_
    refine x_get hC fd_RX7_62 hH.1 0 rfl rfl dX7_adds_21 ?_
    refine lv_iconst (v := (nI 1)) hx hb dX7_adds_24 (by decide) ?_
    refine lv_iadd hx hb dX7_adds_25 ?_
    refine x_put (ws' := [(h0, xO 7 [.int v_laws, .ref g0, .ref g1, .int v_inForce, .int v_depth, .int v_miss, .long v_ring, .int (v_size + (nI 1)), .int v_people, .ref g2, .int v_seed, .int v_taped, .ref g3, .int v_from, .int v_to, .int v_token, .int v_value, .ref g4, .ref g5, .ref g6, .ref g7, .int v_imaged, .ref g8, .long v_oldRing, .ref g9, .long v_aheadRing, .ref g10])]) hC fd_RX7_62 hH 0 rfl (Nat.le_of_ble_eq_true rfl) rfl rfl dX7_adds_26 rfl (fun H locs hH => ?_)
    exact x_retvw (φ := fun _ => True) (wf := fun u : Int64 × Int32 => [(h0, xO 7 [.int v_laws, .ref g0, .ref g1, .int v_inForce, .int v_depth, .int v_miss, .long u.1, .int u.2, .int v_people, .ref g2, .int v_seed, .int v_taped, .ref g3, .int v_from, .int v_to, .int v_token, .int v_value, .ref g4, .ref g5, .ref g6, .ref g7, .int v_imaged, .ref g8, .long v_oldRing, .ref g9, .long v_aheadRing, .ref g10])]) hC hr hlk trivial hf hH rfl dX7_adds_29
  · have hf := xe c1 hf
    refine lv_aload_n hx hb dX7_adds_4 rfl (lv_at hl 0 rfl) ?_
    refine lv_dup hx hb dX7_adds_5 rfl ?_
    refine x_get hC fd_RX7_90 hH.1 0 rfl rfl dX7_adds_6 ?_
    refine lv_lconst (v := (lN 1)) hx hb dX7_adds_9 (by decide) ?_
    refine lv_aload_n hx hb dX7_adds_10 rfl (lv_at hl 0 rfl) ?_
    refine x_get hC fd_RX7_62 hH.1 0 rfl rfl dX7_adds_11 ?_
    refine x_lshl hx hb dX7_adds_14 ?_
    refine lv_lor hx hb dX7_adds_15 ?_
    refine x_put (ws' := [(h0, xO 7 [.int v_laws, .ref g0, .ref g1, .int v_inForce, .int v_depth, .int v_miss, .long (v_ring ||| (xlshl (lN 1) v_size)), .int v_size, .int v_people, .ref g2, .int v_seed, .int v_taped, .ref g3, .int v_from, .int v_to, .int v_token, .int v_value, .ref g4, .ref g5, .ref g6, .ref g7, .int v_imaged, .ref g8, .long v_oldRing, .ref g9, .long v_aheadRing, .ref g10])]) hC fd_RX7_90 hH 0 rfl (Nat.le_of_ble_eq_true rfl) rfl rfl dX7_adds_16 rfl (fun H locs hH => ?_)
    refine lv_aload_n hx hb dX7_adds_19 rfl (lv_at hl 0 rfl) ?_
    refine lv_dup hx hb dX7_adds_20 rfl ?_
    refine x_get hC fd_RX7_62 hH.1 0 rfl rfl dX7_adds_21 ?_
    refine lv_iconst (v := (nI 1)) hx hb dX7_adds_24 (by decide) ?_
    refine lv_iadd hx hb dX7_adds_25 ?_
    refine x_put (ws' := [(h0, xO 7 [.int v_laws, .ref g0, .ref g1, .int v_inForce, .int v_depth, .int v_miss, .long (v_ring ||| (xlshl (lN 1) v_size)), .int (v_size + (nI 1)), .int v_people, .ref g2, .int v_seed, .int v_taped, .ref g3, .int v_from, .int v_to, .int v_token, .int v_value, .ref g4, .ref g5, .ref g6, .ref g7, .int v_imaged, .ref g8, .long v_oldRing, .ref g9, .long v_aheadRing, .ref g10])]) hC fd_RX7_62 hH 0 rfl (Nat.le_of_ble_eq_true rfl) rfl rfl dX7_adds_26 rfl (fun H locs hH => ?_)
    exact x_retvw (φ := fun _ => True) (wf := fun u : Int64 × Int32 => [(h0, xO 7 [.int v_laws, .ref g0, .ref g1, .int v_inForce, .int v_depth, .int v_miss, .long u.1, .int u.2, .int v_people, .ref g2, .int v_seed, .int v_taped, .ref g3, .int v_from, .int v_to, .int v_token, .int v_value, .ref g4, .ref g5, .ref g6, .ref g7, .int v_imaged, .ref g8, .long v_oldRing, .ref g9, .long v_aheadRing, .ref g10])]) hC hr hlk trivial hf hH rfl dX7_adds_29
def f_X7_feed (v_taped : Int32) (v_refusals : (Nat → Int32)) (v_tape : (Nat → Int32)) (p1 : Int32) : Option (Int32 × Int32 × (Nat → Int32) × (Nat → Int32)) :=
  (f_X7_within p1 (nI 0) (nI 255)).bind fun u1 =>
  if u1 = (nI 0) then
    (f_X7_no v_refusals (-2 : Int32)).bind fun u6 =>
    some (u6.1, v_taped, u6.2, v_tape)
  else
  if v_taped = (nI 250) then
    (f_X7_no v_refusals (-6 : Int32)).bind fun u5 =>
    some (u5.1, v_taped, u5.2, v_tape)
  else
  if xout v_taped 250 then none else
  some (v_taped + (nI 1), v_taped + (nI 1), v_refusals, upd v_tape (xat v_taped) p1)
set_option maxHeartbeats 4000000 in
set_option maxRecDepth 100000 in
theorem c_X7_feed {l : Launch} {X : xG} {h0 h1 h2 g0 g1 g2 g3 g4 g5 g6 g7 g8 : Nat} {v_laws : Int32} {v_inForce : Int32} {v_depth : Int32} {v_miss : Int32} {v_ring : Int64} {v_size : Int32} {v_people : Int32} {v_seed : Int32} {v_taped : Int32} {v_from : Int32} {v_to : Int32} {v_token : Int32} {v_value : Int32} {v_imaged : Int32} {v_oldRing : Int64} {v_aheadRing : Int64} {v_refusals : (Nat → Int32)} {v_tape : (Nat → Int32)} {p1 : Int32} {u : Int32 × Int32 × (Nat → Int32) × (Nat → Int32)} (hf : f_X7_feed v_taped v_refusals v_tape p1 = some u) : Met l yX7_feed (xw yX7_feed cX7_feed 2 (some .int)) (xrm 1 22) (xPc [.ref h0, .int p1] X [(h0, xO 7 [.int v_laws, .ref g0, .ref g1, .int v_inForce, .int v_depth, .int v_miss, .long v_ring, .int v_size, .int v_people, .ref g2, .int v_seed, .int v_taped, .ref h2, .int v_from, .int v_to, .int v_token, .int v_value, .ref g3, .ref g4, .ref g5, .ref h1, .int v_imaged, .ref g6, .long v_oldRing, .ref g7, .long v_aheadRing, .ref g8]), (h1, xI X 7 v_refusals), (h2, xI X 250 v_tape)]) (xQw True (.returned (some (.int u.1))) X [(h0, xO 7 [.int v_laws, .ref g0, .ref g1, .int v_inForce, .int v_depth, .int v_miss, .long v_ring, .int v_size, .int v_people, .ref g2, .int v_seed, .int u.2.1, .ref h2, .int v_from, .int v_to, .int v_token, .int v_value, .ref g3, .ref g4, .ref g5, .ref h1, .int v_imaged, .ref g6, .long v_oldRing, .ref g7, .long v_aheadRing, .ref g8]), (h1, xI X 7 u.2.2.1), (h2, xI X 250 u.2.2.2)] (xAs [(h0, xO 7 [.int v_laws, .ref g0, .ref g1, .int v_inForce, .int v_depth, .int v_miss, .long v_ring, .int v_size, .int v_people, .ref g2, .int v_seed, .int v_taped, .ref h2, .int v_from, .int v_to, .int v_token, .int v_value, .ref g3, .ref g4, .ref g5, .ref h1, .int v_imaged, .ref g6, .long v_oldRing, .ref g7, .long v_aheadRing, .ref g8]), (h1, xI X 7 v_refusals), (h2, xI X 250 v_tape)])) 0 0 (xAs [(h0, xO 7 [.int v_laws, .ref g0, .ref g1, .int v_inForce, .int v_depth, .int v_miss, .long v_ring, .int v_size, .int v_people, .ref g2, .int v_seed, .int v_taped, .ref h2, .int v_from, .int v_to, .int v_token, .int v_value, .ref g3, .ref g4, .ref g5, .ref h1, .int v_imaged, .ref g6, .long v_oldRing, .ref g7, .long v_aheadRing, .ref g8]), (h1, xI X 7 v_refusals), (h2, xI X 250 v_tape)]) := by
  refine xMetw (Qc := fun A => xQw True (.returned (some (.int u.1))) X [(h0, xO 7 [.int v_laws, .ref g0, .ref g1, .int v_inForce, .int v_depth, .int v_miss, .long v_ring, .int v_size, .int v_people, .ref g2, .int v_seed, .int u.2.1, .ref h2, .int v_from, .int v_to, .int v_token, .int v_value, .ref g3, .ref g4, .ref g5, .ref h1, .int v_imaged, .ref g6, .long v_oldRing, .ref g7, .long v_aheadRing, .ref g8]), (h1, xI X 7 u.2.2.1), (h2, xI X 250 u.2.2.2)] A) (n := 1) md_X7_feed.1 (Nat.le_of_ble_eq_true rfl) ?_
  intro p e s m args below meth c ls A hC hr hlk hH hl
  have hl : lv_has ls 2 [(0, .ref h0), (1, .int p1)] := hl
  have hx := hC.1
  have hb := hC.2.1
  refine lv_iload_n hx hb dX7_feed_0 rfl (lv_at hl 1 rfl) ?_
  refine lv_iconst (v := (nI 0)) hx hb dX7_feed_1 (by decide) ?_
  refine lv_sipush (v := (nI 255)) hx hb dX7_feed_2 (by decide) ?_
  obtain ⟨u1, hf1, hf⟩ := xb hf
  refine x_ran (x_runS (rest := []) (As := [.int p1, .int (nI 0), .int (nI 255)]) hC mw_140 md_X7_within (c_X7_within (X := X) hf1) hH [] rfl (by decide) hl.1 rfl rfl (Nat.le_of_ble_eq_true rfl) dX7_feed_5 ⟨Nat.le_of_ble_eq_true rfl, Nat.le_of_ble_eq_true rfl⟩ ⟨rfl, rfl⟩ ⟨Nat.le_refl _, Nat.le_refl _⟩) rfl (fun hz1 => ?_)
  refine lv_if_ne (tgt := 18) hx hb dX7_feed_8 (by decide) (fun c2 => ?_) (fun c2 => ?_)
  · have hf := xe c2 hf
    refine lv_aload_n hx hb dX7_feed_18 rfl (lv_at hl 0 rfl) ?_
    refine x_get hC fd_RX7_111 hH.1 0 rfl rfl dX7_feed_19 ?_
    refine lv_sipush (v := (nI 250)) hx hb dX7_feed_22 (by decide) ?_
    refine lv_icmp_ne (tgt := 35) hx hb dX7_feed_25 (by decide) (fun c3 => ?_) (fun c3 => ?_)
    · have hf := xe c3 hf
      refine lv_aload_n hx hb dX7_feed_35 rfl (lv_at hl 0 rfl) ?_
      refine x_get hC fd_RX7_19 hH.1 0 rfl rfl dX7_feed_36 ?_
      refine lv_aload_n hx hb dX7_feed_39 rfl (lv_at hl 0 rfl) ?_
      refine lv_dup hx hb dX7_feed_40 rfl ?_
      refine x_get hC fd_RX7_111 hH.1 0 rfl rfl dX7_feed_41 ?_
      refine lv_dup_x1 hx hb dX7_feed_44 rfl rfl ?_
      refine lv_iconst (v := (nI 1)) hx hb dX7_feed_45 (by decide) ?_
      refine lv_iadd hx hb dX7_feed_46 ?_
      refine x_put (ws' := [(h0, xO 7 [.int v_laws, .ref g0, .ref g1, .int v_inForce, .int v_depth, .int v_miss, .long v_ring, .int v_size, .int v_people, .ref g2, .int v_seed, .int (v_taped + (nI 1)), .ref h2, .int v_from, .int v_to, .int v_token, .int v_value, .ref g3, .ref g4, .ref g5, .ref h1, .int v_imaged, .ref g6, .long v_oldRing, .ref g7, .long v_aheadRing, .ref g8]), (h1, xI X 7 v_refusals), (h2, xI X 250 v_tape)]) hC fd_RX7_111 hH 0 rfl (Nat.le_of_ble_eq_true rfl) rfl rfl dX7_feed_47 rfl (fun H locs hH => ?_)
      refine lv_iload_n hx hb dX7_feed_50 rfl (lv_at hl 1 rfl) ?_
      obtain ⟨n4, hf⟩ := xok hf
      refine x_iast (ws' := [(h0, xO 7 [.int v_laws, .ref g0, .ref g1, .int v_inForce, .int v_depth, .int v_miss, .long v_ring, .int v_size, .int v_people, .ref g2, .int v_seed, .int (v_taped + (nI 1)), .ref h2, .int v_from, .int v_to, .int v_token, .int v_value, .ref g3, .ref g4, .ref g5, .ref h1, .int v_imaged, .ref g6, .long v_oldRing, .ref g7, .long v_aheadRing, .ref g8]), (h1, xI X 7 v_refusals), (h2, xI X 250 (upd v_tape (xat v_taped) p1))]) hC hH 2 rfl n4 dX7_feed_51 rfl (fun H locs hH => ?_)
      refine lv_aload_n hx hb dX7_feed_52 rfl (lv_at hl 0 rfl) ?_
      refine x_get hC fd_RX7_111 hH.1 0 rfl rfl dX7_feed_53 ?_
      exact x_retiw (φ := fun _ => True) (f := fun u : Int32 × Int32 × (Nat → Int32) × (Nat → Int32) => u.1) (wf := fun u : Int32 × Int32 × (Nat → Int32) × (Nat → Int32) => [(h0, xO 7 [.int v_laws, .ref g0, .ref g1, .int v_inForce, .int v_depth, .int v_miss, .long v_ring, .int v_size, .int v_people, .ref g2, .int v_seed, .int u.2.1, .ref h2, .int v_from, .int v_to, .int v_token, .int v_value, .ref g3, .ref g4, .ref g5, .ref h1, .int v_imaged, .ref g6, .long v_oldRing, .ref g7, .long v_aheadRing, .ref g8]), (h1, xI X 7 u.2.2.1), (h2, xI X 250 u.2.2.2)]) hC hr hlk trivial hf hH rfl rfl dX7_feed_56
    · have hf := xt c3 hf
      refine lv_aload_n hx hb dX7_feed_28 rfl (lv_at hl 0 rfl) ?_
      refine lv_bipush (v := (-6 : Int32)) hx hb dX7_feed_29 (by decide) ?_
      obtain ⟨u5, hf5, hf⟩ := xb hf
      refine x_ranw (ws' := [(h0, xO 7 [.int v_laws, .ref g0, .ref g1, .int v_inForce, .int v_depth, .int v_miss, .long v_ring, .int v_size, .int v_people, .ref g2, .int v_seed, .int v_taped, .ref h2, .int v_from, .int v_to, .int v_token, .int v_value, .ref g3, .ref g4, .ref g5, .ref h1, .int v_imaged, .ref g6, .long v_oldRing, .ref g7, .long v_aheadRing, .ref g8]), (h1, xI X 7 u5.2), (h2, xI X 250 v_tape)]) (x_runV (q0 := 0) (rest := []) (As := [.int (-6 : Int32)]) hC mw_143 md_X7_no (c_X7_no (X := X) hf5) hH [0, 1] rfl (by decide) rfl rfl rfl hl.1 rfl rfl (Nat.le_of_ble_eq_true rfl) dX7_feed_31 ⟨Nat.le_of_ble_eq_true rfl, Nat.le_of_ble_eq_true rfl⟩ ⟨rfl, rfl⟩ ⟨Nat.le_refl _, Nat.le_refl _⟩) hH [0, 1] rfl rfl rfl rfl rfl (fun hz5 H locs hH => ?_)
      exact x_retiw (φ := fun _ => True) (f := fun u : Int32 × Int32 × (Nat → Int32) × (Nat → Int32) => u.1) (wf := fun u : Int32 × Int32 × (Nat → Int32) × (Nat → Int32) => [(h0, xO 7 [.int v_laws, .ref g0, .ref g1, .int v_inForce, .int v_depth, .int v_miss, .long v_ring, .int v_size, .int v_people, .ref g2, .int v_seed, .int u.2.1, .ref h2, .int v_from, .int v_to, .int v_token, .int v_value, .ref g3, .ref g4, .ref g5, .ref h1, .int v_imaged, .ref g6, .long v_oldRing, .ref g7, .long v_aheadRing, .ref g8]), (h1, xI X 7 u.2.2.1), (h2, xI X 250 u.2.2.2)]) hC hr hlk trivial hf hH rfl rfl dX7_feed_34
  · have hf := xt c2 hf
    refine lv_aload_n hx hb dX7_feed_11 rfl (lv_at hl 0 rfl) ?_
    refine lv_bipush (v := (-2 : Int32)) hx hb dX7_feed_12 (by decide) ?_
    obtain ⟨u6, hf6, hf⟩ := xb hf
    refine x_ranw (ws' := [(h0, xO 7 [.int v_laws, .ref g0, .ref g1, .int v_inForce, .int v_depth, .int v_miss, .long v_ring, .int v_size, .int v_people, .ref g2, .int v_seed, .int v_taped, .ref h2, .int v_from, .int v_to, .int v_token, .int v_value, .ref g3, .ref g4, .ref g5, .ref h1, .int v_imaged, .ref g6, .long v_oldRing, .ref g7, .long v_aheadRing, .ref g8]), (h1, xI X 7 u6.2), (h2, xI X 250 v_tape)]) (x_runV (q0 := 0) (rest := []) (As := [.int (-2 : Int32)]) hC mw_143 md_X7_no (c_X7_no (X := X) hf6) hH [0, 1] rfl (by decide) rfl rfl rfl hl.1 rfl rfl (Nat.le_of_ble_eq_true rfl) dX7_feed_14 ⟨Nat.le_of_ble_eq_true rfl, Nat.le_of_ble_eq_true rfl⟩ ⟨rfl, rfl⟩ ⟨Nat.le_refl _, Nat.le_refl _⟩) hH [0, 1] rfl rfl rfl rfl rfl (fun hz6 H locs hH => ?_)
    exact x_retiw (φ := fun _ => True) (f := fun u : Int32 × Int32 × (Nat → Int32) × (Nat → Int32) => u.1) (wf := fun u : Int32 × Int32 × (Nat → Int32) × (Nat → Int32) => [(h0, xO 7 [.int v_laws, .ref g0, .ref g1, .int v_inForce, .int v_depth, .int v_miss, .long v_ring, .int v_size, .int v_people, .ref g2, .int v_seed, .int u.2.1, .ref h2, .int v_from, .int v_to, .int v_token, .int v_value, .ref g3, .ref g4, .ref g5, .ref h1, .int v_imaged, .ref g6, .long v_oldRing, .ref g7, .long v_aheadRing, .ref g8]), (h1, xI X 7 u.2.2.1), (h2, xI X 250 u.2.2.2)]) hC hr hlk trivial hf hH rfl rfl dX7_feed_17
def f_X7_wipe (v_taped : Int32) : Option (Int32 × Int32) :=
  some (v_taped, (nI 0))
set_option maxHeartbeats 4000000 in
set_option maxRecDepth 100000 in
theorem c_X7_wipe {l : Launch} {X : xG} {h0 g0 g1 g2 g3 g4 g5 g6 g7 g8 g9 g10 : Nat} {v_laws : Int32} {v_inForce : Int32} {v_depth : Int32} {v_miss : Int32} {v_ring : Int64} {v_size : Int32} {v_people : Int32} {v_seed : Int32} {v_taped : Int32} {v_from : Int32} {v_to : Int32} {v_token : Int32} {v_value : Int32} {v_imaged : Int32} {v_oldRing : Int64} {v_aheadRing : Int64} {u : Int32 × Int32} (hf : f_X7_wipe v_taped = some u) : Met l yX7_wipe (xw yX7_wipe cX7_wipe 2 (some .int)) (xrm 0 0) (xPc [.ref h0] X [(h0, xO 7 [.int v_laws, .ref g0, .ref g1, .int v_inForce, .int v_depth, .int v_miss, .long v_ring, .int v_size, .int v_people, .ref g2, .int v_seed, .int v_taped, .ref g3, .int v_from, .int v_to, .int v_token, .int v_value, .ref g4, .ref g5, .ref g6, .ref g7, .int v_imaged, .ref g8, .long v_oldRing, .ref g9, .long v_aheadRing, .ref g10])]) (xQw True (.returned (some (.int u.1))) X [(h0, xO 7 [.int v_laws, .ref g0, .ref g1, .int v_inForce, .int v_depth, .int v_miss, .long v_ring, .int v_size, .int v_people, .ref g2, .int v_seed, .int u.2, .ref g3, .int v_from, .int v_to, .int v_token, .int v_value, .ref g4, .ref g5, .ref g6, .ref g7, .int v_imaged, .ref g8, .long v_oldRing, .ref g9, .long v_aheadRing, .ref g10])] (xAs [(h0, xO 7 [.int v_laws, .ref g0, .ref g1, .int v_inForce, .int v_depth, .int v_miss, .long v_ring, .int v_size, .int v_people, .ref g2, .int v_seed, .int v_taped, .ref g3, .int v_from, .int v_to, .int v_token, .int v_value, .ref g4, .ref g5, .ref g6, .ref g7, .int v_imaged, .ref g8, .long v_oldRing, .ref g9, .long v_aheadRing, .ref g10])])) 0 0 (xAs [(h0, xO 7 [.int v_laws, .ref g0, .ref g1, .int v_inForce, .int v_depth, .int v_miss, .long v_ring, .int v_size, .int v_people, .ref g2, .int v_seed, .int v_taped, .ref g3, .int v_from, .int v_to, .int v_token, .int v_value, .ref g4, .ref g5, .ref g6, .ref g7, .int v_imaged, .ref g8, .long v_oldRing, .ref g9, .long v_aheadRing, .ref g10])]) := by
  refine xMetw (Qc := fun A => xQw True (.returned (some (.int u.1))) X [(h0, xO 7 [.int v_laws, .ref g0, .ref g1, .int v_inForce, .int v_depth, .int v_miss, .long v_ring, .int v_size, .int v_people, .ref g2, .int v_seed, .int u.2, .ref g3, .int v_from, .int v_to, .int v_token, .int v_value, .ref g4, .ref g5, .ref g6, .ref g7, .int v_imaged, .ref g8, .long v_oldRing, .ref g9, .long v_aheadRing, .ref g10])] A) (n := 0) md_X7_wipe.1 (Nat.le_of_ble_eq_true rfl) ?_
  intro p e s m args below meth c ls A hC hr hlk hH hl
  have hl : lv_has ls 2 [(0, .ref h0)] := hl
  have hx := hC.1
  have hb := hC.2.1
  refine lv_aload_n hx hb dX7_wipe_0 rfl (lv_at hl 0 rfl) ?_
  refine x_get hC fd_RX7_111 hH.1 0 rfl rfl dX7_wipe_1 ?_
  refine lv_istore_n (lv' := [(1, .int v_taped), (0, .ref h0)]) hx hb dX7_wipe_4 rfl hl (by decide) rfl (fun ls hl => ?_)
  refine lv_aload_n hx hb dX7_wipe_5 rfl (lv_at hl 1 rfl) ?_
  refine lv_iconst (v := (nI 0)) hx hb dX7_wipe_6 (by decide) ?_
  refine x_put (ws' := [(h0, xO 7 [.int v_laws, .ref g0, .ref g1, .int v_inForce, .int v_depth, .int v_miss, .long v_ring, .int v_size, .int v_people, .ref g2, .int v_seed, .int (nI 0), .ref g3, .int v_from, .int v_to, .int v_token, .int v_value, .ref g4, .ref g5, .ref g6, .ref g7, .int v_imaged, .ref g8, .long v_oldRing, .ref g9, .long v_aheadRing, .ref g10])]) hC fd_RX7_111 hH 0 rfl (Nat.le_of_ble_eq_true rfl) rfl rfl dX7_wipe_7 rfl (fun H locs hH => ?_)
  refine lv_iload_n hx hb dX7_wipe_10 rfl (lv_at hl 0 rfl) ?_
  exact x_retiw (φ := fun _ => True) (f := fun u : Int32 × Int32 => u.1) (wf := fun u : Int32 × Int32 => [(h0, xO 7 [.int v_laws, .ref g0, .ref g1, .int v_inForce, .int v_depth, .int v_miss, .long v_ring, .int v_size, .int v_people, .ref g2, .int v_seed, .int u.2, .ref g3, .int v_from, .int v_to, .int v_token, .int v_value, .ref g4, .ref g5, .ref g6, .ref g7, .int v_imaged, .ref g8, .long v_oldRing, .ref g9, .long v_aheadRing, .ref g10])]) hC hr hlk trivial hf hH rfl rfl dX7_wipe_11
def f_X7_isLetter (p0 : Int32) : Option (Int32) :=
  if p0 < (nI 97) then
    some (nI 0)
  else
  if (nI 122) < p0 then
    some (nI 0)
  else
  some (nI 1)
set_option maxHeartbeats 4000000 in
set_option maxRecDepth 100000 in
theorem c_X7_isLetter {l : Launch} {X : xG} {p0 : Int32} {u : Int32} (hf : f_X7_isLetter p0 = some u) : Met l yX7_isLetter (xw yX7_isLetter cX7_isLetter 1 (some .boolean)) (xrm 0 0) (xPc [.int p0] X []) (xQ (u = 0 ∨ u = 1) (.returned (some (.int u)))) 0 0 xNo := by
  refine xMet (n := 1) md_X7_isLetter.1 (Nat.le_of_ble_eq_true rfl) ?_
  intro p e s m args below meth c ls A hC hr hlk hH hl
  have hl : lv_has ls 1 [(0, .int p0)] := hl
  have hx := hC.1
  have hb := hC.2.1
  refine lv_iload_n hx hb dX7_isLetter_0 rfl (lv_at hl 0 rfl) ?_
  refine lv_bipush (v := (nI 97)) hx hb dX7_isLetter_1 (by decide) ?_
  refine lv_icmp_lt (tgt := 16) hx hb dX7_isLetter_3 (by decide) (fun c1 => ?_) (fun c1 => ?_)
  · have hf := xt c1 hf
    refine lv_iconst (v := (nI 0)) hx hb dX7_isLetter_16 (by decide) ?_
    exact x_retz hC hr hlk (Or.inl rfl) hf dX7_isLetter_17
  · have hf := xe c1 hf
    refine lv_iload_n hx hb dX7_isLetter_6 rfl (lv_at hl 0 rfl) ?_
    refine lv_bipush (v := (nI 122)) hx hb dX7_isLetter_7 (by decide) ?_
    refine lv_icmp_gt (tgt := 16) hx hb dX7_isLetter_9 (by decide) (fun c2 => ?_) (fun c2 => ?_)
    · have hf := xt c2 hf
      refine lv_iconst (v := (nI 0)) hx hb dX7_isLetter_16 (by decide) ?_
      exact x_retz hC hr hlk (Or.inl rfl) hf dX7_isLetter_17
    · have hf := xe c2 hf
      refine lv_iconst (v := (nI 1)) hx hb dX7_isLetter_12 (by decide) ?_
      refine lv_goto (tgt := 17) hx hb dX7_isLetter_13 (by decide) ?_
      exact x_retz hC hr hlk (Or.inr rfl) hf dX7_isLetter_17
def f_X7_isDigit (p0 : Int32) : Option (Int32) :=
  if p0 < (nI 48) then
    some (nI 0)
  else
  if (nI 57) < p0 then
    some (nI 0)
  else
  some (nI 1)
set_option maxHeartbeats 4000000 in
set_option maxRecDepth 100000 in
theorem c_X7_isDigit {l : Launch} {X : xG} {p0 : Int32} {u : Int32} (hf : f_X7_isDigit p0 = some u) : Met l yX7_isDigit (xw yX7_isDigit cX7_isDigit 1 (some .boolean)) (xrm 0 0) (xPc [.int p0] X []) (xQ (u = 0 ∨ u = 1) (.returned (some (.int u)))) 0 0 xNo := by
  refine xMet (n := 1) md_X7_isDigit.1 (Nat.le_of_ble_eq_true rfl) ?_
  intro p e s m args below meth c ls A hC hr hlk hH hl
  have hl : lv_has ls 1 [(0, .int p0)] := hl
  have hx := hC.1
  have hb := hC.2.1
  refine lv_iload_n hx hb dX7_isDigit_0 rfl (lv_at hl 0 rfl) ?_
  refine lv_bipush (v := (nI 48)) hx hb dX7_isDigit_1 (by decide) ?_
  refine lv_icmp_lt (tgt := 16) hx hb dX7_isDigit_3 (by decide) (fun c1 => ?_) (fun c1 => ?_)
  · have hf := xt c1 hf
    refine lv_iconst (v := (nI 0)) hx hb dX7_isDigit_16 (by decide) ?_
    exact x_retz hC hr hlk (Or.inl rfl) hf dX7_isDigit_17
  · have hf := xe c1 hf
    refine lv_iload_n hx hb dX7_isDigit_6 rfl (lv_at hl 0 rfl) ?_
    refine lv_bipush (v := (nI 57)) hx hb dX7_isDigit_7 (by decide) ?_
    refine lv_icmp_gt (tgt := 16) hx hb dX7_isDigit_9 (by decide) (fun c2 => ?_) (fun c2 => ?_)
    · have hf := xt c2 hf
      refine lv_iconst (v := (nI 0)) hx hb dX7_isDigit_16 (by decide) ?_
      exact x_retz hC hr hlk (Or.inl rfl) hf dX7_isDigit_17
    · have hf := xe c2 hf
      refine lv_iconst (v := (nI 1)) hx hb dX7_isDigit_12 (by decide) ?_
      refine lv_goto (tgt := 17) hx hb dX7_isDigit_13 (by decide) ?_
      exact x_retz hC hr hlk (Or.inr rfl) hf dX7_isDigit_17
def f_X7_next_J235 (s8 : Int32) (s159 : Int32 × Int32) : Option (((Int32 × Int32 × Int32 × Int32) ⊕ (Int32)) ⊕ (Int32 × Int32)) :=
  if (s159.1 - s8) ≤ (nI 3) then
    some (.inl (.inl (s8, s159.1, (nI 48), s159.2)))
  else
  some (.inl (.inl (s8, s159.1, (nI 120), s159.2)))
def f_X7_next_J222 (s159 : Int32 × Int32) (j222_v_value : Int32) : Option (((Int32 × Int32 × Int32 × Int32) ⊕ (Int32)) ⊕ (Int32 × Int32)) :=
  some (.inr (s159.1 + (nI 1), j222_v_value))
def f_X7_next_L159 (v_taped : Int32) (v_tape : (Nat → Int32)) (s8 : Int32) (s159 : Int32 × Int32) : Option (((Int32 × Int32 × Int32 × Int32) ⊕ (Int32)) ⊕ (Int32 × Int32)) :=
  if v_taped ≤ s159.1 then
    f_X7_next_J235 s8 s159
  else
  if xout s159.1 250 then none else
  (f_X7_isDigit (v_tape (xat s159.1))).bind fun u12 =>
  if u12 = (nI 0) then
    f_X7_next_J235 s8 s159
  else
  if (nI 3) ≤ (s159.1 - s8) then
    f_X7_next_J222 s159 s159.2
  else
  if xout s159.1 250 then none else
  f_X7_next_J222 s159 ((((nI 10) * s159.2) + (v_tape (xat s159.1))) - (nI 48))
def f_X7_next_L96 (v_taped : Int32) (v_value : Int32) (v_tape : (Nat → Int32)) (s8 : Int32) (s96 : Int32) : Option (((Int32 × Int32 × Int32 × Int32) ⊕ (Int32)) ⊕ (Int32)) :=
  if v_taped ≤ s96 then
    some (.inl (.inl (s8, s96, (nI 119), v_value)))
  else
  if xout s96 250 then none else
  (f_X7_isLetter (v_tape (xat s96))).bind fun u18 =>
  if u18 = (nI 0) then
    some (.inl (.inl (s8, s96, (nI 119), v_value)))
  else
  some (.inr (s96 + (nI 1)))
def f_X7_next_J46 (v_taped : Int32) (v_value : Int32) (v_tape : (Nat → Int32)) (s8 : Int32) : Option ((Int32 × Int32 × Int32 × Int32) ⊕ (Int32)) :=
  if s8 = v_taped then
    some (.inl (s8, s8, (nI 101), v_value))
  else
  if xout s8 250 then none else
  (f_X7_isLetter (v_tape (xat s8))).bind fun u4 =>
  if u4 = (nI 0) then
    (f_X7_isDigit (v_tape (xat s8))).bind fun u6 =>
    if u6 = (nI 0) then
      if (v_tape (xat s8)) = (nI 59) then
        some (.inl (s8, s8 + (nI 1), (nI 59), v_value))
      else
      some (.inl (s8, s8 + (nI 1), (nI 120), v_value))
    else
    xloop (f_X7_next_L159 v_taped v_tape s8) xN (s8 + (nI 1), (v_tape (xat s8)) - (nI 48))
  else
  xloop (f_X7_next_L96 v_taped v_value v_tape s8) xN (s8 + (nI 1))
def f_X7_next_L8 (v_taped : Int32) (v_value : Int32) (v_tape : (Nat → Int32)) (s8 : Int32) : Option ((Int32 × Int32 × Int32 × Int32) ⊕ (Int32)) :=
  if v_taped ≤ s8 then
    f_X7_next_J46 v_taped v_value v_tape s8
  else
  if xout s8 250 then none else
  if (v_tape (xat s8)) = (nI 32) then
    some (.inr (s8 + (nI 1)))
  else
  f_X7_next_J46 v_taped v_value v_tape s8
def f_X7_next (v_taped : Int32) (v_from : Int32) (v_to : Int32) (v_token : Int32) (v_value : Int32) (v_tape : (Nat → Int32)) : Option (Int32 × Int32 × Int32 × Int32) :=
  xloop (f_X7_next_L8 v_taped v_value v_tape) xN v_to
set_option maxHeartbeats 4000000 in
set_option maxRecDepth 100000 in
theorem c_X7_next {l : Launch} {X : xG} {h0 h1 g0 g1 g2 g3 g4 g5 g6 g7 g8 g9 : Nat} {v_laws : Int32} {v_inForce : Int32} {v_depth : Int32} {v_miss : Int32} {v_ring : Int64} {v_size : Int32} {v_people : Int32} {v_seed : Int32} {v_taped : Int32} {v_from : Int32} {v_to : Int32} {v_token : Int32} {v_value : Int32} {v_imaged : Int32} {v_oldRing : Int64} {v_aheadRing : Int64} {v_tape : (Nat → Int32)} {u : Int32 × Int32 × Int32 × Int32} (hf : f_X7_next v_taped v_from v_to v_token v_value v_tape = some u) : Met l yX7_next (xw yX7_next cX7_next 2 none) (xrm 1 20) (xPc [.ref h0] X [(h0, xO 7 [.int v_laws, .ref g0, .ref g1, .int v_inForce, .int v_depth, .int v_miss, .long v_ring, .int v_size, .int v_people, .ref g2, .int v_seed, .int v_taped, .ref h1, .int v_from, .int v_to, .int v_token, .int v_value, .ref g3, .ref g4, .ref g5, .ref g6, .int v_imaged, .ref g7, .long v_oldRing, .ref g8, .long v_aheadRing, .ref g9]), (h1, xI X 250 v_tape)]) (xQw True (.returned none) X [(h0, xO 7 [.int v_laws, .ref g0, .ref g1, .int v_inForce, .int v_depth, .int v_miss, .long v_ring, .int v_size, .int v_people, .ref g2, .int v_seed, .int v_taped, .ref h1, .int u.1, .int u.2.1, .int u.2.2.1, .int u.2.2.2, .ref g3, .ref g4, .ref g5, .ref g6, .int v_imaged, .ref g7, .long v_oldRing, .ref g8, .long v_aheadRing, .ref g9]), (h1, xI X 250 v_tape)] (xAs [(h0, xO 7 [.int v_laws, .ref g0, .ref g1, .int v_inForce, .int v_depth, .int v_miss, .long v_ring, .int v_size, .int v_people, .ref g2, .int v_seed, .int v_taped, .ref h1, .int v_from, .int v_to, .int v_token, .int v_value, .ref g3, .ref g4, .ref g5, .ref g6, .int v_imaged, .ref g7, .long v_oldRing, .ref g8, .long v_aheadRing, .ref g9]), (h1, xI X 250 v_tape)])) 0 0 (xAs [(h0, xO 7 [.int v_laws, .ref g0, .ref g1, .int v_inForce, .int v_depth, .int v_miss, .long v_ring, .int v_size, .int v_people, .ref g2, .int v_seed, .int v_taped, .ref h1, .int v_from, .int v_to, .int v_token, .int v_value, .ref g3, .ref g4, .ref g5, .ref g6, .int v_imaged, .ref g7, .long v_oldRing, .ref g8, .long v_aheadRing, .ref g9]), (h1, xI X 250 v_tape)]) := by
  refine xMetw (Qc := fun A => xQw True (.returned none) X [(h0, xO 7 [.int v_laws, .ref g0, .ref g1, .int v_inForce, .int v_depth, .int v_miss, .long v_ring, .int v_size, .int v_people, .ref g2, .int v_seed, .int v_taped, .ref h1, .int u.1, .int u.2.1, .int u.2.2.1, .int u.2.2.2, .ref g3, .ref g4, .ref g5, .ref g6, .int v_imaged, .ref g7, .long v_oldRing, .ref g8, .long v_aheadRing, .ref g9]), (h1, xI X 250 v_tape)] A) (n := 0) md_X7_next.1 (Nat.le_of_ble_eq_true rfl) ?_
  intro p e s m args below meth c ls A hC hr hlk hH hl
  have hl : lv_has ls 2 [(0, .ref h0)] := hl
  have hx := hC.1
  have hb := hC.2.1
  have L8 : ∀ (n : Nat) (s8 : Int32), xloop (f_X7_next_L8 v_taped v_value v_tape) n s8 = some u → ∀ (H : Heap) (locs : List Loc), xH X A [(h0, xO 7 [.int v_laws, .ref g0, .ref g1, .int v_inForce, .int v_depth, .int v_miss, .long v_ring, .int v_size, .int v_people, .ref g2, .int v_seed, .int v_taped, .ref h1, .int s8, .int v_to, .int v_token, .int v_value, .ref g3, .ref g4, .ref g5, .ref g6, .int v_imaged, .ref g7, .long v_oldRing, .ref g8, .long v_aheadRing, .ref g9]), (h1, xI X 250 v_tape)] s.heap H locs → ∀ (ls : Array Slot), lv_has ls 2 [(0, .ref h0)] → W p l e (xrm 1 20) s m args below meth c H locs 0 0 (MQ below (xQw True (.returned none) X [(h0, xO 7 [.int v_laws, .ref g0, .ref g1, .int v_inForce, .int v_depth, .int v_miss, .long v_ring, .int v_size, .int v_people, .ref g2, .int v_seed, .int v_taped, .ref h1, .int u.1, .int u.2.1, .int u.2.2.1, .int u.2.2.2, .ref g3, .ref g4, .ref g5, .ref g6, .int v_imaged, .ref g7, .long v_oldRing, .ref g8, .long v_aheadRing, .ref g9]), (h1, xI X 250 v_tape)] A) args s 0 0 A) (F0 m 8 ls []) := by
    intro  n
    induction n with
    | zero => intro s8 hf; exact xloop_0 hf
    | succ n ih8 =>
      intro s8 hf H locs hH ls hl
      obtain ⟨o8, hf, ho8⟩ := xloop_s hf
      have L159 : ∀ (n : Nat) (s159 : Int32 × Int32), xloop (f_X7_next_L159 v_taped v_tape s8) n s159 = some o8 → ∀ (H : Heap) (locs : List Loc), xH X A [(h0, xO 7 [.int v_laws, .ref g0, .ref g1, .int v_inForce, .int v_depth, .int v_miss, .long v_ring, .int v_size, .int v_people, .ref g2, .int v_seed, .int v_taped, .ref h1, .int s8, .int s159.1, .int v_token, .int s159.2, .ref g3, .ref g4, .ref g5, .ref g6, .int v_imaged, .ref g7, .long v_oldRing, .ref g8, .long v_aheadRing, .ref g9]), (h1, xI X 250 v_tape)] s.heap H locs → ∀ (ls : Array Slot), lv_has ls 2 [(0, .ref h0)] → W p l e (xrm 1 20) s m args below meth c H locs 0 0 (MQ below (xQw True (.returned none) X [(h0, xO 7 [.int v_laws, .ref g0, .ref g1, .int v_inForce, .int v_depth, .int v_miss, .long v_ring, .int v_size, .int v_people, .ref g2, .int v_seed, .int v_taped, .ref h1, .int u.1, .int u.2.1, .int u.2.2.1, .int u.2.2.2, .ref g3, .ref g4, .ref g5, .ref g6, .int v_imaged, .ref g7, .long v_oldRing, .ref g8, .long v_aheadRing, .ref g9]), (h1, xI X 250 v_tape)] A) args s 0 0 A) (F0 m 159 ls []) := by
        intro  n
        induction n with
        | zero => intro s159 hf; exact xloop_0 hf
        | succ n ih159 =>
          intro s159 hf H locs hH ls hl
          obtain ⟨o159, hf, ho159⟩ := xloop_s hf
          have J235 : ∀ (_ : True), f_X7_next_J235 s8 s159 = some o159 → ∀ (H : Heap) (locs : List Loc), xH X A [(h0, xO 7 [.int v_laws, .ref g0, .ref g1, .int v_inForce, .int v_depth, .int v_miss, .long v_ring, .int v_size, .int v_people, .ref g2, .int v_seed, .int v_taped, .ref h1, .int s8, .int s159.1, .int v_token, .int s159.2, .ref g3, .ref g4, .ref g5, .ref g6, .int v_imaged, .ref g7, .long v_oldRing, .ref g8, .long v_aheadRing, .ref g9]), (h1, xI X 250 v_tape)] s.heap H locs → ∀ (ls : Array Slot), lv_has ls 2 [(0, .ref h0)] → W p l e (xrm 1 20) s m args below meth c H locs 0 0 (MQ below (xQw True (.returned none) X [(h0, xO 7 [.int v_laws, .ref g0, .ref g1, .int v_inForce, .int v_depth, .int v_miss, .long v_ring, .int v_size, .int v_people, .ref g2, .int v_seed, .int v_taped, .ref h1, .int u.1, .int u.2.1, .int u.2.2.1, .int u.2.2.2, .ref g3, .ref g4, .ref g5, .ref g6, .int v_imaged, .ref g7, .long v_oldRing, .ref g8, .long v_aheadRing, .ref g9]), (h1, xI X 250 v_tape)] A) args s 0 0 A) (F0 m 235 ls []) := by
            intro _ hf H locs hH ls hl
            refine lv_aload_n hx hb dX7_next_235 rfl (lv_at hl 0 rfl) ?_
            refine lv_aload_n hx hb dX7_next_236 rfl (lv_at hl 0 rfl) ?_
            refine x_get hC fd_RX7_114 hH.1 0 rfl rfl dX7_next_237 ?_
            refine lv_aload_n hx hb dX7_next_240 rfl (lv_at hl 0 rfl) ?_
            refine x_get hC fd_RX7_117 hH.1 0 rfl rfl dX7_next_241 ?_
            refine lv_isub hx hb dX7_next_244 ?_
            refine lv_iconst (v := (nI 3)) hx hb dX7_next_245 (by decide) ?_
            refine lv_icmp_le (tgt := 254) hx hb dX7_next_246 (by decide) (fun c10 => ?_) (fun c10 => ?_)
            · have hf := xt c10 hf
              refine lv_bipush (v := (nI 48)) hx hb dX7_next_254 (by decide) ?_
              refine x_put (ws' := [(h0, xO 7 [.int v_laws, .ref g0, .ref g1, .int v_inForce, .int v_depth, .int v_miss, .long v_ring, .int v_size, .int v_people, .ref g2, .int v_seed, .int v_taped, .ref h1, .int s8, .int s159.1, .int (nI 48), .int s159.2, .ref g3, .ref g4, .ref g5, .ref g6, .int v_imaged, .ref g7, .long v_oldRing, .ref g8, .long v_aheadRing, .ref g9]), (h1, xI X 250 v_tape)]) hC fd_RX7_120 hH 0 rfl (Nat.le_of_ble_eq_true rfl) rfl rfl dX7_next_256 rfl (fun H locs hH => ?_)
              refine lv_goto (tgt := 279) hx hb dX7_next_259 (by decide) ?_
              have hf := xo_ret hf ho159
              have hf := xo_ret hf ho8
              exact x_retvw (φ := fun _ => True) (wf := fun u : Int32 × Int32 × Int32 × Int32 => [(h0, xO 7 [.int v_laws, .ref g0, .ref g1, .int v_inForce, .int v_depth, .int v_miss, .long v_ring, .int v_size, .int v_people, .ref g2, .int v_seed, .int v_taped, .ref h1, .int u.1, .int u.2.1, .int u.2.2.1, .int u.2.2.2, .ref g3, .ref g4, .ref g5, .ref g6, .int v_imaged, .ref g7, .long v_oldRing, .ref g8, .long v_aheadRing, .ref g9]), (h1, xI X 250 v_tape)]) hC hr hlk trivial hf hH rfl dX7_next_279
            · have hf := xe c10 hf
              refine lv_bipush (v := (nI 120)) hx hb dX7_next_249 (by decide) ?_
              refine lv_goto (tgt := 256) hx hb dX7_next_251 (by decide) ?_
              refine x_put (ws' := [(h0, xO 7 [.int v_laws, .ref g0, .ref g1, .int v_inForce, .int v_depth, .int v_miss, .long v_ring, .int v_size, .int v_people, .ref g2, .int v_seed, .int v_taped, .ref h1, .int s8, .int s159.1, .int (nI 120), .int s159.2, .ref g3, .ref g4, .ref g5, .ref g6, .int v_imaged, .ref g7, .long v_oldRing, .ref g8, .long v_aheadRing, .ref g9]), (h1, xI X 250 v_tape)]) hC fd_RX7_120 hH 0 rfl (Nat.le_of_ble_eq_true rfl) rfl rfl dX7_next_256 rfl (fun H locs hH => ?_)
              refine lv_goto (tgt := 279) hx hb dX7_next_259 (by decide) ?_
              have hf := xo_ret hf ho159
              have hf := xo_ret hf ho8
              exact x_retvw (φ := fun _ => True) (wf := fun u : Int32 × Int32 × Int32 × Int32 => [(h0, xO 7 [.int v_laws, .ref g0, .ref g1, .int v_inForce, .int v_depth, .int v_miss, .long v_ring, .int v_size, .int v_people, .ref g2, .int v_seed, .int v_taped, .ref h1, .int u.1, .int u.2.1, .int u.2.2.1, .int u.2.2.2, .ref g3, .ref g4, .ref g5, .ref g6, .int v_imaged, .ref g7, .long v_oldRing, .ref g8, .long v_aheadRing, .ref g9]), (h1, xI X 250 v_tape)]) hC hr hlk trivial hf hH rfl dX7_next_279
          have J222 : ∀ (j222_v_value : Int32), f_X7_next_J222 s159 j222_v_value = some o159 → ∀ (H : Heap) (locs : List Loc), xH X A [(h0, xO 7 [.int v_laws, .ref g0, .ref g1, .int v_inForce, .int v_depth, .int v_miss, .long v_ring, .int v_size, .int v_people, .ref g2, .int v_seed, .int v_taped, .ref h1, .int s8, .int s159.1, .int v_token, .int j222_v_value, .ref g3, .ref g4, .ref g5, .ref g6, .int v_imaged, .ref g7, .long v_oldRing, .ref g8, .long v_aheadRing, .ref g9]), (h1, xI X 250 v_tape)] s.heap H locs → ∀ (ls : Array Slot), lv_has ls 2 [(0, .ref h0)] → W p l e (xrm 1 20) s m args below meth c H locs 0 0 (MQ below (xQw True (.returned none) X [(h0, xO 7 [.int v_laws, .ref g0, .ref g1, .int v_inForce, .int v_depth, .int v_miss, .long v_ring, .int v_size, .int v_people, .ref g2, .int v_seed, .int v_taped, .ref h1, .int u.1, .int u.2.1, .int u.2.2.1, .int u.2.2.2, .ref g3, .ref g4, .ref g5, .ref g6, .int v_imaged, .ref g7, .long v_oldRing, .ref g8, .long v_aheadRing, .ref g9]), (h1, xI X 250 v_tape)] A) args s 0 0 A) (F0 m 222 ls []) := by
            intro j222_v_value hf H locs hH ls hl
            refine lv_aload_n hx hb dX7_next_222 rfl (lv_at hl 0 rfl) ?_
            refine lv_dup hx hb dX7_next_223 rfl ?_
            refine x_get hC fd_RX7_114 hH.1 0 rfl rfl dX7_next_224 ?_
            refine lv_iconst (v := (nI 1)) hx hb dX7_next_227 (by decide) ?_
            refine lv_iadd hx hb dX7_next_228 ?_
            refine x_put (ws' := [(h0, xO 7 [.int v_laws, .ref g0, .ref g1, .int v_inForce, .int v_depth, .int v_miss, .long v_ring, .int v_size, .int v_people, .ref g2, .int v_seed, .int v_taped, .ref h1, .int s8, .int (s159.1 + (nI 1)), .int v_token, .int j222_v_value, .ref g3, .ref g4, .ref g5, .ref g6, .int v_imaged, .ref g7, .long v_oldRing, .ref g8, .long v_aheadRing, .ref g9]), (h1, xI X 250 v_tape)]) hC fd_RX7_114 hH 0 rfl (Nat.le_of_ble_eq_true rfl) rfl rfl dX7_next_229 rfl (fun H locs hH => ?_)
            refine lv_goto (tgt := 159) hx hb dX7_next_232 (by decide) ?_
            have hf := xo_go hf ho159
            exact ih159 (s159.1 + (nI 1), j222_v_value) hf _ _ hH ls (lv_sub hl [0] rfl)
          refine lv_aload_n hx hb dX7_next_159 rfl (lv_at hl 0 rfl) ?_
          refine x_get hC fd_RX7_114 hH.1 0 rfl rfl dX7_next_160 ?_
          refine lv_aload_n hx hb dX7_next_163 rfl (lv_at hl 0 rfl) ?_
          refine x_get hC fd_RX7_111 hH.1 0 rfl rfl dX7_next_164 ?_
          refine lv_icmp_ge (tgt := 235) hx hb dX7_next_167 (by decide) (fun c9 => ?_) (fun c9 => ?_)
          · have hf := xt c9 hf
            exact J235 trivial hf _ _ hH ls (lv_sub hl [0] rfl)
          · have hf := xe c9 hf
            refine lv_aload_n hx hb dX7_next_170 rfl (lv_at hl 0 rfl) ?_
            refine x_get hC fd_RX7_19 hH.1 0 rfl rfl dX7_next_171 ?_
            refine lv_aload_n hx hb dX7_next_174 rfl (lv_at hl 0 rfl) ?_
            refine x_get hC fd_RX7_114 hH.1 0 rfl rfl dX7_next_175 ?_
            obtain ⟨n11, hf⟩ := xok hf
            refine x_iald hC hH.1 1 rfl n11 dX7_next_178 ?_
            obtain ⟨u12, hf12, hf⟩ := xb hf
            refine x_ran (x_runS (rest := []) (As := [.int (v_tape (xat s159.1))]) hC mw_615 md_X7_isDigit (c_X7_isDigit (X := X) hf12) hH [] rfl (by decide) hl.1 rfl rfl (Nat.le_of_ble_eq_true rfl) dX7_next_179 ⟨Nat.le_of_ble_eq_true rfl, Nat.le_of_ble_eq_true rfl⟩ ⟨rfl, rfl⟩ ⟨Nat.le_refl _, Nat.le_refl _⟩) rfl (fun hz12 => ?_)
            refine lv_if_eq (tgt := 235) hx hb dX7_next_182 (by decide) (fun c13 => ?_) (fun c13 => ?_)
            · have hf := xt c13 hf
              exact J235 trivial hf _ _ hH ls (lv_sub hl [0] rfl)
            · have hf := xe c13 hf
              refine lv_aload_n hx hb dX7_next_185 rfl (lv_at hl 0 rfl) ?_
              refine x_get hC fd_RX7_114 hH.1 0 rfl rfl dX7_next_186 ?_
              refine lv_aload_n hx hb dX7_next_189 rfl (lv_at hl 0 rfl) ?_
              refine x_get hC fd_RX7_117 hH.1 0 rfl rfl dX7_next_190 ?_
              refine lv_isub hx hb dX7_next_193 ?_
              refine lv_iconst (v := (nI 3)) hx hb dX7_next_194 (by decide) ?_
              refine lv_icmp_ge (tgt := 222) hx hb dX7_next_195 (by decide) (fun c14 => ?_) (fun c14 => ?_)
              · have hf := xt c14 hf
                exact J222 s159.2 hf _ _ hH ls (lv_sub hl [0] rfl)
              · have hf := xe c14 hf
                refine lv_aload_n hx hb dX7_next_198 rfl (lv_at hl 0 rfl) ?_
                refine lv_bipush (v := (nI 10)) hx hb dX7_next_199 (by decide) ?_
                refine lv_aload_n hx hb dX7_next_201 rfl (lv_at hl 0 rfl) ?_
                refine x_get hC fd_RX7_129 hH.1 0 rfl rfl dX7_next_202 ?_
                refine lv_imul hx hb dX7_next_205 ?_
                refine lv_aload_n hx hb dX7_next_206 rfl (lv_at hl 0 rfl) ?_
                refine x_get hC fd_RX7_19 hH.1 0 rfl rfl dX7_next_207 ?_
                refine lv_aload_n hx hb dX7_next_210 rfl (lv_at hl 0 rfl) ?_
                refine x_get hC fd_RX7_114 hH.1 0 rfl rfl dX7_next_211 ?_
                obtain ⟨n15, hf⟩ := xok hf
                refine x_iald hC hH.1 1 rfl n15 dX7_next_214 ?_
                refine lv_iadd hx hb dX7_next_215 ?_
                refine lv_bipush (v := (nI 48)) hx hb dX7_next_216 (by decide) ?_
                refine lv_isub hx hb dX7_next_218 ?_
                refine x_put (ws' := [(h0, xO 7 [.int v_laws, .ref g0, .ref g1, .int v_inForce, .int v_depth, .int v_miss, .long v_ring, .int v_size, .int v_people, .ref g2, .int v_seed, .int v_taped, .ref h1, .int s8, .int s159.1, .int v_token, .int ((((nI 10) * s159.2) + (v_tape (xat s159.1))) - (nI 48)), .ref g3, .ref g4, .ref g5, .ref g6, .int v_imaged, .ref g7, .long v_oldRing, .ref g8, .long v_aheadRing, .ref g9]), (h1, xI X 250 v_tape)]) hC fd_RX7_129 hH 0 rfl (Nat.le_of_ble_eq_true rfl) rfl rfl dX7_next_219 rfl (fun H locs hH => ?_)
                exact J222 ((((nI 10) * s159.2) + (v_tape (xat s159.1))) - (nI 48)) hf _ _ hH ls (lv_sub hl [0] rfl)
      have L96 : ∀ (n : Nat) (s96 : Int32), xloop (f_X7_next_L96 v_taped v_value v_tape s8) n s96 = some o8 → ∀ (H : Heap) (locs : List Loc), xH X A [(h0, xO 7 [.int v_laws, .ref g0, .ref g1, .int v_inForce, .int v_depth, .int v_miss, .long v_ring, .int v_size, .int v_people, .ref g2, .int v_seed, .int v_taped, .ref h1, .int s8, .int s96, .int v_token, .int v_value, .ref g3, .ref g4, .ref g5, .ref g6, .int v_imaged, .ref g7, .long v_oldRing, .ref g8, .long v_aheadRing, .ref g9]), (h1, xI X 250 v_tape)] s.heap H locs → ∀ (ls : Array Slot), lv_has ls 2 [(0, .ref h0)] → W p l e (xrm 1 20) s m args below meth c H locs 0 0 (MQ below (xQw True (.returned none) X [(h0, xO 7 [.int v_laws, .ref g0, .ref g1, .int v_inForce, .int v_depth, .int v_miss, .long v_ring, .int v_size, .int v_people, .ref g2, .int v_seed, .int v_taped, .ref h1, .int u.1, .int u.2.1, .int u.2.2.1, .int u.2.2.2, .ref g3, .ref g4, .ref g5, .ref g6, .int v_imaged, .ref g7, .long v_oldRing, .ref g8, .long v_aheadRing, .ref g9]), (h1, xI X 250 v_tape)] A) args s 0 0 A) (F0 m 96 ls []) := by
        intro  n
        induction n with
        | zero => intro s96 hf; exact xloop_0 hf
        | succ n ih96 =>
          intro s96 hf H locs hH ls hl
          obtain ⟨o96, hf, ho96⟩ := xloop_s hf
          refine lv_aload_n hx hb dX7_next_96 rfl (lv_at hl 0 rfl) ?_
          refine x_get hC fd_RX7_114 hH.1 0 rfl rfl dX7_next_97 ?_
          refine lv_aload_n hx hb dX7_next_100 rfl (lv_at hl 0 rfl) ?_
          refine x_get hC fd_RX7_111 hH.1 0 rfl rfl dX7_next_101 ?_
          refine lv_icmp_ge (tgt := 135) hx hb dX7_next_104 (by decide) (fun c16 => ?_) (fun c16 => ?_)
          · have hf := xt c16 hf
            refine lv_aload_n hx hb dX7_next_135 rfl (lv_at hl 0 rfl) ?_
            refine lv_bipush (v := (nI 119)) hx hb dX7_next_136 (by decide) ?_
            refine x_put (ws' := [(h0, xO 7 [.int v_laws, .ref g0, .ref g1, .int v_inForce, .int v_depth, .int v_miss, .long v_ring, .int v_size, .int v_people, .ref g2, .int v_seed, .int v_taped, .ref h1, .int s8, .int s96, .int (nI 119), .int v_value, .ref g3, .ref g4, .ref g5, .ref g6, .int v_imaged, .ref g7, .long v_oldRing, .ref g8, .long v_aheadRing, .ref g9]), (h1, xI X 250 v_tape)]) hC fd_RX7_120 hH 0 rfl (Nat.le_of_ble_eq_true rfl) rfl rfl dX7_next_138 rfl (fun H locs hH => ?_)
            refine lv_goto (tgt := 279) hx hb dX7_next_141 (by decide) ?_
            have hf := xo_ret hf ho96
            have hf := xo_ret hf ho8
            exact x_retvw (φ := fun _ => True) (wf := fun u : Int32 × Int32 × Int32 × Int32 => [(h0, xO 7 [.int v_laws, .ref g0, .ref g1, .int v_inForce, .int v_depth, .int v_miss, .long v_ring, .int v_size, .int v_people, .ref g2, .int v_seed, .int v_taped, .ref h1, .int u.1, .int u.2.1, .int u.2.2.1, .int u.2.2.2, .ref g3, .ref g4, .ref g5, .ref g6, .int v_imaged, .ref g7, .long v_oldRing, .ref g8, .long v_aheadRing, .ref g9]), (h1, xI X 250 v_tape)]) hC hr hlk trivial hf hH rfl dX7_next_279
          · have hf := xe c16 hf
            refine lv_aload_n hx hb dX7_next_107 rfl (lv_at hl 0 rfl) ?_
            refine x_get hC fd_RX7_19 hH.1 0 rfl rfl dX7_next_108 ?_
            refine lv_aload_n hx hb dX7_next_111 rfl (lv_at hl 0 rfl) ?_
            refine x_get hC fd_RX7_114 hH.1 0 rfl rfl dX7_next_112 ?_
            obtain ⟨n17, hf⟩ := xok hf
            refine x_iald hC hH.1 1 rfl n17 dX7_next_115 ?_
            obtain ⟨u18, hf18, hf⟩ := xb hf
            refine x_ran (x_runS (rest := []) (As := [.int (v_tape (xat s96))]) hC mw_612 md_X7_isLetter (c_X7_isLetter (X := X) hf18) hH [] rfl (by decide) hl.1 rfl rfl (Nat.le_of_ble_eq_true rfl) dX7_next_116 ⟨Nat.le_of_ble_eq_true rfl, Nat.le_of_ble_eq_true rfl⟩ ⟨rfl, rfl⟩ ⟨Nat.le_refl _, Nat.le_refl _⟩) rfl (fun hz18 => ?_)
            refine lv_if_eq (tgt := 135) hx hb dX7_next_119 (by decide) (fun c19 => ?_) (fun c19 => ?_)
            · have hf := xt c19 hf
              refine lv_aload_n hx hb dX7_next_135 rfl (lv_at hl 0 rfl) ?_
              refine lv_bipush (v := (nI 119)) hx hb dX7_next_136 (by decide) ?_
              refine x_put (ws' := [(h0, xO 7 [.int v_laws, .ref g0, .ref g1, .int v_inForce, .int v_depth, .int v_miss, .long v_ring, .int v_size, .int v_people, .ref g2, .int v_seed, .int v_taped, .ref h1, .int s8, .int s96, .int (nI 119), .int v_value, .ref g3, .ref g4, .ref g5, .ref g6, .int v_imaged, .ref g7, .long v_oldRing, .ref g8, .long v_aheadRing, .ref g9]), (h1, xI X 250 v_tape)]) hC fd_RX7_120 hH 0 rfl (Nat.le_of_ble_eq_true rfl) rfl rfl dX7_next_138 rfl (fun H locs hH => ?_)
              refine lv_goto (tgt := 279) hx hb dX7_next_141 (by decide) ?_
              have hf := xo_ret hf ho96
              have hf := xo_ret hf ho8
              exact x_retvw (φ := fun _ => True) (wf := fun u : Int32 × Int32 × Int32 × Int32 => [(h0, xO 7 [.int v_laws, .ref g0, .ref g1, .int v_inForce, .int v_depth, .int v_miss, .long v_ring, .int v_size, .int v_people, .ref g2, .int v_seed, .int v_taped, .ref h1, .int u.1, .int u.2.1, .int u.2.2.1, .int u.2.2.2, .ref g3, .ref g4, .ref g5, .ref g6, .int v_imaged, .ref g7, .long v_oldRing, .ref g8, .long v_aheadRing, .ref g9]), (h1, xI X 250 v_tape)]) hC hr hlk trivial hf hH rfl dX7_next_279
            · have hf := xe c19 hf
              refine lv_aload_n hx hb dX7_next_122 rfl (lv_at hl 0 rfl) ?_
              refine lv_dup hx hb dX7_next_123 rfl ?_
              refine x_get hC fd_RX7_114 hH.1 0 rfl rfl dX7_next_124 ?_
              refine lv_iconst (v := (nI 1)) hx hb dX7_next_127 (by decide) ?_
              refine lv_iadd hx hb dX7_next_128 ?_
              refine x_put (ws' := [(h0, xO 7 [.int v_laws, .ref g0, .ref g1, .int v_inForce, .int v_depth, .int v_miss, .long v_ring, .int v_size, .int v_people, .ref g2, .int v_seed, .int v_taped, .ref h1, .int s8, .int (s96 + (nI 1)), .int v_token, .int v_value, .ref g3, .ref g4, .ref g5, .ref g6, .int v_imaged, .ref g7, .long v_oldRing, .ref g8, .long v_aheadRing, .ref g9]), (h1, xI X 250 v_tape)]) hC fd_RX7_114 hH 0 rfl (Nat.le_of_ble_eq_true rfl) rfl rfl dX7_next_129 rfl (fun H locs hH => ?_)
              refine lv_goto (tgt := 96) hx hb dX7_next_132 (by decide) ?_
              have hf := xo_go hf ho96
              exact ih96 (s96 + (nI 1)) hf _ _ hH ls (lv_sub hl [0] rfl)
      have J46 : ∀ (_ : True), f_X7_next_J46 v_taped v_value v_tape s8 = some o8 → ∀ (H : Heap) (locs : List Loc), xH X A [(h0, xO 7 [.int v_laws, .ref g0, .ref g1, .int v_inForce, .int v_depth, .int v_miss, .long v_ring, .int v_size, .int v_people, .ref g2, .int v_seed, .int v_taped, .ref h1, .int s8, .int v_to, .int v_token, .int v_value, .ref g3, .ref g4, .ref g5, .ref g6, .int v_imaged, .ref g7, .long v_oldRing, .ref g8, .long v_aheadRing, .ref g9]), (h1, xI X 250 v_tape)] s.heap H locs → ∀ (ls : Array Slot), lv_has ls 2 [(0, .ref h0)] → W p l e (xrm 1 20) s m args below meth c H locs 0 0 (MQ below (xQw True (.returned none) X [(h0, xO 7 [.int v_laws, .ref g0, .ref g1, .int v_inForce, .int v_depth, .int v_miss, .long v_ring, .int v_size, .int v_people, .ref g2, .int v_seed, .int v_taped, .ref h1, .int u.1, .int u.2.1, .int u.2.2.1, .int u.2.2.2, .ref g3, .ref g4, .ref g5, .ref g6, .int v_imaged, .ref g7, .long v_oldRing, .ref g8, .long v_aheadRing, .ref g9]), (h1, xI X 250 v_tape)] A) args s 0 0 A) (F0 m 46 ls []) := by
        intro _ hf H locs hH ls hl
        refine lv_aload_n hx hb dX7_next_46 rfl (lv_at hl 0 rfl) ?_
        refine lv_aload_n hx hb dX7_next_47 rfl (lv_at hl 0 rfl) ?_
        refine x_get hC fd_RX7_117 hH.1 0 rfl rfl dX7_next_48 ?_
        refine x_put (ws' := [(h0, xO 7 [.int v_laws, .ref g0, .ref g1, .int v_inForce, .int v_depth, .int v_miss, .long v_ring, .int v_size, .int v_people, .ref g2, .int v_seed, .int v_taped, .ref h1, .int s8, .int s8, .int v_token, .int v_value, .ref g3, .ref g4, .ref g5, .ref g6, .int v_imaged, .ref g7, .long v_oldRing, .ref g8, .long v_aheadRing, .ref g9]), (h1, xI X 250 v_tape)]) hC fd_RX7_114 hH 0 rfl (Nat.le_of_ble_eq_true rfl) rfl rfl dX7_next_51 rfl (fun H locs hH => ?_)
        refine lv_aload_n hx hb dX7_next_54 rfl (lv_at hl 0 rfl) ?_
        refine x_get hC fd_RX7_117 hH.1 0 rfl rfl dX7_next_55 ?_
        refine lv_aload_n hx hb dX7_next_58 rfl (lv_at hl 0 rfl) ?_
        refine x_get hC fd_RX7_111 hH.1 0 rfl rfl dX7_next_59 ?_
        refine lv_icmp_ne (tgt := 72) hx hb dX7_next_62 (by decide) (fun c2 => ?_) (fun c2 => ?_)
        · have hf := xe c2 hf
          refine lv_aload_n hx hb dX7_next_72 rfl (lv_at hl 0 rfl) ?_
          refine x_get hC fd_RX7_19 hH.1 0 rfl rfl dX7_next_73 ?_
          refine lv_aload_n hx hb dX7_next_76 rfl (lv_at hl 0 rfl) ?_
          refine lv_dup hx hb dX7_next_77 rfl ?_
          refine x_get hC fd_RX7_114 hH.1 0 rfl rfl dX7_next_78 ?_
          refine lv_dup_x1 hx hb dX7_next_81 rfl rfl ?_
          refine lv_iconst (v := (nI 1)) hx hb dX7_next_82 (by decide) ?_
          refine lv_iadd hx hb dX7_next_83 ?_
          refine x_put (ws' := [(h0, xO 7 [.int v_laws, .ref g0, .ref g1, .int v_inForce, .int v_depth, .int v_miss, .long v_ring, .int v_size, .int v_people, .ref g2, .int v_seed, .int v_taped, .ref h1, .int s8, .int (s8 + (nI 1)), .int v_token, .int v_value, .ref g3, .ref g4, .ref g5, .ref g6, .int v_imaged, .ref g7, .long v_oldRing, .ref g8, .long v_aheadRing, .ref g9]), (h1, xI X 250 v_tape)]) hC fd_RX7_114 hH 0 rfl (Nat.le_of_ble_eq_true rfl) rfl rfl dX7_next_84 rfl (fun H locs hH => ?_)
          obtain ⟨n3, hf⟩ := xok hf
          refine x_iald hC hH.1 1 rfl n3 dX7_next_87 ?_
          refine lv_istore_n (lv' := [(1, .int (v_tape (xat s8))), (0, .ref h0)]) hx hb dX7_next_88 rfl hl (by decide) rfl (fun ls hl => ?_)
          refine lv_iload_n hx hb dX7_next_89 rfl (lv_at hl 0 rfl) ?_
          obtain ⟨u4, hf4, hf⟩ := xb hf
          refine x_ran (x_runS (rest := []) (As := [.int (v_tape (xat s8))]) hC mw_612 md_X7_isLetter (c_X7_isLetter (X := X) hf4) hH [] rfl (by decide) hl.1 rfl rfl (Nat.le_of_ble_eq_true rfl) dX7_next_90 ⟨Nat.le_of_ble_eq_true rfl, Nat.le_of_ble_eq_true rfl⟩ ⟨rfl, rfl⟩ ⟨Nat.le_refl _, Nat.le_refl _⟩) rfl (fun hz4 => ?_)
          refine lv_if_eq (tgt := 144) hx hb dX7_next_93 (by decide) (fun c5 => ?_) (fun c5 => ?_)
          · have hf := xt c5 hf
            refine lv_iload_n hx hb dX7_next_144 rfl (lv_at hl 0 rfl) ?_
            obtain ⟨u6, hf6, hf⟩ := xb hf
            refine x_ran (x_runS (rest := []) (As := [.int (v_tape (xat s8))]) hC mw_615 md_X7_isDigit (c_X7_isDigit (X := X) hf6) hH [] rfl (by decide) hl.1 rfl rfl (Nat.le_of_ble_eq_true rfl) dX7_next_145 ⟨Nat.le_of_ble_eq_true rfl, Nat.le_of_ble_eq_true rfl⟩ ⟨rfl, rfl⟩ ⟨Nat.le_refl _, Nat.le_refl _⟩) rfl (fun hz6 => ?_)
            refine lv_if_eq (tgt := 262) hx hb dX7_next_148 (by decide) (fun c7 => ?_) (fun c7 => ?_)
            · have hf := xt c7 hf
              refine lv_aload_n hx hb dX7_next_262 rfl (lv_at hl 1 rfl) ?_
              refine lv_iload_n hx hb dX7_next_263 rfl (lv_at hl 0 rfl) ?_
              refine lv_bipush (v := (nI 59)) hx hb dX7_next_264 (by decide) ?_
              refine lv_icmp_ne (tgt := 274) hx hb dX7_next_266 (by decide) (fun c8 => ?_) (fun c8 => ?_)
              · have hf := xe c8 hf
                refine lv_bipush (v := (nI 120)) hx hb dX7_next_274 (by decide) ?_
                refine x_put (ws' := [(h0, xO 7 [.int v_laws, .ref g0, .ref g1, .int v_inForce, .int v_depth, .int v_miss, .long v_ring, .int v_size, .int v_people, .ref g2, .int v_seed, .int v_taped, .ref h1, .int s8, .int (s8 + (nI 1)), .int (nI 120), .int v_value, .ref g3, .ref g4, .ref g5, .ref g6, .int v_imaged, .ref g7, .long v_oldRing, .ref g8, .long v_aheadRing, .ref g9]), (h1, xI X 250 v_tape)]) hC fd_RX7_120 hH 0 rfl (Nat.le_of_ble_eq_true rfl) rfl rfl dX7_next_276 rfl (fun H locs hH => ?_)
                have hf := xo_ret hf ho8
                exact x_retvw (φ := fun _ => True) (wf := fun u : Int32 × Int32 × Int32 × Int32 => [(h0, xO 7 [.int v_laws, .ref g0, .ref g1, .int v_inForce, .int v_depth, .int v_miss, .long v_ring, .int v_size, .int v_people, .ref g2, .int v_seed, .int v_taped, .ref h1, .int u.1, .int u.2.1, .int u.2.2.1, .int u.2.2.2, .ref g3, .ref g4, .ref g5, .ref g6, .int v_imaged, .ref g7, .long v_oldRing, .ref g8, .long v_aheadRing, .ref g9]), (h1, xI X 250 v_tape)]) hC hr hlk trivial hf hH rfl dX7_next_279
              · have hf := xt c8 hf
                refine lv_bipush (v := (nI 59)) hx hb dX7_next_269 (by decide) ?_
                refine lv_goto (tgt := 276) hx hb dX7_next_271 (by decide) ?_
                refine x_put (ws' := [(h0, xO 7 [.int v_laws, .ref g0, .ref g1, .int v_inForce, .int v_depth, .int v_miss, .long v_ring, .int v_size, .int v_people, .ref g2, .int v_seed, .int v_taped, .ref h1, .int s8, .int (s8 + (nI 1)), .int (nI 59), .int v_value, .ref g3, .ref g4, .ref g5, .ref g6, .int v_imaged, .ref g7, .long v_oldRing, .ref g8, .long v_aheadRing, .ref g9]), (h1, xI X 250 v_tape)]) hC fd_RX7_120 hH 0 rfl (Nat.le_of_ble_eq_true rfl) rfl rfl dX7_next_276 rfl (fun H locs hH => ?_)
                have hf := xo_ret hf ho8
                exact x_retvw (φ := fun _ => True) (wf := fun u : Int32 × Int32 × Int32 × Int32 => [(h0, xO 7 [.int v_laws, .ref g0, .ref g1, .int v_inForce, .int v_depth, .int v_miss, .long v_ring, .int v_size, .int v_people, .ref g2, .int v_seed, .int v_taped, .ref h1, .int u.1, .int u.2.1, .int u.2.2.1, .int u.2.2.2, .ref g3, .ref g4, .ref g5, .ref g6, .int v_imaged, .ref g7, .long v_oldRing, .ref g8, .long v_aheadRing, .ref g9]), (h1, xI X 250 v_tape)]) hC hr hlk trivial hf hH rfl dX7_next_279
            · have hf := xe c7 hf
              refine lv_aload_n hx hb dX7_next_151 rfl (lv_at hl 1 rfl) ?_
              refine lv_iload_n hx hb dX7_next_152 rfl (lv_at hl 0 rfl) ?_
              refine lv_bipush (v := (nI 48)) hx hb dX7_next_153 (by decide) ?_
              refine lv_isub hx hb dX7_next_155 ?_
              refine x_put (ws' := [(h0, xO 7 [.int v_laws, .ref g0, .ref g1, .int v_inForce, .int v_depth, .int v_miss, .long v_ring, .int v_size, .int v_people, .ref g2, .int v_seed, .int v_taped, .ref h1, .int s8, .int (s8 + (nI 1)), .int v_token, .int ((v_tape (xat s8)) - (nI 48)), .ref g3, .ref g4, .ref g5, .ref g6, .int v_imaged, .ref g7, .long v_oldRing, .ref g8, .long v_aheadRing, .ref g9]), (h1, xI X 250 v_tape)]) hC fd_RX7_129 hH 0 rfl (Nat.le_of_ble_eq_true rfl) rfl rfl dX7_next_156 rfl (fun H locs hH => ?_)
              exact L159 xN (s8 + (nI 1), (v_tape (xat s8)) - (nI 48)) hf _ _ hH ls (lv_sub hl [1] rfl)
          · have hf := xe c5 hf
            exact L96 xN (s8 + (nI 1)) hf _ _ hH ls (lv_sub hl [1] rfl)
        · have hf := xt c2 hf
          refine lv_aload_n hx hb dX7_next_65 rfl (lv_at hl 0 rfl) ?_
          refine lv_bipush (v := (nI 101)) hx hb dX7_next_66 (by decide) ?_
          refine x_put (ws' := [(h0, xO 7 [.int v_laws, .ref g0, .ref g1, .int v_inForce, .int v_depth, .int v_miss, .long v_ring, .int v_size, .int v_people, .ref g2, .int v_seed, .int v_taped, .ref h1, .int s8, .int s8, .int (nI 101), .int v_value, .ref g3, .ref g4, .ref g5, .ref g6, .int v_imaged, .ref g7, .long v_oldRing, .ref g8, .long v_aheadRing, .ref g9]), (h1, xI X 250 v_tape)]) hC fd_RX7_120 hH 0 rfl (Nat.le_of_ble_eq_true rfl) rfl rfl dX7_next_68 rfl (fun H locs hH => ?_)
          have hf := xo_ret hf ho8
          exact x_retvw (φ := fun _ => True) (wf := fun u : Int32 × Int32 × Int32 × Int32 => [(h0, xO 7 [.int v_laws, .ref g0, .ref g1, .int v_inForce, .int v_depth, .int v_miss, .long v_ring, .int v_size, .int v_people, .ref g2, .int v_seed, .int v_taped, .ref h1, .int u.1, .int u.2.1, .int u.2.2.1, .int u.2.2.2, .ref g3, .ref g4, .ref g5, .ref g6, .int v_imaged, .ref g7, .long v_oldRing, .ref g8, .long v_aheadRing, .ref g9]), (h1, xI X 250 v_tape)]) hC hr hlk trivial hf hH rfl dX7_next_71
      refine lv_aload_n hx hb dX7_next_8 rfl (lv_at hl 0 rfl) ?_
      refine x_get hC fd_RX7_117 hH.1 0 rfl rfl dX7_next_9 ?_
      refine lv_aload_n hx hb dX7_next_12 rfl (lv_at hl 0 rfl) ?_
      refine x_get hC fd_RX7_111 hH.1 0 rfl rfl dX7_next_13 ?_
      refine lv_icmp_ge (tgt := 46) hx hb dX7_next_16 (by decide) (fun c1 => ?_) (fun c1 => ?_)
      · have hf := xt c1 hf
        exact J46 trivial hf _ _ hH ls (lv_sub hl [0] rfl)
      · have hf := xe c1 hf
        refine lv_aload_n hx hb dX7_next_19 rfl (lv_at hl 0 rfl) ?_
        refine x_get hC fd_RX7_19 hH.1 0 rfl rfl dX7_next_20 ?_
        refine lv_aload_n hx hb dX7_next_23 rfl (lv_at hl 0 rfl) ?_
        refine x_get hC fd_RX7_117 hH.1 0 rfl rfl dX7_next_24 ?_
        obtain ⟨n20, hf⟩ := xok hf
        refine x_iald hC hH.1 1 rfl n20 dX7_next_27 ?_
        refine lv_bipush (v := (nI 32)) hx hb dX7_next_28 (by decide) ?_
        refine lv_icmp_ne (tgt := 46) hx hb dX7_next_30 (by decide) (fun c21 => ?_) (fun c21 => ?_)
        · have hf := xe c21 hf
          exact J46 trivial hf _ _ hH ls (lv_sub hl [0] rfl)
        · have hf := xt c21 hf
          refine lv_aload_n hx hb dX7_next_33 rfl (lv_at hl 0 rfl) ?_
          refine lv_dup hx hb dX7_next_34 rfl ?_
          refine x_get hC fd_RX7_117 hH.1 0 rfl rfl dX7_next_35 ?_
          refine lv_iconst (v := (nI 1)) hx hb dX7_next_38 (by decide) ?_
          refine lv_iadd hx hb dX7_next_39 ?_
          refine x_put (ws' := [(h0, xO 7 [.int v_laws, .ref g0, .ref g1, .int v_inForce, .int v_depth, .int v_miss, .long v_ring, .int v_size, .int v_people, .ref g2, .int v_seed, .int v_taped, .ref h1, .int (s8 + (nI 1)), .int v_to, .int v_token, .int v_value, .ref g3, .ref g4, .ref g5, .ref g6, .int v_imaged, .ref g7, .long v_oldRing, .ref g8, .long v_aheadRing, .ref g9]), (h1, xI X 250 v_tape)]) hC fd_RX7_117 hH 0 rfl (Nat.le_of_ble_eq_true rfl) rfl rfl dX7_next_40 rfl (fun H locs hH => ?_)
          refine lv_goto (tgt := 8) hx hb dX7_next_43 (by decide) ?_
          have hf := xo_go hf ho8
          exact ih8 (s8 + (nI 1)) hf _ _ hH ls (lv_sub hl [0] rfl)
  refine lv_aload_n hx hb dX7_next_0 rfl (lv_at hl 0 rfl) ?_
  refine lv_aload_n hx hb dX7_next_1 rfl (lv_at hl 0 rfl) ?_
  refine x_get hC fd_RX7_114 hH.1 0 rfl rfl dX7_next_2 ?_
  refine x_put (ws' := [(h0, xO 7 [.int v_laws, .ref g0, .ref g1, .int v_inForce, .int v_depth, .int v_miss, .long v_ring, .int v_size, .int v_people, .ref g2, .int v_seed, .int v_taped, .ref h1, .int v_to, .int v_to, .int v_token, .int v_value, .ref g3, .ref g4, .ref g5, .ref g6, .int v_imaged, .ref g7, .long v_oldRing, .ref g8, .long v_aheadRing, .ref g9]), (h1, xI X 250 v_tape)]) hC fd_RX7_117 hH 0 rfl (Nat.le_of_ble_eq_true rfl) rfl rfl dX7_next_5 rfl (fun H locs hH => ?_)
  exact L8 xN v_to hf _ _ hH ls (lv_sub hl [0] rfl)
