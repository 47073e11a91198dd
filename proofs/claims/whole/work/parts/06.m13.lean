def f_X7_oldest_L18 (v_people : Int32) (v_ages : (Nat → Int32)) (v_refusals : (Nat → Int32)) (s18 : Int32 × Int32) : Option ((Int32 × (Nat → Int32)) ⊕ (Int32 × Int32)) :=
  if v_people ≤ s18.2 then
    some (.inl (s18.1, v_refusals))
  else
  if xout s18.2 10 then none else
  if xout s18.1 10 then none else
  if (v_ages (xat s18.2)) ≤ (v_ages (xat s18.1)) then
    some (.inr (s18.1, s18.2 + (nI 1)))
  else
  some (.inr (s18.2, s18.2 + (nI 1)))
def f_X7_oldest (v_people : Int32) (v_ages : (Nat → Int32)) (v_refusals : (Nat → Int32)) : Option (Int32 × (Nat → Int32)) :=
  if v_people = (nI 0) then
    (f_X7_no v_refusals (-5 : Int32)).bind fun u6 =>
    some (u6.1, u6.2)
  else
  xloop (f_X7_oldest_L18 v_people v_ages v_refusals) xN ((nI 0), (nI 1))
set_option maxHeartbeats 4000000 in
set_option maxRecDepth 100000 in
theorem c_X7_oldest {l : Launch} {X : xG} {h0 h1 h2 g0 g1 g2 g3 g4 g5 g6 g7 g8 : Nat} {v_laws : Int32} {v_inForce : Int32} {v_depth : Int32} {v_miss : Int32} {v_ring : Int64} {v_size : Int32} {v_people : Int32} {v_seed : Int32} {v_taped : Int32} {v_from : Int32} {v_to : Int32} {v_token : Int32} {v_value : Int32} {v_imaged : Int32} {v_oldRing : Int64} {v_aheadRing : Int64} {v_ages : (Nat → Int32)} {v_refusals : (Nat → Int32)} {u : Int32 × (Nat → Int32)} (hf : f_X7_oldest v_people v_ages v_refusals = some u) : Met l yX7_oldest (xw yX7_oldest cX7_oldest 3 (some .int)) (xrm 1 21) (xPc [.ref h0] X [(h0, xO 7 [.int v_laws, .ref g0, .ref g1, .int v_inForce, .int v_depth, .int v_miss, .long v_ring, .int v_size, .int v_people, .ref h1, .int v_seed, .int v_taped, .ref g2, .int v_from, .int v_to, .int v_token, .int v_value, .ref g3, .ref g4, .ref g5, .ref h2, .int v_imaged, .ref g6, .long v_oldRing, .ref g7, .long v_aheadRing, .ref g8]), (h1, xI X 10 v_ages), (h2, xI X 7 v_refusals)]) (xQw True (.returned (some (.int u.1))) X [(h0, xO 7 [.int v_laws, .ref g0, .ref g1, .int v_inForce, .int v_depth, .int v_miss, .long v_ring, .int v_size, .int v_people, .ref h1, .int v_seed, .int v_taped, .ref g2, .int v_from, .int v_to, .int v_token, .int v_value, .ref g3, .ref g4, .ref g5, .ref h2, .int v_imaged, .ref g6, .long v_oldRing, .ref g7, .long v_aheadRing, .ref g8]), (h1, xI X 10 v_ages), (h2, xI X 7 u.2)] (xAs [(h0, xO 7 [.int v_laws, .ref g0, .ref g1, .int v_inForce, .int v_depth, .int v_miss, .long v_ring, .int v_size, .int v_people, .ref h1, .int v_seed, .int v_taped, .ref g2, .int v_from, .int v_to, .int v_token, .int v_value, .ref g3, .ref g4, .ref g5, .ref h2, .int v_imaged, .ref g6, .long v_oldRing, .ref g7, .long v_aheadRing, .ref g8]), (h1, xI X 10 v_ages), (h2, xI X 7 v_refusals)])) 0 0 (xAs [(h0, xO 7 [.int v_laws, .ref g0, .ref g1, .int v_inForce, .int v_depth, .int v_miss, .long v_ring, .int v_size, .int v_people, .ref h1, .int v_seed, .int v_taped, .ref g2, .int v_from, .int v_to, .int v_token, .int v_value, .ref g3, .ref g4, .ref g5, .ref h2, .int v_imaged, .ref g6, .long v_oldRing, .ref g7, .long v_aheadRing, .ref g8]), (h1, xI X 10 v_ages), (h2, xI X 7 v_refusals)]) := by
  refine xMetw (Qc := fun A => xQw True (.returned (some (.int u.1))) X [(h0, xO 7 [.int v_laws, .ref g0, .ref g1, .int v_inForce, .int v_depth, .int v_miss, .long v_ring, .int v_size, .int v_people, .ref h1, .int v_seed, .int v_taped, .ref g2, .int v_from, .int v_to, .int v_token, .int v_value, .ref g3, .ref g4, .ref g5, .ref h2, .int v_imaged, .ref g6, .long v_oldRing, .ref g7, .long v_aheadRing, .ref g8]), (h1, xI X 10 v_ages), (h2, xI X 7 u.2)] A) (n := 0) md_X7_oldest.1 (Nat.le_of_ble_eq_true rfl) ?_
  intro p e s m args below meth c ls A hC hr hlk hH hl
  have hl : lv_has ls 3 [(0, .ref h0)] := hl
  have hx := hC.1
  have hb := hC.2.1
  have L18 : ∀ (n : Nat) (s18 : Int32 × Int32), xloop (f_X7_oldest_L18 v_people v_ages v_refusals) n s18 = some u → ∀ (H : Heap) (locs : List Loc), xH X A [(h0, xO 7 [.int v_laws, .ref g0, .ref g1, .int v_inForce, .int v_depth, .int v_miss, .long v_ring, .int v_size, .int v_people, .ref h1, .int v_seed, .int v_taped, .ref g2, .int v_from, .int v_to, .int v_token, .int v_value, .ref g3, .ref g4, .ref g5, .ref h2, .int v_imaged, .ref g6, .long v_oldRing, .ref g7, .long v_aheadRing, .ref g8]), (h1, xI X 10 v_ages), (h2, xI X 7 v_refusals)] s.heap H locs → ∀ (ls : Array Slot), lv_has ls 3 [(0, .ref h0), (1, .int s18.1), (2, .int s18.2)] → W p l e (xrm 1 21) s m args below meth c H locs 0 0 (MQ below (xQw True (.returned (some (.int u.1))) X [(h0, xO 7 [.int v_laws, .ref g0, .ref g1, .int v_inForce, .int v_depth, .int v_miss, .long v_ring, .int v_size, .int v_people, .ref h1, .int v_seed, .int v_taped, .ref g2, .int v_from, .int v_to, .int v_token, .int v_value, .ref g3, .ref g4, .ref g5, .ref h2, .int v_imaged, .ref g6, .long v_oldRing, .ref g7, .long v_aheadRing, .ref g8]), (h1, xI X 10 v_ages), (h2, xI X 7 u.2)] A) args s 0 0 A) (F0 m 18 ls []) := by
    intro  n
    induction n with
    | zero => intro s18 hf; exact xloop_0 hf
    | succ n ih18 =>
      intro s18 hf H locs hH ls hl
      obtain ⟨o18, hf, ho18⟩ := xloop_s hf
      refine lv_iload_n hx hb dX7_oldest_18 rfl (lv_at hl 2 rfl) ?_
      refine lv_aload_n hx hb dX7_oldest_19 rfl (lv_at hl 0 rfl) ?_
      refine x_get hC fd_RX7_59 hH.1 0 rfl rfl dX7_oldest_20 ?_
      refine lv_icmp_ge (tgt := 49) hx hb dX7_oldest_23 (by decide) (fun c2 => ?_) (fun c2 => ?_)
      · have hf := xt c2 hf
        refine lv_iload_n hx hb dX7_oldest_49 rfl (lv_at hl 1 rfl) ?_
        have hf := xo_ret hf ho18
        exact x_retiw (φ := fun _ => True) (f := fun u : Int32 × (Nat → Int32) => u.1) (wf := fun u : Int32 × (Nat → Int32) => [(h0, xO 7 [.int v_laws, .ref g0, .ref g1, .int v_inForce, .int v_depth, .int v_miss, .long v_ring, .int v_size, .int v_people, .ref h1, .int v_seed, .int v_taped, .ref g2, .int v_from, .int v_to, .int v_token, .int v_value, .ref g3, .ref g4, .ref g5, .ref h2, .int v_imaged, .ref g6, .long v_oldRing, .ref g7, .long v_aheadRing, .ref g8]), (h1, xI X 10 v_ages), (h2, xI X 7 u.2)]) hC hr hlk trivial hf hH rfl rfl dX7_oldest_50
      · have hf := xe c2 hf
        refine lv_aload_n hx hb dX7_oldest_26 rfl (lv_at hl 0 rfl) ?_
        refine x_get hC fd_RX7_16 hH.1 0 rfl rfl dX7_oldest_27 ?_
        refine lv_iload_n hx hb dX7_oldest_30 rfl (lv_at hl 2 rfl) ?_
        obtain ⟨n3, hf⟩ := xok hf
        refine x_iald hC hH.1 1 rfl n3 dX7_oldest_31 ?_
        refine lv_aload_n hx hb dX7_oldest_32 rfl (lv_at hl 0 rfl) ?_
        refine x_get hC fd_RX7_16 hH.1 0 rfl rfl dX7_oldest_33 ?_
        refine lv_iload_n hx hb dX7_oldest_36 rfl (lv_at hl 1 rfl) ?_
        obtain ⟨n4, hf⟩ := xok hf
        refine x_iald hC hH.1 1 rfl n4 dX7_oldest_37 ?_
        refine lv_icmp_le (tgt := 43) hx hb dX7_oldest_38 (by decide) (fun c5 => ?_) (fun c5 => ?_)
        · have hf := xt c5 hf
          refine lv_iinc (v := s18.2 + (nI 1)) (lv' := [(2, .int (s18.2 + (nI 1))), (0, .ref h0), (1, .int s18.1)]) hx hb dX7_oldest_43 hl (k := 2) rfl rfl (by decide) rfl (fun ls hl => ?_)
          refine lv_goto (tgt := 18) hx hb dX7_oldest_46 (by decide) ?_
          have hf := xo_go hf ho18
          exact ih18 (s18.1, s18.2 + (nI 1)) hf _ _ hH ls (lv_sub hl [1, 2, 0] rfl)
        · have hf := xe c5 hf
          refine lv_iload_n hx hb dX7_oldest_41 rfl (lv_at hl 2 rfl) ?_
          refine lv_istore_n (lv' := [(1, .int s18.2), (0, .ref h0), (2, .int s18.2)]) hx hb dX7_oldest_42 rfl hl (by decide) rfl (fun ls hl => ?_)
          refine lv_iinc (v := s18.2 + (nI 1)) (lv' := [(2, .int (s18.2 + (nI 1))), (1, .int s18.2), (0, .ref h0)]) hx hb dX7_oldest_43 hl (k := 2) rfl rfl (by decide) rfl (fun ls hl => ?_)
          refine lv_goto (tgt := 18) hx hb dX7_oldest_46 (by decide) ?_
          have hf := xo_go hf ho18
          exact ih18 (s18.2, s18.2 + (nI 1)) hf _ _ hH ls (lv_sub hl [2, 1, 0] rfl)
  refine lv_aload_n hx hb dX7_oldest_0 rfl (lv_at hl 0 rfl) ?_
  refine x_get hC fd_RX7_59 hH.1 0 rfl rfl dX7_oldest_1 ?_
  refine lv_if_ne (tgt := 14) hx hb dX7_oldest_4 (by decide) (fun c1 => ?_) (fun c1 => ?_)
  · have hf := xe c1 hf
    refine lv_iconst (v := (nI 0)) hx hb dX7_oldest_14 (by decide) ?_
    refine lv_istore_n (lv' := [(1, .int (nI 0)), (0, .ref h0)]) hx hb dX7_oldest_15 rfl hl (by decide) rfl (fun ls hl => ?_)
    refine lv_iconst (v := (nI 1)) hx hb dX7_oldest_16 (by decide) ?_
    refine lv_istore_n (lv' := [(2, .int (nI 1)), (1, .int (nI 0)), (0, .ref h0)]) hx hb dX7_oldest_17 rfl hl (by decide) rfl (fun ls hl => ?_)
    exact L18 xN ((nI 0), (nI 1)) hf _ _ hH ls (lv_sub hl [2, 1, 0] rfl)
  · have hf := xt c1 hf
    refine lv_aload_n hx hb dX7_oldest_7 rfl (lv_at hl 0 rfl) ?_
    refine lv_bipush (v := (-5 : Int32)) hx hb dX7_oldest_8 (by decide) ?_
    obtain ⟨u6, hf6, hf⟩ := xb hf
    refine x_ranw (ws' := [(h0, xO 7 [.int v_laws, .ref g0, .ref g1, .int v_inForce, .int v_depth, .int v_miss, .long v_ring, .int v_size, .int v_people, .ref h1, .int v_seed, .int v_taped, .ref g2, .int v_from, .int v_to, .int v_token, .int v_value, .ref g3, .ref g4, .ref g5, .ref h2, .int v_imaged, .ref g6, .long v_oldRing, .ref g7, .long v_aheadRing, .ref g8]), (h1, xI X 10 v_ages), (h2, xI X 7 u6.2)]) (x_runV (q0 := 0) (rest := []) (As := [.int (-5 : Int32)]) hC mw_143 md_X7_no (c_X7_no (X := X) hf6) hH [0, 2] rfl (by decide) rfl rfl rfl hl.1 rfl rfl (Nat.le_of_ble_eq_true rfl) dX7_oldest_10 ⟨Nat.le_of_ble_eq_true rfl, Nat.le_of_ble_eq_true rfl⟩ ⟨rfl, rfl⟩ ⟨Nat.le_refl _, Nat.le_refl _⟩) hH [0, 2] rfl rfl rfl rfl rfl (fun hz6 H locs hH => ?_)
    exact x_retiw (φ := fun _ => True) (f := fun u : Int32 × (Nat → Int32) => u.1) (wf := fun u : Int32 × (Nat → Int32) => [(h0, xO 7 [.int v_laws, .ref g0, .ref g1, .int v_inForce, .int v_depth, .int v_miss, .long v_ring, .int v_size, .int v_people, .ref h1, .int v_seed, .int v_taped, .ref g2, .int v_from, .int v_to, .int v_token, .int v_value, .ref g3, .ref g4, .ref g5, .ref h2, .int v_imaged, .ref g6, .long v_oldRing, .ref g7, .long v_aheadRing, .ref g8]), (h1, xI X 10 v_ages), (h2, xI X 7 u.2)]) hC hr hlk trivial hf hH rfl rfl dX7_oldest_13
def f_X7_toldAt (v_rowOf : (Nat → Int64)) (p1 : Int32) (p2 : Int32) : Option (Int64) :=
  if xout (((nI 40) * p1) + p2) 320 then none else
  some (v_rowOf (xat (((nI 40) * p1) + p2)))
set_option maxHeartbeats 4000000 in
set_option maxRecDepth 100000 in
theorem c_X7_toldAt {l : Launch} {X : xG} {h0 h1 g0 g1 g2 g3 g4 g5 g6 g7 g8 g9 : Nat} {v_laws : Int32} {v_inForce : Int32} {v_depth : Int32} {v_miss : Int32} {v_ring : Int64} {v_size : Int32} {v_people : Int32} {v_seed : Int32} {v_taped : Int32} {v_from : Int32} {v_to : Int32} {v_token : Int32} {v_value : Int32} {v_imaged : Int32} {v_oldRing : Int64} {v_aheadRing : Int64} {v_rowOf : (Nat → Int64)} {p1 : Int32} {p2 : Int32} {u : Int64} (hf : f_X7_toldAt v_rowOf p1 p2 = some u) : Met l yX7_toldAt (xw yX7_toldAt cX7_toldAt 3 (some .long)) (xrm 0 0) (xPc [.ref h0, .int p1, .int p2] X [(h0, xO 7 [.int v_laws, .ref g0, .ref g1, .int v_inForce, .int v_depth, .int v_miss, .long v_ring, .int v_size, .int v_people, .ref g2, .int v_seed, .int v_taped, .ref g3, .int v_from, .int v_to, .int v_token, .int v_value, .ref g4, .ref g5, .ref h1, .ref g6, .int v_imaged, .ref g7, .long v_oldRing, .ref g8, .long v_aheadRing, .ref g9]), (h1, xJ X 320 v_rowOf)]) (xQ True (.returned (some (.long u)))) 0 0 xNo := by
  refine xMet (n := 2) md_X7_toldAt.1 (Nat.le_of_ble_eq_true rfl) ?_
  intro p e s m args below meth c ls A hC hr hlk hH hl
  have hl : lv_has ls 3 [(0, .ref h0), (1, .int p1), (2, .int p2)] := hl
  have hx := hC.1
  have hb := hC.2.1
  refine lv_aload_n hx hb dX7_toldAt_0 rfl (lv_at hl 0 rfl) ?_
  refine x_get hC fd_RX7_28 hH.1 0 rfl rfl dX7_toldAt_1 ?_
  refine lv_bipush (v := (nI 40)) hx hb dX7_toldAt_4 (by decide) ?_
  refine lv_iload_n hx hb dX7_toldAt_6 rfl (lv_at hl 1 rfl) ?_
  refine lv_imul hx hb dX7_toldAt_7 ?_
  refine lv_iload_n hx hb dX7_toldAt_8 rfl (lv_at hl 2 rfl) ?_
  refine lv_iadd hx hb dX7_toldAt_9 ?_
  obtain ⟨n1, hf⟩ := xok hf
  refine x_lald hC hH.1 1 rfl n1 dX7_toldAt_10 ?_
  exact x_retl hC hr hlk trivial hf dX7_toldAt_11
def f_X7_noRing (v_holding : (Nat → Int32)) (v_rowLength : (Nat → Int32)) (p1 : Int32) (p2 : Int32) : Option (Int32) :=
  (f_X7_isShelf p1).bind fun u1 =>
  if u1 = (nI 0) then
    some (-2 : Int32)
  else
  (f_X7_within p2 (nI 0) (nI 40)).bind fun u3 =>
  if u3 = (nI 0) then
    some (-2 : Int32)
  else
  (f_X7_isRow v_holding p1).bind fun u5 =>
  if u5 = (nI 0) then
    (f_X7_noRow v_holding p1).bind fun u9 =>
    some u9
  else
  if xout p1 8 then none else
  if p2 ≤ (v_rowLength (xat p1)) then
    some (nI 0)
  else
  some (-2 : Int32)
set_option maxHeartbeats 4000000 in
set_option maxRecDepth 100000 in
theorem c_X7_noRing {l : Launch} {X : xG} {h0 h1 h2 g0 g1 g2 g3 g4 g5 g6 g7 g8 : Nat} {v_laws : Int32} {v_inForce : Int32} {v_depth : Int32} {v_miss : Int32} {v_ring : Int64} {v_size : Int32} {v_people : Int32} {v_seed : Int32} {v_taped : Int32} {v_from : Int32} {v_to : Int32} {v_token : Int32} {v_value : Int32} {v_imaged : Int32} {v_oldRing : Int64} {v_aheadRing : Int64} {v_holding : (Nat → Int32)} {v_rowLength : (Nat → Int32)} {p1 : Int32} {p2 : Int32} {u : Int32} (hf : f_X7_noRing v_holding v_rowLength p1 p2 = some u) : Met l yX7_noRing (xw yX7_noRing cX7_noRing 3 (some .int)) (xrm 2 43) (xPc [.ref h0, .int p1, .int p2] X [(h0, xO 7 [.int v_laws, .ref g0, .ref g1, .int v_inForce, .int v_depth, .int v_miss, .long v_ring, .int v_size, .int v_people, .ref g2, .int v_seed, .int v_taped, .ref g3, .int v_from, .int v_to, .int v_token, .int v_value, .ref h1, .ref h2, .ref g4, .ref g5, .int v_imaged, .ref g6, .long v_oldRing, .ref g7, .long v_aheadRing, .ref g8]), (h1, xI X 8 v_holding), (h2, xI X 8 v_rowLength)]) (xQ True (.returned (some (.int u)))) 0 0 xNo := by
  refine xMet (n := 2) md_X7_noRing.1 (Nat.le_of_ble_eq_true rfl) ?_
  intro p e s m args below meth c ls A hC hr hlk hH hl
  have hl : lv_has ls 3 [(0, .ref h0), (1, .int p1), (2, .int p2)] := hl
  have hx := hC.1
  have hb := hC.2.1
  refine lv_iload_n hx hb dX7_noRing_0 rfl (lv_at hl 1 rfl) ?_
  obtain ⟨u1, hf1, hf⟩ := xb hf
  refine x_ran (x_runS (rest := []) (As := [.int p1]) hC mw_137 md_X7_isShelf (c_X7_isShelf (X := X) hf1) hH [] rfl (by decide) hl.1 rfl rfl (Nat.le_of_ble_eq_true rfl) dX7_noRing_1 ⟨Nat.le_of_ble_eq_true rfl, Nat.le_of_ble_eq_true rfl⟩ ⟨rfl, rfl⟩ ⟨Nat.le_refl _, Nat.le_refl _⟩) rfl (fun hz1 => ?_)
  refine lv_if_eq (tgt := 17) hx hb dX7_noRing_4 (by decide) (fun c2 => ?_) (fun c2 => ?_)
  · have hf := xt c2 hf
    refine lv_bipush (v := (-2 : Int32)) hx hb dX7_noRing_17 (by decide) ?_
    exact x_reti hC hr hlk trivial hf dX7_noRing_19
  · have hf := xe c2 hf
    refine lv_iload_n hx hb dX7_noRing_7 rfl (lv_at hl 2 rfl) ?_
    refine lv_iconst (v := (nI 0)) hx hb dX7_noRing_8 (by decide) ?_
    refine lv_bipush (v := (nI 40)) hx hb dX7_noRing_9 (by decide) ?_
    obtain ⟨u3, hf3, hf⟩ := xb hf
    refine x_ran (x_runS (rest := []) (As := [.int p2, .int (nI 0), .int (nI 40)]) hC mw_140 md_X7_within (c_X7_within (X := X) hf3) hH [] rfl (by decide) hl.1 rfl rfl (Nat.le_of_ble_eq_true rfl) dX7_noRing_11 ⟨Nat.le_of_ble_eq_true rfl, Nat.le_of_ble_eq_true rfl⟩ ⟨rfl, rfl⟩ ⟨Nat.le_refl _, Nat.le_refl _⟩) rfl (fun hz3 => ?_)
    refine lv_if_ne (tgt := 20) hx hb dX7_noRing_14 (by decide) (fun c4 => ?_) (fun c4 => ?_)
    · have hf := xe c4 hf
      refine lv_aload_n hx hb dX7_noRing_20 rfl (lv_at hl 0 rfl) ?_
      refine lv_iload_n hx hb dX7_noRing_21 rfl (lv_at hl 1 rfl) ?_
      obtain ⟨u5, hf5, hf⟩ := xb hf
      refine x_ran (x_runV (q0 := 0) (rest := []) (As := [.int p1]) hC mw_169 md_X7_isRow (c_X7_isRow (X := X) hf5) hH [0, 1] rfl (by decide) rfl rfl rfl hl.1 rfl rfl (Nat.le_of_ble_eq_true rfl) dX7_noRing_22 ⟨Nat.le_of_ble_eq_true rfl, Nat.le_of_ble_eq_true rfl⟩ ⟨rfl, rfl⟩ ⟨Nat.le_refl _, Nat.le_refl _⟩) rfl (fun hz5 => ?_)
      refine lv_if_ne (tgt := 36) hx hb dX7_noRing_25 (by decide) (fun c6 => ?_) (fun c6 => ?_)
      · have hf := xe c6 hf
        refine lv_iload_n hx hb dX7_noRing_36 rfl (lv_at hl 2 rfl) ?_
        refine lv_aload_n hx hb dX7_noRing_37 rfl (lv_at hl 0 rfl) ?_
        refine x_get hC fd_RX7_25 hH.1 0 rfl rfl dX7_noRing_38 ?_
        refine lv_iload_n hx hb dX7_noRing_41 rfl (lv_at hl 1 rfl) ?_
        obtain ⟨n7, hf⟩ := xok hf
        refine x_iald hC hH.1 2 rfl n7 dX7_noRing_42 ?_
        refine lv_icmp_le (tgt := 51) hx hb dX7_noRing_43 (by decide) (fun c8 => ?_) (fun c8 => ?_)
        · have hf := xt c8 hf
          refine lv_iconst (v := (nI 0)) hx hb dX7_noRing_51 (by decide) ?_
          exact x_reti hC hr hlk trivial hf dX7_noRing_52
        · have hf := xe c8 hf
          refine lv_bipush (v := (-2 : Int32)) hx hb dX7_noRing_46 (by decide) ?_
          refine lv_goto (tgt := 52) hx hb dX7_noRing_48 (by decide) ?_
          exact x_reti hC hr hlk trivial hf dX7_noRing_52
      · have hf := xt c6 hf
        refine lv_aload_n hx hb dX7_noRing_28 rfl (lv_at hl 0 rfl) ?_
        refine lv_iload_n hx hb dX7_noRing_29 rfl (lv_at hl 1 rfl) ?_
        obtain ⟨u9, hf9, hf⟩ := xb hf
        refine x_ran (x_runV (q0 := 0) (rest := []) (As := [.int p1]) hC mw_173 md_X7_noRow (c_X7_noRow (X := X) hf9) hH [0, 1] rfl (by decide) rfl rfl rfl hl.1 rfl rfl (Nat.le_of_ble_eq_true rfl) dX7_noRing_30 ⟨Nat.le_of_ble_eq_true rfl, Nat.le_of_ble_eq_true rfl⟩ ⟨rfl, rfl⟩ ⟨Nat.le_refl _, Nat.le_refl _⟩) rfl (fun hz9 => ?_)
        refine lv_goto (tgt := 52) hx hb dX7_noRing_33 (by decide) ?_
        exact x_reti hC hr hlk trivial hf dX7_noRing_52
    · have hf := xt c4 hf
      refine lv_bipush (v := (-2 : Int32)) hx hb dX7_noRing_17 (by decide) ?_
      exact x_reti hC hr hlk trivial hf dX7_noRing_19
def f_X7_wrong_L2 (v_rowOf : (Nat → Int64)) (p1 : Int32) (p2 : Int32) (s2 : Int32) : Option ((Int32) ⊕ (Int32)) :=
  if p2 ≤ s2 then
    some (.inl (-1 : Int32))
  else
  (f_X7_toldAt v_rowOf p1 s2).bind fun u2 =>
  if (xcmp u2 (lN 0)) = (nI 0) then
    some (.inr (s2 + (nI 1)))
  else
  (f_X7_toldAt v_rowOf p1 s2).bind fun u4 =>
  if (xcmp u4 (lN 1)) = (nI 0) then
    some (.inr (s2 + (nI 1)))
  else
  some (.inl s2)
def f_X7_wrong (v_rowOf : (Nat → Int64)) (p1 : Int32) (p2 : Int32) : Option (Int32) :=
  xloop (f_X7_wrong_L2 v_rowOf p1 p2) xN (nI 0)
set_option maxHeartbeats 4000000 in
set_option maxRecDepth 100000 in
theorem c_X7_wrong {l : Launch} {X : xG} {h0 h1 g0 g1 g2 g3 g4 g5 g6 g7 g8 g9 : Nat} {v_laws : Int32} {v_inForce : Int32} {v_depth : Int32} {v_miss : Int32} {v_ring : Int64} {v_size : Int32} {v_people : Int32} {v_seed : Int32} {v_taped : Int32} {v_from : Int32} {v_to : Int32} {v_token : Int32} {v_value : Int32} {v_imaged : Int32} {v_oldRing : Int64} {v_aheadRing : Int64} {v_rowOf : (Nat → Int64)} {p1 : Int32} {p2 : Int32} {u : Int32} (hf : f_X7_wrong v_rowOf p1 p2 = some u) : Met l yX7_wrong (xw yX7_wrong cX7_wrong 4 (some .int)) (xrm 1 22) (xPc [.ref h0, .int p1, .int p2] X [(h0, xO 7 [.int v_laws, .ref g0, .ref g1, .int v_inForce, .int v_depth, .int v_miss, .long v_ring, .int v_size, .int v_people, .ref g2, .int v_seed, .int v_taped, .ref g3, .int v_from, .int v_to, .int v_token, .int v_value, .ref g4, .ref g5, .ref h1, .ref g6, .int v_imaged, .ref g7, .long v_oldRing, .ref g8, .long v_aheadRing, .ref g9]), (h1, xJ X 320 v_rowOf)]) (xQ True (.returned (some (.int u)))) 0 0 xNo := by
  refine xMet (n := 2) md_X7_wrong.1 (Nat.le_of_ble_eq_true rfl) ?_
  intro p e s m args below meth c ls A hC hr hlk hH hl
  have hl : lv_has ls 4 [(0, .ref h0), (1, .int p1), (2, .int p2)] := hl
  have hx := hC.1
  have hb := hC.2.1
  have L2 : ∀ (n : Nat) (s2 : Int32), xloop (f_X7_wrong_L2 v_rowOf p1 p2) n s2 = some u → ∀ (ls : Array Slot), lv_has ls 4 [(0, .ref h0), (1, .int p1), (2, .int p2), (3, .int s2)] → W p l e (xrm 1 22) s m args below meth c s.heap [] 0 0 (MQ below (xQ True (.returned (some (.int u)))) args s 0 0 xNo) (F0 m 2 ls []) := by
    intro  n
    induction n with
    | zero => intro s2 hf; exact xloop_0 hf
    | succ n ih2 =>
      intro s2 hf ls hl
      obtain ⟨o2, hf, ho2⟩ := xloop_s hf
      refine lv_iload_n hx hb dX7_wrong_2 rfl (lv_at hl 3 rfl) ?_
      refine lv_iload_n hx hb dX7_wrong_3 rfl (lv_at hl 2 rfl) ?_
      refine lv_icmp_ge (tgt := 37) hx hb dX7_wrong_4 (by decide) (fun c1 => ?_) (fun c1 => ?_)
      · have hf := xt c1 hf
        refine lv_iconst (v := (-1 : Int32)) hx hb dX7_wrong_37 (by decide) ?_
        have hf := xo_ret hf ho2
        exact x_reti hC hr hlk trivial hf dX7_wrong_38
      · have hf := xe c1 hf
        refine lv_aload_n hx hb dX7_wrong_7 rfl (lv_at hl 0 rfl) ?_
        refine lv_iload_n hx hb dX7_wrong_8 rfl (lv_at hl 1 rfl) ?_
        refine lv_iload_n hx hb dX7_wrong_9 rfl (lv_at hl 3 rfl) ?_
        obtain ⟨u2, hf2, hf⟩ := xb hf
        refine x_ran (x_runV (q0 := 0) (rest := []) (As := [.int p1, .int s2]) hC mw_1255 md_X7_toldAt (c_X7_toldAt (X := X) hf2) hH [0, 1] rfl (by decide) rfl rfl rfl hl.1 rfl rfl (Nat.le_of_ble_eq_true rfl) dX7_wrong_10 ⟨Nat.le_of_ble_eq_true rfl, Nat.le_of_ble_eq_true rfl⟩ ⟨rfl, rfl⟩ ⟨Nat.le_refl _, Nat.le_refl _⟩) rfl (fun hz2 => ?_)
        refine lv_lconst (v := (lN 0)) hx hb dX7_wrong_13 (by decide) ?_
        refine x_lcmp hx hb dX7_wrong_14 ?_
        refine lv_if_eq (tgt := 31) hx hb dX7_wrong_15 (by decide) (fun c3 => ?_) (fun c3 => ?_)
        · have hf := xt c3 hf
          refine lv_iinc (v := s2 + (nI 1)) (lv' := [(3, .int (s2 + (nI 1))), (0, .ref h0), (1, .int p1), (2, .int p2)]) hx hb dX7_wrong_31 hl (k := 3) rfl rfl (by decide) rfl (fun ls hl => ?_)
          refine lv_goto (tgt := 2) hx hb dX7_wrong_34 (by decide) ?_
          have hf := xo_go hf ho2
          exact ih2 (s2 + (nI 1)) hf ls (lv_sub hl [1, 2, 3, 0] rfl)
        · have hf := xe c3 hf
          refine lv_aload_n hx hb dX7_wrong_18 rfl (lv_at hl 0 rfl) ?_
          refine lv_iload_n hx hb dX7_wrong_19 rfl (lv_at hl 1 rfl) ?_
          refine lv_iload_n hx hb dX7_wrong_20 rfl (lv_at hl 3 rfl) ?_
          obtain ⟨u4, hf4, hf⟩ := xb hf
          refine x_ran (x_runV (q0 := 0) (rest := []) (As := [.int p1, .int s2]) hC mw_1255 md_X7_toldAt (c_X7_toldAt (X := X) hf4) hH [0, 1] rfl (by decide) rfl rfl rfl hl.1 rfl rfl (Nat.le_of_ble_eq_true rfl) dX7_wrong_21 ⟨Nat.le_of_ble_eq_true rfl, Nat.le_of_ble_eq_true rfl⟩ ⟨rfl, rfl⟩ ⟨Nat.le_refl _, Nat.le_refl _⟩) rfl (fun hz4 => ?_)
          refine lv_lconst (v := (lN 1)) hx hb dX7_wrong_24 (by decide) ?_
          refine x_lcmp hx hb dX7_wrong_25 ?_
          refine lv_if_eq (tgt := 31) hx hb dX7_wrong_26 (by decide) (fun c5 => ?_) (fun c5 => ?_)
          · have hf := xt c5 hf
            refine lv_iinc (v := s2 + (nI 1)) (lv' := [(3, .int (s2 + (nI 1))), (0, .ref h0), (1, .int p1), (2, .int p2)]) hx hb dX7_wrong_31 hl (k := 3) rfl rfl (by decide) rfl (fun ls hl => ?_)
            refine lv_goto (tgt := 2) hx hb dX7_wrong_34 (by decide) ?_
            have hf := xo_go hf ho2
            exact ih2 (s2 + (nI 1)) hf ls (lv_sub hl [1, 2, 3, 0] rfl)
          · have hf := xe c5 hf
            refine lv_iload_n hx hb dX7_wrong_29 rfl (lv_at hl 3 rfl) ?_
            have hf := xo_ret hf ho2
            exact x_reti hC hr hlk trivial hf dX7_wrong_30
  refine lv_iconst (v := (nI 0)) hx hb dX7_wrong_0 (by decide) ?_
  refine lv_istore_n (lv' := [(3, .int (nI 0)), (0, .ref h0), (1, .int p1), (2, .int p2)]) hx hb dX7_wrong_1 rfl hl (by decide) rfl (fun ls hl => ?_)
  exact L2 xN (nI 0) hf ls (lv_sub hl [1, 2, 3, 0] rfl)
def f_X7_told_L5 (v_rowOf : (Nat → Int64)) (p1 : Int32) (p2 : Int32) (s5 : Int64 × Int32) : Option ((Int64) ⊕ (Int64 × Int32)) :=
  if p2 ≤ s5.2 then
    some (.inl s5.1)
  else
  (f_X7_toldAt v_rowOf p1 s5.2).bind fun u2 =>
  if (xcmp u2 (lN 1)) = (nI 0) then
    some (.inr (s5.1 ||| (xlshl (lN 1) s5.2), s5.2 + (nI 1)))
  else
  some (.inr (s5.1, s5.2 + (nI 1)))
def f_X7_told (v_rowOf : (Nat → Int64)) (p1 : Int32) (p2 : Int32) : Option (Int64) :=
  xloop (f_X7_told_L5 v_rowOf p1 p2) xN ((lN 0), (nI 0))
set_option maxHeartbeats 4000000 in
set_option maxRecDepth 100000 in
theorem c_X7_told {l : Launch} {X : xG} {h0 h1 g0 g1 g2 g3 g4 g5 g6 g7 g8 g9 : Nat} {v_laws : Int32} {v_inForce : Int32} {v_depth : Int32} {v_miss : Int32} {v_ring : Int64} {v_size : Int32} {v_people : Int32} {v_seed : Int32} {v_taped : Int32} {v_from : Int32} {v_to : Int32} {v_token : Int32} {v_value : Int32} {v_imaged : Int32} {v_oldRing : Int64} {v_aheadRing : Int64} {v_rowOf : (Nat → Int64)} {p1 : Int32} {p2 : Int32} {u : Int64} (hf : f_X7_told v_rowOf p1 p2 = some u) : Met l yX7_told (xw yX7_told cX7_told 6 (some .long)) (xrm 1 22) (xPc [.ref h0, .int p1, .int p2] X [(h0, xO 7 [.int v_laws, .ref g0, .ref g1, .int v_inForce, .int v_depth, .int v_miss, .long v_ring, .int v_size, .int v_people, .ref g2, .int v_seed, .int v_taped, .ref g3, .int v_from, .int v_to, .int v_token, .int v_value, .ref g4, .ref g5, .ref h1, .ref g6, .int v_imaged, .ref g7, .long v_oldRing, .ref g8, .long v_aheadRing, .ref g9]), (h1, xJ X 320 v_rowOf)]) (xQ True (.returned (some (.long u)))) 0 0 xNo := by
  refine xMet (n := 2) md_X7_told.1 (Nat.le_of_ble_eq_true rfl) ?_
  intro p e s m args below meth c ls A hC hr hlk hH hl
  have hl : lv_has ls 6 [(0, .ref h0), (1, .int p1), (2, .int p2)] := hl
  have hx := hC.1
  have hb := hC.2.1
  have L5 : ∀ (n : Nat) (s5 : Int64 × Int32), xloop (f_X7_told_L5 v_rowOf p1 p2) n s5 = some u → ∀ (ls : Array Slot), lv_has ls 6 [(0, .ref h0), (1, .int p1), (2, .int p2), (3, .long s5.1), (5, .int s5.2)] → W p l e (xrm 1 22) s m args below meth c s.heap [] 0 0 (MQ below (xQ True (.returned (some (.long u)))) args s 0 0 xNo) (F0 m 5 ls []) := by
    intro  n
    induction n with
    | zero => intro s5 hf; exact xloop_0 hf
    | succ n ih5 =>
      intro s5 hf ls hl
      obtain ⟨o5, hf, ho5⟩ := xloop_s hf
      refine lv_iload hx hb dX7_told_5 (lv_at hl 4 rfl) ?_
      refine lv_iload_n hx hb dX7_told_7 rfl (lv_at hl 2 rfl) ?_
      refine lv_icmp_ge (tgt := 36) hx hb dX7_told_8 (by decide) (fun c1 => ?_) (fun c1 => ?_)
      · have hf := xt c1 hf
        refine lv_lload_n hx hb dX7_told_36 rfl (lv_at hl 3 rfl) ?_
        have hf := xo_ret hf ho5
        exact x_retl hC hr hlk trivial hf dX7_told_37
      · have hf := xe c1 hf
        refine lv_aload_n hx hb dX7_told_11 rfl (lv_at hl 0 rfl) ?_
        refine lv_iload_n hx hb dX7_told_12 rfl (lv_at hl 1 rfl) ?_
        refine lv_iload hx hb dX7_told_13 (lv_at hl 4 rfl) ?_
        obtain ⟨u2, hf2, hf⟩ := xb hf
        refine x_ran (x_runV (q0 := 0) (rest := []) (As := [.int p1, .int s5.2]) hC mw_1255 md_X7_toldAt (c_X7_toldAt (X := X) hf2) hH [0, 1] rfl (by decide) rfl rfl rfl hl.1 rfl rfl (Nat.le_of_ble_eq_true rfl) dX7_told_15 ⟨Nat.le_of_ble_eq_true rfl, Nat.le_of_ble_eq_true rfl⟩ ⟨rfl, rfl⟩ ⟨Nat.le_refl _, Nat.le_refl _⟩) rfl (fun hz2 => ?_)
        refine lv_lconst (v := (lN 1)) hx hb dX7_told_18 (by decide) ?_
        refine x_lcmp hx hb dX7_told_19 ?_
        refine lv_if_ne (tgt := 30) hx hb dX7_told_20 (by decide) (fun c3 => ?_) (fun c3 => ?_)
        · have hf := xe c3 hf
          refine lv_iinc (v := s5.2 + (nI 1)) (lv' := [(5, .int (s5.2 + (nI 1))), (0, .ref h0), (1, .int p1), (2, .int p2), (3, .long s5.1)]) hx hb dX7_told_30 hl (k := 4) rfl rfl (by decide) rfl (fun ls hl => ?_)
          refine lv_goto (tgt := 5) hx hb dX7_told_33 (by decide) ?_
          have hf := xo_go hf ho5
          exact ih5 (s5.1, s5.2 + (nI 1)) hf ls (lv_sub hl [1, 2, 3, 4, 0] rfl)
        · have hf := xt c3 hf
          refine lv_lload_n hx hb dX7_told_23 rfl (lv_at hl 3 rfl) ?_
          refine lv_lconst (v := (lN 1)) hx hb dX7_told_24 (by decide) ?_
          refine lv_iload hx hb dX7_told_25 (lv_at hl 4 rfl) ?_
          refine x_lshl hx hb dX7_told_27 ?_
          refine lv_lor hx hb dX7_told_28 ?_
          refine lv_lstore_n (lv' := [(3, .long (s5.1 ||| (xlshl (lN 1) s5.2))), (0, .ref h0), (1, .int p1), (2, .int p2), (5, .int s5.2)]) hx hb dX7_told_29 rfl hl (by decide) rfl (fun ls hl => ?_)
          refine lv_iinc (v := s5.2 + (nI 1)) (lv' := [(5, .int (s5.2 + (nI 1))), (3, .long (s5.1 ||| (xlshl (lN 1) s5.2))), (0, .ref h0), (1, .int p1), (2, .int p2)]) hx hb dX7_told_30 hl (k := 4) rfl rfl (by decide) rfl (fun ls hl => ?_)
          refine lv_goto (tgt := 5) hx hb dX7_told_33 (by decide) ?_
          have hf := xo_go hf ho5
          exact ih5 (s5.1 ||| (xlshl (lN 1) s5.2), s5.2 + (nI 1)) hf ls (lv_sub hl [2, 3, 4, 1, 0] rfl)
  refine lv_lconst (v := (lN 0)) hx hb dX7_told_0 (by decide) ?_
  refine lv_lstore_n (lv' := [(3, .long (lN 0)), (0, .ref h0), (1, .int p1), (2, .int p2)]) hx hb dX7_told_1 rfl hl (by decide) rfl (fun ls hl => ?_)
  refine lv_iconst (v := (nI 0)) hx hb dX7_told_2 (by decide) ?_
  refine lv_istore (lv' := [(5, .int (nI 0)), (3, .long (lN 0)), (0, .ref h0), (1, .int p1), (2, .int p2)]) hx hb dX7_told_3 hl (by decide) rfl (fun ls hl => ?_)
  exact L5 xN ((lN 0), (nI 0)) hf ls (lv_sub hl [2, 3, 4, 1, 0] rfl)
def f_X7_judge (v_holding : (Nat → Int32)) (v_refusals : (Nat → Int32)) (v_rowLength : (Nat → Int32)) (v_rowOf : (Nat → Int64)) (p1 : Int32) (p2 : Int32) : Option (Int32 × (Nat → Int32)) :=
  (f_X7_noRing v_holding v_rowLength p1 p2).bind fun u1 =>
  if (nI 0) ≤ u1 then
    (f_X7_wrong v_rowOf p1 p2).bind fun u3 =>
    some (u3, v_refusals)
  else
  (f_X7_no v_refusals u1).bind fun u4 =>
  some (u4.1, u4.2)
set_option maxHeartbeats 4000000 in
set_option maxRecDepth 100000 in
theorem c_X7_judge {l : Launch} {X : xG} {h0 h1 h2 h3 h4 g0 g1 g2 g3 g4 g5 g6 : Nat} {v_laws : Int32} {v_inForce : Int32} {v_depth : Int32} {v_miss : Int32} {v_ring : Int64} {v_size : Int32} {v_people : Int32} {v_seed : Int32} {v_taped : Int32} {v_from : Int32} {v_to : Int32} {v_token : Int32} {v_value : Int32} {v_imaged : Int32} {v_oldRing : Int64} {v_aheadRing : Int64} {v_holding : (Nat → Int32)} {v_refusals : (Nat → Int32)} {v_rowLength : (Nat → Int32)} {v_rowOf : (Nat → Int64)} {p1 : Int32} {p2 : Int32} {u : Int32 × (Nat → Int32)} (hf : f_X7_judge v_holding v_refusals v_rowLength v_rowOf p1 p2 = some u) : Met l yX7_judge (xw yX7_judge cX7_judge 4 (some .int)) (xrm 3 65) (xPc [.ref h0, .int p1, .int p2] X [(h0, xO 7 [.int v_laws, .ref g0, .ref g1, .int v_inForce, .int v_depth, .int v_miss, .long v_ring, .int v_size, .int v_people, .ref g2, .int v_seed, .int v_taped, .ref g3, .int v_from, .int v_to, .int v_token, .int v_value, .ref h1, .ref h3, .ref h4, .ref h2, .int v_imaged, .ref g4, .long v_oldRing, .ref g5, .long v_aheadRing, .ref g6]), (h1, xI X 8 v_holding), (h2, xI X 7 v_refusals), (h3, xI X 8 v_rowLength), (h4, xJ X 320 v_rowOf)]) (xQw True (.returned (some (.int u.1))) X [(h0, xO 7 [.int v_laws, .ref g0, .ref g1, .int v_inForce, .int v_depth, .int v_miss, .long v_ring, .int v_size, .int v_people, .ref g2, .int v_seed, .int v_taped, .ref g3, .int v_from, .int v_to, .int v_token, .int v_value, .ref h1, .ref h3, .ref h4, .ref h2, .int v_imaged, .ref g4, .long v_oldRing, .ref g5, .long v_aheadRing, .ref g6]), (h1, xI X 8 v_holding), (h2, xI X 7 u.2), (h3, xI X 8 v_rowLength), (h4, xJ X 320 v_rowOf)] (xAs [(h0, xO 7 [.int v_laws, .ref g0, .ref g1, .int v_inForce, .int v_depth, .int v_miss, .long v_ring, .int v_size, .int v_people, .ref g2, .int v_seed, .int v_taped, .ref g3, .int v_from, .int v_to, .int v_token, .int v_value, .ref h1, .ref h3, .ref h4, .ref h2, .int v_imaged, .ref g4, .long v_oldRing, .ref g5, .long v_aheadRing, .ref g6]), (h1, xI X 8 v_holding), (h2, xI X 7 v_refusals), (h3, xI X 8 v_rowLength), (h4, xJ X 320 v_rowOf)])) 0 0 (xAs [(h0, xO 7 [.int v_laws, .ref g0, .ref g1, .int v_inForce, .int v_depth, .int v_miss, .long v_ring, .int v_size, .int v_people, .ref g2, .int v_seed, .int v_taped, .ref g3, .int v_from, .int v_to, .int v_token, .int v_value, .ref h1, .ref h3, .ref h4, .ref h2, .int v_imaged, .ref g4, .long v_oldRing, .ref g5, .long v_aheadRing, .ref g6]), (h1, xI X 8 v_holding), (h2, xI X 7 v_refusals), (h3, xI X 8 v_rowLength), (h4, xJ X 320 v_rowOf)]) := by
  refine xMetw (Qc := fun A => xQw True (.returned (some (.int u.1))) X [(h0, xO 7 [.int v_laws, .ref g0, .ref g1, .int v_inForce, .int v_depth, .int v_miss, .long v_ring, .int v_size, .int v_people, .ref g2, .int v_seed, .int v_taped, .ref g3, .int v_from, .int v_to, .int v_token, .int v_value, .ref h1, .ref h3, .ref h4, .ref h2, .int v_imaged, .ref g4, .long v_oldRing, .ref g5, .long v_aheadRing, .ref g6]), (h1, xI X 8 v_holding), (h2, xI X 7 u.2), (h3, xI X 8 v_rowLength), (h4, xJ X 320 v_rowOf)] A) (n := 2) md_X7_judge.1 (Nat.le_of_ble_eq_true rfl) ?_
  intro p e s m args below meth c ls A hC hr hlk hH hl
  have hl : lv_has ls 4 [(0, .ref h0), (1, .int p1), (2, .int p2)] := hl
  have hx := hC.1
  have hb := hC.2.1
  refine lv_aload_n hx hb dX7_judge_0 rfl (lv_at hl 0 rfl) ?_
  refine lv_iload_n hx hb dX7_judge_1 rfl (lv_at hl 1 rfl) ?_
  refine lv_iload_n hx hb dX7_judge_2 rfl (lv_at hl 2 rfl) ?_
  obtain ⟨u1, hf1, hf⟩ := xb hf
  refine x_ran (x_runV (q0 := 0) (rest := []) (As := [.int p1, .int p2]) hC mw_1247 md_X7_noRing (c_X7_noRing (X := X) hf1) hH [0, 1, 3] rfl (by decide) rfl rfl rfl hl.1 rfl rfl (Nat.le_of_ble_eq_true rfl) dX7_judge_3 ⟨Nat.le_of_ble_eq_true rfl, Nat.le_of_ble_eq_true rfl⟩ ⟨rfl, rfl⟩ ⟨Nat.le_refl _, Nat.le_refl _⟩) rfl (fun hz1 => ?_)
  refine lv_istore_n (lv' := [(3, .int u1), (0, .ref h0), (1, .int p1), (2, .int p2)]) hx hb dX7_judge_6 rfl hl (by decide) rfl (fun ls hl => ?_)
  refine lv_iload_n hx hb dX7_judge_7 rfl (lv_at hl 0 rfl) ?_
  refine lv_if_ge (tgt := 19) hx hb dX7_judge_8 (by decide) (fun c2 => ?_) (fun c2 => ?_)
  · have hf := xt c2 hf
    refine lv_aload_n hx hb dX7_judge_19 rfl (lv_at hl 1 rfl) ?_
    refine lv_iload_n hx hb dX7_judge_20 rfl (lv_at hl 2 rfl) ?_
    refine lv_iload_n hx hb dX7_judge_21 rfl (lv_at hl 3 rfl) ?_
    obtain ⟨u3, hf3, hf⟩ := xb hf
    refine x_ran (x_runV (q0 := 0) (rest := []) (As := [.int p1, .int p2]) hC mw_1251 md_X7_wrong (c_X7_wrong (X := X) hf3) hH [0, 4] rfl (by decide) rfl rfl rfl hl.1 rfl rfl (Nat.le_of_ble_eq_true rfl) dX7_judge_22 ⟨Nat.le_of_ble_eq_true rfl, Nat.le_of_ble_eq_true rfl⟩ ⟨rfl, rfl⟩ ⟨Nat.le_refl _, Nat.le_refl _⟩) rfl (fun hz3 => ?_)
    exact x_retiw (φ := fun _ => True) (f := fun u : Int32 × (Nat → Int32) => u.1) (wf := fun u : Int32 × (Nat → Int32) => [(h0, xO 7 [.int v_laws, .ref g0, .ref g1, .int v_inForce, .int v_depth, .int v_miss, .long v_ring, .int v_size, .int v_people, .ref g2, .int v_seed, .int v_taped, .ref g3, .int v_from, .int v_to, .int v_token, .int v_value, .ref h1, .ref h3, .ref h4, .ref h2, .int v_imaged, .ref g4, .long v_oldRing, .ref g5, .long v_aheadRing, .ref g6]), (h1, xI X 8 v_holding), (h2, xI X 7 u.2), (h3, xI X 8 v_rowLength), (h4, xJ X 320 v_rowOf)]) hC hr hlk trivial hf hH rfl rfl dX7_judge_25
  · have hf := xe c2 hf
    refine lv_aload_n hx hb dX7_judge_11 rfl (lv_at hl 1 rfl) ?_
    refine lv_iload_n hx hb dX7_judge_12 rfl (lv_at hl 0 rfl) ?_
    obtain ⟨u4, hf4, hf⟩ := xb hf
    refine x_ranw (ws' := [(h0, xO 7 [.int v_laws, .ref g0, .ref g1, .int v_inForce, .int v_depth, .int v_miss, .long v_ring, .int v_size, .int v_people, .ref g2, .int v_seed, .int v_taped, .ref g3, .int v_from, .int v_to, .int v_token, .int v_value, .ref h1, .ref h3, .ref h4, .ref h2, .int v_imaged, .ref g4, .long v_oldRing, .ref g5, .long v_aheadRing, .ref g6]), (h1, xI X 8 v_holding), (h2, xI X 7 u4.2), (h3, xI X 8 v_rowLength), (h4, xJ X 320 v_rowOf)]) (x_runV (q0 := 0) (rest := []) (As := [.int u1]) hC mw_143 md_X7_no (c_X7_no (X := X) hf4) hH [0, 2] rfl (by decide) rfl rfl rfl hl.1 rfl rfl (Nat.le_of_ble_eq_true rfl) dX7_judge_13 ⟨Nat.le_of_ble_eq_true rfl, Nat.le_of_ble_eq_true rfl⟩ ⟨rfl, rfl⟩ ⟨Nat.le_refl _, Nat.le_refl _⟩) hH [0, 2] rfl rfl rfl rfl rfl (fun hz4 H locs hH => ?_)
    refine lv_goto (tgt := 25) hx hb dX7_judge_16 (by decide) ?_
    exact x_retiw (φ := fun _ => True) (f := fun u : Int32 × (Nat → Int32) => u.1) (wf := fun u : Int32 × (Nat → Int32) => [(h0, xO 7 [.int v_laws, .ref g0, .ref g1, .int v_inForce, .int v_depth, .int v_miss, .long v_ring, .int v_size, .int v_people, .ref g2, .int v_seed, .int v_taped, .ref g3, .int v_from, .int v_to, .int v_token, .int v_value, .ref h1, .ref h3, .ref h4, .ref h2, .int v_imaged, .ref g4, .long v_oldRing, .ref g5, .long v_aheadRing, .ref g6]), (h1, xI X 8 v_holding), (h2, xI X 7 u.2), (h3, xI X 8 v_rowLength), (h4, xJ X 320 v_rowOf)]) hC hr hlk trivial hf hH rfl rfl dX7_judge_25
def f_X7_answers (v_laws : Int32) (v_inForce : Int32) (v_depth : Int32) (v_holding : (Nat → Int32)) (v_kind : (Nat → Int32)) (v_own : (Nat → Int32)) (v_refusals : (Nat → Int32)) (v_rowLength : (Nat → Int32)) (v_rowOf : (Nat → Int64)) (p1 : Int32) (p2 : Int32) (p3 : Int32) : Option (Int32 × (Nat → Int32)) :=
  (f_X7_within p3 (nI 0) (nI 2)).bind fun u1 =>
  if u1 = (nI 0) then
    (f_X7_no v_refusals (-2 : Int32)).bind fun u13 =>
    some (u13.1, u13.2)
  else
  (f_X7_noRing v_holding v_rowLength p1 p2).bind fun u3 =>
  if (nI 0) ≤ u3 then
    (f_X7_wrong v_rowOf p1 p2).bind fun u5 =>
    if u5 = (-1 : Int32) then
      (f_X7_told v_rowOf p1 p2).bind fun u7 =>
      if p3 = (nI 0) then
        (f_X7_struckNow v_laws v_inForce v_kind v_own u7 p2).bind fun u10 =>
        some (u10, v_refusals)
      else
      (f_X7_many v_laws v_inForce v_depth v_kind v_own u7 p2 p3).bind fun u9 =>
      some (u9, v_refusals)
    else
    (f_X7_no v_refusals (-5 : Int32)).bind fun u11 =>
    some (u11.1, u11.2)
  else
  (f_X7_no v_refusals u3).bind fun u12 =>
  some (u12.1, u12.2)
set_option maxHeartbeats 4000000 in
set_option maxRecDepth 100000 in
theorem c_X7_answers {l : Launch} {X : xG} {h0 h1 h2 h3 h4 h5 h6 g0 g1 g2 g3 g4 : Nat} {v_laws : Int32} {v_inForce : Int32} {v_depth : Int32} {v_miss : Int32} {v_ring : Int64} {v_size : Int32} {v_people : Int32} {v_seed : Int32} {v_taped : Int32} {v_from : Int32} {v_to : Int32} {v_token : Int32} {v_value : Int32} {v_imaged : Int32} {v_oldRing : Int64} {v_aheadRing : Int64} {v_holding : (Nat → Int32)} {v_kind : (Nat → Int32)} {v_own : (Nat → Int32)} {v_refusals : (Nat → Int32)} {v_rowLength : (Nat → Int32)} {v_rowOf : (Nat → Int64)} {p1 : Int32} {p2 : Int32} {p3 : Int32} {u : Int32 × (Nat → Int32)} (hf : f_X7_answers v_laws v_inForce v_depth v_holding v_kind v_own v_refusals v_rowLength v_rowOf p1 p2 p3 = some u) : Met l yX7_answers (xw yX7_answers cX7_answers 7 (some .int)) (xrm 7 171) (xPc [.ref h0, .int p1, .int p2, .int p3] X [(h0, xO 7 [.int v_laws, .ref h2, .ref h3, .int v_inForce, .int v_depth, .int v_miss, .long v_ring, .int v_size, .int v_people, .ref g0, .int v_seed, .int v_taped, .ref g1, .int v_from, .int v_to, .int v_token, .int v_value, .ref h1, .ref h5, .ref h6, .ref h4, .int v_imaged, .ref g2, .long v_oldRing, .ref g3, .long v_aheadRing, .ref g4]), (h1, xI X 8 v_holding), (h2, xI X 6 v_kind), (h3, xI X 6 v_own), (h4, xI X 7 v_refusals), (h5, xI X 8 v_rowLength), (h6, xJ X 320 v_rowOf)]) (xQw True (.returned (some (.int u.1))) X [(h0, xO 7 [.int v_laws, .ref h2, .ref h3, .int v_inForce, .int v_depth, .int v_miss, .long v_ring, .int v_size, .int v_people, .ref g0, .int v_seed, .int v_taped, .ref g1, .int v_from, .int v_to, .int v_token, .int v_value, .ref h1, .ref h5, .ref h6, .ref h4, .int v_imaged, .ref g2, .long v_oldRing, .ref g3, .long v_aheadRing, .ref g4]), (h1, xI X 8 v_holding), (h2, xI X 6 v_kind), (h3, xI X 6 v_own), (h4, xI X 7 u.2), (h5, xI X 8 v_rowLength), (h6, xJ X 320 v_rowOf)] (xAs [(h0, xO 7 [.int v_laws, .ref h2, .ref h3, .int v_inForce, .int v_depth, .int v_miss, .long v_ring, .int v_size, .int v_people, .ref g0, .int v_seed, .int v_taped, .ref g1, .int v_from, .int v_to, .int v_token, .int v_value, .ref h1, .ref h5, .ref h6, .ref h4, .int v_imaged, .ref g2, .long v_oldRing, .ref g3, .long v_aheadRing, .ref g4]), (h1, xI X 8 v_holding), (h2, xI X 6 v_kind), (h3, xI X 6 v_own), (h4, xI X 7 v_refusals), (h5, xI X 8 v_rowLength), (h6, xJ X 320 v_rowOf)])) 0 0 (xAs [(h0, xO 7 [.int v_laws, .ref h2, .ref h3, .int v_inForce, .int v_depth, .int v_miss, .long v_ring, .int v_size, .int v_people, .ref g0, .int v_seed, .int v_taped, .ref g1, .int v_from, .int v_to, .int v_token, .int v_value, .ref h1, .ref h5, .ref h6, .ref h4, .int v_imaged, .ref g2, .long v_oldRing, .ref g3, .long v_aheadRing, .ref g4]), (h1, xI X 8 v_holding), (h2, xI X 6 v_kind), (h3, xI X 6 v_own), (h4, xI X 7 v_refusals), (h5, xI X 8 v_rowLength), (h6, xJ X 320 v_rowOf)]) := by
  refine xMetw (Qc := fun A => xQw True (.returned (some (.int u.1))) X [(h0, xO 7 [.int v_laws, .ref h2, .ref h3, .int v_inForce, .int v_depth, .int v_miss, .long v_ring, .int v_size, .int v_people, .ref g0, .int v_seed, .int v_taped, .ref g1, .int v_from, .int v_to, .int v_token, .int v_value, .ref h1, .ref h5, .ref h6, .ref h4, .int v_imaged, .ref g2, .long v_oldRing, .ref g3, .long v_aheadRing, .ref g4]), (h1, xI X 8 v_holding), (h2, xI X 6 v_kind), (h3, xI X 6 v_own), (h4, xI X 7 u.2), (h5, xI X 8 v_rowLength), (h6, xJ X 320 v_rowOf)] A) (n := 3) md_X7_answers.1 (Nat.le_of_ble_eq_true rfl) ?_
  intro p e s m args below meth c ls A hC hr hlk hH hl
  have hl : lv_has ls 7 [(0, .ref h0), (1, .int p1), (2, .int p2), (3, .int p3)] := hl
  have hx := hC.1
  have hb := hC.2.1
  refine lv_iload_n hx hb dX7_answers_0 rfl (lv_at hl 3 rfl) ?_
  refine lv_iconst (v := (nI 0)) hx hb dX7_answers_1 (by decide) ?_
  refine lv_iconst (v := (nI 2)) hx hb dX7_answers_2 (by decide) ?_
  obtain ⟨u1, hf1, hf⟩ := xb hf
  refine x_ran (x_runS (rest := []) (As := [.int p3, .int (nI 0), .int (nI 2)]) hC mw_140 md_X7_within (c_X7_within (X := X) hf1) hH [] rfl (by decide) hl.1 rfl rfl (Nat.le_of_ble_eq_true rfl) dX7_answers_3 ⟨Nat.le_of_ble_eq_true rfl, Nat.le_of_ble_eq_true rfl⟩ ⟨rfl, rfl⟩ ⟨Nat.le_refl _, Nat.le_refl _⟩) rfl (fun hz1 => ?_)
  refine lv_if_ne (tgt := 16) hx hb dX7_answers_6 (by decide) (fun c2 => ?_) (fun c2 => ?_)
  · have hf := xe c2 hf
    refine lv_aload_n hx hb dX7_answers_16 rfl (lv_at hl 0 rfl) ?_
    refine lv_iload_n hx hb dX7_answers_17 rfl (lv_at hl 1 rfl) ?_
    refine lv_iload_n hx hb dX7_answers_18 rfl (lv_at hl 2 rfl) ?_
    obtain ⟨u3, hf3, hf⟩ := xb hf
    refine x_ran (x_runV (q0 := 0) (rest := []) (As := [.int p1, .int p2]) hC mw_1247 md_X7_noRing (c_X7_noRing (X := X) hf3) hH [0, 1, 5] rfl (by decide) rfl rfl rfl hl.1 rfl rfl (Nat.le_of_ble_eq_true rfl) dX7_answers_19 ⟨Nat.le_of_ble_eq_true rfl, Nat.le_of_ble_eq_true rfl⟩ ⟨rfl, rfl⟩ ⟨Nat.le_refl _, Nat.le_refl _⟩) rfl (fun hz3 => ?_)
    refine lv_istore (lv' := [(4, .int u3), (0, .ref h0), (1, .int p1), (2, .int p2), (3, .int p3)]) hx hb dX7_answers_22 hl (by decide) rfl (fun ls hl => ?_)
    refine lv_iload hx hb dX7_answers_24 (lv_at hl 0 rfl) ?_
    refine lv_if_ge (tgt := 36) hx hb dX7_answers_26 (by decide) (fun c4 => ?_) (fun c4 => ?_)
    · have hf := xt c4 hf
      refine lv_aload_n hx hb dX7_answers_36 rfl (lv_at hl 1 rfl) ?_
      refine lv_iload_n hx hb dX7_answers_37 rfl (lv_at hl 2 rfl) ?_
      refine lv_iload_n hx hb dX7_answers_38 rfl (lv_at hl 3 rfl) ?_
      obtain ⟨u5, hf5, hf⟩ := xb hf
      refine x_ran (x_runV (q0 := 0) (rest := []) (As := [.int p1, .int p2]) hC mw_1251 md_X7_wrong (c_X7_wrong (X := X) hf5) hH [0, 6] rfl (by decide) rfl rfl rfl hl.1 rfl rfl (Nat.le_of_ble_eq_true rfl) dX7_answers_39 ⟨Nat.le_of_ble_eq_true rfl, Nat.le_of_ble_eq_true rfl⟩ ⟨rfl, rfl⟩ ⟨Nat.le_refl _, Nat.le_refl _⟩) rfl (fun hz5 => ?_)
      refine lv_iconst (v := (-1 : Int32)) hx hb dX7_answers_42 (by decide) ?_
      refine lv_icmp_eq (tgt := 53) hx hb dX7_answers_43 (by decide) (fun c6 => ?_) (fun c6 => ?_)
      · have hf := xt c6 hf
        refine lv_aload_n hx hb dX7_answers_53 rfl (lv_at hl 1 rfl) ?_
        refine lv_iload_n hx hb dX7_answers_54 rfl (lv_at hl 2 rfl) ?_
        refine lv_iload_n hx hb dX7_answers_55 rfl (lv_at hl 3 rfl) ?_
        obtain ⟨u7, hf7, hf⟩ := xb hf
        refine x_ran (x_runV (q0 := 0) (rest := []) (As := [.int p1, .int p2]) hC mw_1272 md_X7_told (c_X7_told (X := X) hf7) hH [0, 6] rfl (by decide) rfl rfl rfl hl.1 rfl rfl (Nat.le_of_ble_eq_true rfl) dX7_answers_56 ⟨Nat.le_of_ble_eq_true rfl, Nat.le_of_ble_eq_true rfl⟩ ⟨rfl, rfl⟩ ⟨Nat.le_refl _, Nat.le_refl _⟩) rfl (fun hz7 => ?_)
        refine lv_lstore (lv' := [(5, .long u7), (4, .int u3), (0, .ref h0), (1, .int p1), (2, .int p2), (3, .int p3)]) hx hb dX7_answers_59 hl (by decide) rfl (fun ls hl => ?_)
        refine lv_iload_n hx hb dX7_answers_61 rfl (lv_at hl 5 rfl) ?_
        refine lv_if_ne (tgt := 75) hx hb dX7_answers_62 (by decide) (fun c8 => ?_) (fun c8 => ?_)
        · have hf := xe c8 hf
          refine lv_aload_n hx hb dX7_answers_75 rfl (lv_at hl 2 rfl) ?_
          refine lv_lload hx hb dX7_answers_76 (lv_at hl 0 rfl) ?_
          refine lv_iload_n hx hb dX7_answers_78 rfl (lv_at hl 4 rfl) ?_
          refine lv_iload_n hx hb dX7_answers_79 rfl (lv_at hl 5 rfl) ?_
          obtain ⟨u9, hf9, hf⟩ := xb hf
          refine x_ran (x_runV (q0 := 0) (rest := []) (As := [.long u7, .int p2, .int p3]) hC mw_749 md_X7_many (c_X7_many (X := X) hf9) hH [0, 2, 3] rfl (by decide) rfl rfl rfl hl.1 rfl rfl (Nat.le_of_ble_eq_true rfl) dX7_answers_80 ⟨Nat.le_of_ble_eq_true rfl, Nat.le_of_ble_eq_true rfl⟩ ⟨rfl, rfl⟩ ⟨Nat.le_refl _, Nat.le_refl _⟩) rfl (fun hz9 => ?_)
          exact x_retiw (φ := fun _ => True) (f := fun u : Int32 × (Nat → Int32) => u.1) (wf := fun u : Int32 × (Nat → Int32) => [(h0, xO 7 [.int v_laws, .ref h2, .ref h3, .int v_inForce, .int v_depth, .int v_miss, .long v_ring, .int v_size, .int v_people, .ref g0, .int v_seed, .int v_taped, .ref g1, .int v_from, .int v_to, .int v_token, .int v_value, .ref h1, .ref h5, .ref h6, .ref h4, .int v_imaged, .ref g2, .long v_oldRing, .ref g3, .long v_aheadRing, .ref g4]), (h1, xI X 8 v_holding), (h2, xI X 6 v_kind), (h3, xI X 6 v_own), (h4, xI X 7 u.2), (h5, xI X 8 v_rowLength), (h6, xJ X 320 v_rowOf)]) hC hr hlk trivial hf hH rfl rfl dX7_answers_83
        · have hf := xt c8 hf
          refine lv_aload_n hx hb dX7_answers_65 rfl (lv_at hl 2 rfl) ?_
          refine lv_lload hx hb dX7_answers_66 (lv_at hl 0 rfl) ?_
          refine lv_iload_n hx hb dX7_answers_68 rfl (lv_at hl 4 rfl) ?_
          obtain ⟨u10, hf10, hf⟩ := xb hf
          refine x_ran (x_runV (q0 := 0) (rest := []) (As := [.long u7, .int p2]) hC mw_837 md_X7_struckNow (c_X7_struckNow (X := X) hf10) hH [0, 2, 3] rfl (by decide) rfl rfl rfl hl.1 rfl rfl (Nat.le_of_ble_eq_true rfl) dX7_answers_69 ⟨Nat.le_of_ble_eq_true rfl, Nat.le_of_ble_eq_true rfl⟩ ⟨rfl, rfl⟩ ⟨Nat.le_refl _, Nat.le_refl _⟩) rfl (fun hz10 => ?_)
          refine lv_goto (tgt := 83) hx hb dX7_answers_72 (by decide) ?_
          exact x_retiw (φ := fun _ => True) (f := fun u : Int32 × (Nat → Int32) => u.1) (wf := fun u : Int32 × (Nat → Int32) => [(h0, xO 7 [.int v_laws, .ref h2, .ref h3, .int v_inForce, .int v_depth, .int v_miss, .long v_ring, .int v_size, .int v_people, .ref g0, .int v_seed, .int v_taped, .ref g1, .int v_from, .int v_to, .int v_token, .int v_value, .ref h1, .ref h5, .ref h6, .ref h4, .int v_imaged, .ref g2, .long v_oldRing, .ref g3, .long v_aheadRing, .ref g4]), (h1, xI X 8 v_holding), (h2, xI X 6 v_kind), (h3, xI X 6 v_own), (h4, xI X 7 u.2), (h5, xI X 8 v_rowLength), (h6, xJ X 320 v_rowOf)]) hC hr hlk trivial hf hH rfl rfl dX7_answers_83
      · have hf := xe c6 hf
        refine lv_aload_n hx hb dX7_answers_46 rfl (lv_at hl 1 rfl) ?_
        refine lv_bipush (v := (-5 : Int32)) hx hb dX7_answers_47 (by decide) ?_
        obtain ⟨u11, hf11, hf⟩ := xb hf
        refine x_ranw (ws' := [(h0, xO 7 [.int v_laws, .ref h2, .ref h3, .int v_inForce, .int v_depth, .int v_miss, .long v_ring, .int v_size, .int v_people, .ref g0, .int v_seed, .int v_taped, .ref g1, .int v_from, .int v_to, .int v_token, .int v_value, .ref h1, .ref h5, .ref h6, .ref h4, .int v_imaged, .ref g2, .long v_oldRing, .ref g3, .long v_aheadRing, .ref g4]), (h1, xI X 8 v_holding), (h2, xI X 6 v_kind), (h3, xI X 6 v_own), (h4, xI X 7 u11.2), (h5, xI X 8 v_rowLength), (h6, xJ X 320 v_rowOf)]) (x_runV (q0 := 0) (rest := []) (As := [.int (-5 : Int32)]) hC mw_143 md_X7_no (c_X7_no (X := X) hf11) hH [0, 4] rfl (by decide) rfl rfl rfl hl.1 rfl rfl (Nat.le_of_ble_eq_true rfl) dX7_answers_49 ⟨Nat.le_of_ble_eq_true rfl, Nat.le_of_ble_eq_true rfl⟩ ⟨rfl, rfl⟩ ⟨Nat.le_refl _, Nat.le_refl _⟩) hH [0, 4] rfl rfl rfl rfl rfl (fun hz11 H locs hH => ?_)
        exact x_retiw (φ := fun _ => True) (f := fun u : Int32 × (Nat → Int32) => u.1) (wf := fun u : Int32 × (Nat → Int32) => [(h0, xO 7 [.int v_laws, .ref h2, .ref h3, .int v_inForce, .int v_depth, .int v_miss, .long v_ring, .int v_size, .int v_people, .ref g0, .int v_seed, .int v_taped, .ref g1, .int v_from, .int v_to, .int v_token, .int v_value, .ref h1, .ref h5, .ref h6, .ref h4, .int v_imaged, .ref g2, .long v_oldRing, .ref g3, .long v_aheadRing, .ref g4]), (h1, xI X 8 v_holding), (h2, xI X 6 v_kind), (h3, xI X 6 v_own), (h4, xI X 7 u.2), (h5, xI X 8 v_rowLength), (h6, xJ X 320 v_rowOf)]) hC hr hlk trivial hf hH rfl rfl dX7_answers_52
    · have hf := xe c4 hf
      refine lv_aload_n hx hb dX7_answers_29 rfl (lv_at hl 1 rfl) ?_
      refine lv_iload hx hb dX7_answers_30 (lv_at hl 0 rfl) ?_
      obtain ⟨u12, hf12, hf⟩ := xb hf
      refine x_ranw (ws' := [(h0, xO 7 [.int v_laws, .ref h2, .ref h3, .int v_inForce, .int v_depth, .int v_miss, .long v_ring, .int v_size, .int v_people, .ref g0, .int v_seed, .int v_taped, .ref g1, .int v_from, .int v_to, .int v_token, .int v_value, .ref h1, .ref h5, .ref h6, .ref h4, .int v_imaged, .ref g2, .long v_oldRing, .ref g3, .long v_aheadRing, .ref g4]), (h1, xI X 8 v_holding), (h2, xI X 6 v_kind), (h3, xI X 6 v_own), (h4, xI X 7 u12.2), (h5, xI X 8 v_rowLength), (h6, xJ X 320 v_rowOf)]) (x_runV (q0 := 0) (rest := []) (As := [.int u3]) hC mw_143 md_X7_no (c_X7_no (X := X) hf12) hH [0, 4] rfl (by decide) rfl rfl rfl hl.1 rfl rfl (Nat.le_of_ble_eq_true rfl) dX7_answers_32 ⟨Nat.le_of_ble_eq_true rfl, Nat.le_of_ble_eq_true rfl⟩ ⟨rfl, rfl⟩ ⟨Nat.le_refl _, Nat.le_refl _⟩) hH [0, 4] rfl rfl rfl rfl rfl (fun hz12 H locs hH => ?_)
      exact x_retiw (φ := fun _ => True) (f := fun u : Int32 × (Nat → Int32) => u.1) (wf := fun u : Int32 × (Nat → Int32) => [(h0, xO 7 [.int v_laws, .ref h2, .ref h3, .int v_inForce, .int v_depth, .int v_miss, .long v_ring, .int v_size, .int v_people, .ref g0, .int v_seed, .int v_taped, .ref g1, .int v_from, .int v_to, .int v_token, .int v_value, .ref h1, .ref h5, .ref h6, .ref h4, .int v_imaged, .ref g2, .long v_oldRing, .ref g3, .long v_aheadRing, .ref g4]), (h1, xI X 8 v_holding), (h2, xI X 6 v_kind), (h3, xI X 6 v_own), (h4, xI X 7 u.2), (h5, xI X 8 v_rowLength), (h6, xJ X 320 v_rowOf)]) hC hr hlk trivial hf hH rfl rfl dX7_answers_35
  · have hf := xt c2 hf
    refine lv_aload_n hx hb dX7_answers_9 rfl (lv_at hl 0 rfl) ?_
    refine lv_bipush (v := (-2 : Int32)) hx hb dX7_answers_10 (by decide) ?_
    obtain ⟨u13, hf13, hf⟩ := xb hf
    refine x_ranw (ws' := [(h0, xO 7 [.int v_laws, .ref h2, .ref h3, .int v_inForce, .int v_depth, .int v_miss, .long v_ring, .int v_size, .int v_people, .ref g0, .int v_seed, .int v_taped, .ref g1, .int v_from, .int v_to, .int v_token, .int v_value, .ref h1, .ref h5, .ref h6, .ref h4, .int v_imaged, .ref g2, .long v_oldRing, .ref g3, .long v_aheadRing, .ref g4]), (h1, xI X 8 v_holding), (h2, xI X 6 v_kind), (h3, xI X 6 v_own), (h4, xI X 7 u13.2), (h5, xI X 8 v_rowLength), (h6, xJ X 320 v_rowOf)]) (x_runV (q0 := 0) (rest := []) (As := [.int (-2 : Int32)]) hC mw_143 md_X7_no (c_X7_no (X := X) hf13) hH [0, 4] rfl (by decide) rfl rfl rfl hl.1 rfl rfl (Nat.le_of_ble_eq_true rfl) dX7_answers_12 ⟨Nat.le_of_ble_eq_true rfl, Nat.le_of_ble_eq_true rfl⟩ ⟨rfl, rfl⟩ ⟨Nat.le_refl _, Nat.le_refl _⟩) hH [0, 4] rfl rfl rfl rfl rfl (fun hz13 H locs hH => ?_)
    exact x_retiw (φ := fun _ => True) (f := fun u : Int32 × (Nat → Int32) => u.1) (wf := fun u : Int32 × (Nat → Int32) => [(h0, xO 7 [.int v_laws, .ref h2, .ref h3, .int v_inForce, .int v_depth, .int v_miss, .long v_ring, .int v_size, .int v_people, .ref g0, .int v_seed, .int v_taped, .ref g1, .int v_from, .int v_to, .int v_token, .int v_value, .ref h1, .ref h5, .ref h6, .ref h4, .int v_imaged, .ref g2, .long v_oldRing, .ref g3, .long v_aheadRing, .ref g4]), (h1, xI X 8 v_holding), (h2, xI X 6 v_kind), (h3, xI X 6 v_own), (h4, xI X 7 u.2), (h5, xI X 8 v_rowLength), (h6, xJ X 320 v_rowOf)]) hC hr hlk trivial hf hH rfl rfl dX7_answers_15
def f_X7_rings (v_ring : Int64) (v_size : Int32) (v_holding : (Nat → Int32)) (v_refusals : (Nat → Int32)) (v_rowLength : (Nat → Int32)) (v_rowOf : (Nat → Int64)) (p1 : Int32) (p2 : Int32) : Option (Int32 × Int64 × Int32 × (Nat → Int32)) :=
  (f_X7_noRing v_holding v_rowLength p1 p2).bind fun u1 =>
  if (nI 0) ≤ u1 then
    (f_X7_wrong v_rowOf p1 p2).bind fun u3 =>
    if u3 = (-1 : Int32) then
      (f_X7_told v_rowOf p1 p2).bind fun u5 =>
      some (p2, u5, p2, v_refusals)
    else
    (f_X7_no v_refusals (-5 : Int32)).bind fun u6 =>
    some (u6.1, v_ring, v_size, u6.2)
  else
  (f_X7_no v_refusals u1).bind fun u7 =>
  some (u7.1, v_ring, v_size, u7.2)
set_option maxHeartbeats 4000000 in
set_option maxRecDepth 100000 in
theorem c_X7_rings {l : Launch} {X : xG} {h0 h1 h2 h3 h4 g0 g1 g2 g3 g4 g5 g6 : Nat} {v_laws : Int32} {v_inForce : Int32} {v_depth : Int32} {v_miss : Int32} {v_ring : Int64} {v_size : Int32} {v_people : Int32} {v_seed : Int32} {v_taped : Int32} {v_from : Int32} {v_to : Int32} {v_token : Int32} {v_value : Int32} {v_imaged : Int32} {v_oldRing : Int64} {v_aheadRing : Int64} {v_holding : (Nat → Int32)} {v_refusals : (Nat → Int32)} {v_rowLength : (Nat → Int32)} {v_rowOf : (Nat → Int64)} {p1 : Int32} {p2 : Int32} {u : Int32 × Int64 × Int32 × (Nat → Int32)} (hf : f_X7_rings v_ring v_size v_holding v_refusals v_rowLength v_rowOf p1 p2 = some u) : Met l yX7_rings (xw yX7_rings cX7_rings 4 (some .int)) (xrm 3 65) (xPc [.ref h0, .int p1, .int p2] X [(h0, xO 7 [.int v_laws, .ref g0, .ref g1, .int v_inForce, .int v_depth, .int v_miss, .long v_ring, .int v_size, .int v_people, .ref g2, .int v_seed, .int v_taped, .ref g3, .int v_from, .int v_to, .int v_token, .int v_value, .ref h1, .ref h3, .ref h4, .ref h2, .int v_imaged, .ref g4, .long v_oldRing, .ref g5, .long v_aheadRing, .ref g6]), (h1, xI X 8 v_holding), (h2, xI X 7 v_refusals), (h3, xI X 8 v_rowLength), (h4, xJ X 320 v_rowOf)]) (xQw True (.returned (some (.int u.1))) X [(h0, xO 7 [.int v_laws, .ref g0, .ref g1, .int v_inForce, .int v_depth, .int v_miss, .long u.2.1, .int u.2.2.1, .int v_people, .ref g2, .int v_seed, .int v_taped, .ref g3, .int v_from, .int v_to, .int v_token, .int v_value, .ref h1, .ref h3, .ref h4, .ref h2, .int v_imaged, .ref g4, .long v_oldRing, .ref g5, .long v_aheadRing, .ref g6]), (h1, xI X 8 v_holding), (h2, xI X 7 u.2.2.2), (h3, xI X 8 v_rowLength), (h4, xJ X 320 v_rowOf)] (xAs [(h0, xO 7 [.int v_laws, .ref g0, .ref g1, .int v_inForce, .int v_depth, .int v_miss, .long v_ring, .int v_size, .int v_people, .ref g2, .int v_seed, .int v_taped, .ref g3, .int v_from, .int v_to, .int v_token, .int v_value, .ref h1, .ref h3, .ref h4, .ref h2, .int v_imaged, .ref g4, .long v_oldRing, .ref g5, .long v_aheadRing, .ref g6]), (h1, xI X 8 v_holding), (h2, xI X 7 v_refusals), (h3, xI X 8 v_rowLength), (h4, xJ X 320 v_rowOf)])) 0 0 (xAs [(h0, xO 7 [.int v_laws, .ref g0, .ref g1, .int v_inForce, .int v_depth, .int v_miss, .long v_ring, .int v_size, .int v_people, .ref g2, .int v_seed, .int v_taped, .ref g3, .int v_from, .int v_to, .int v_token, .int v_value, .ref h1, .ref h3, .ref h4, .ref h2, .int v_imaged, .ref g4, .long v_oldRing, .ref g5, .long v_aheadRing, .ref g6]), (h1, xI X 8 v_holding), (h2, xI X 7 v_refusals), (h3, xI X 8 v_rowLength), (h4, xJ X 320 v_rowOf)]) := by
  refine xMetw (Qc := fun A => xQw True (.returned (some (.int u.1))) X [(h0, xO 7 [.int v_laws, .ref g0, .ref g1, .int v_inForce, .int v_depth, .int v_miss, .long u.2.1, .int u.2.2.1, .int v_people, .ref g2, .int v_seed, .int v_taped, .ref g3, .int v_from, .int v_to, .int v_token, .int v_value, .ref h1, .ref h3, .ref h4, .ref h2, .int v_imaged, .ref g4, .long v_oldRing, .ref g5, .long v_aheadRing, .ref g6]), (h1, xI X 8 v_holding), (h2, xI X 7 u.2.2.2), (h3, xI X 8 v_rowLength), (h4, xJ X 320 v_rowOf)] A) (n := 2) md_X7_rings.1 (Nat.le_of_ble_eq_true rfl) ?_
  intro p e s m args below meth c ls A hC hr hlk hH hl
  have hl : lv_has ls 4 [(0, .ref h0), (1, .int p1), (2, .int p2)] := hl
  have hx := hC.1
  have hb := hC.2.1
  refine lv_aload_n hx hb dX7_rings_0 rfl (lv_at hl 0 rfl) ?_
  refine lv_iload_n hx hb dX7_rings_1 rfl (lv_at hl 1 rfl) ?_
  refine lv_iload_n hx hb dX7_rings_2 rfl (lv_at hl 2 rfl) ?_
  obtain ⟨u1, hf1, hf⟩ := xb hf
  refine x_ran (x_runV (q0 := 0) (rest := []) (As := [.int p1, .int p2]) hC mw_1247 md_X7_noRing (c_X7_noRing (X := X) hf1) hH [0, 1, 3] rfl (by decide) rfl rfl rfl hl.1 rfl rfl (Nat.le_of_ble_eq_true rfl) dX7_rings_3 ⟨Nat.le_of_ble_eq_true rfl, Nat.le_of_ble_eq_true rfl⟩ ⟨rfl, rfl⟩ ⟨Nat.le_refl _, Nat.le_refl _⟩) rfl (fun hz1 => ?_)
  refine lv_istore_n (lv' := [(3, .int u1), (0, .ref h0), (1, .int p1), (2, .int p2)]) hx hb dX7_rings_6 rfl hl (by decide) rfl (fun ls hl => ?_)
  refine lv_iload_n hx hb dX7_rings_7 rfl (lv_at hl 0 rfl) ?_
  refine lv_if_ge (tgt := 17) hx hb dX7_rings_8 (by decide) (fun c2 => ?_) (fun c2 => ?_)
  · have hf := xt c2 hf
    refine lv_aload_n hx hb dX7_rings_17 rfl (lv_at hl 1 rfl) ?_
    refine lv_iload_n hx hb dX7_rings_18 rfl (lv_at hl 2 rfl) ?_
    refine lv_iload_n hx hb dX7_rings_19 rfl (lv_at hl 3 rfl) ?_
    obtain ⟨u3, hf3, hf⟩ := xb hf
    refine x_ran (x_runV (q0 := 0) (rest := []) (As := [.int p1, .int p2]) hC mw_1251 md_X7_wrong (c_X7_wrong (X := X) hf3) hH [0, 4] rfl (by decide) rfl rfl rfl hl.1 rfl rfl (Nat.le_of_ble_eq_true rfl) dX7_rings_20 ⟨Nat.le_of_ble_eq_true rfl, Nat.le_of_ble_eq_true rfl⟩ ⟨rfl, rfl⟩ ⟨Nat.le_refl _, Nat.le_refl _⟩) rfl (fun hz3 => ?_)
    refine lv_iconst (v := (-1 : Int32)) hx hb dX7_rings_23 (by decide) ?_
    refine lv_icmp_eq (tgt := 34) hx hb dX7_rings_24 (by decide) (fun c4 => ?_) (fun c4 => ?_)
    · have hf := xt c4 hf
      refine lv_aload_n hx hb dX7_rings_34 rfl (lv_at hl 1 rfl) ?_
      refine lv_aload_n hx hb dX7_rings_35 rfl (lv_at hl 1 rfl) ?_
      refine lv_iload_n hx hb dX7_rings_36 rfl (lv_at hl 2 rfl) ?_
      refine lv_iload_n hx hb dX7_rings_37 rfl (lv_at hl 3 rfl) ?_
      obtain ⟨u5, hf5, hf⟩ := xb hf
      refine x_ran (x_runV (q0 := 0) (rest := [.ref h0]) (As := [.int p1, .int p2]) hC mw_1272 md_X7_told (c_X7_told (X := X) hf5) hH [0, 4] rfl (by decide) rfl rfl rfl hl.1 rfl rfl (Nat.le_of_ble_eq_true rfl) dX7_rings_38 ⟨Nat.le_of_ble_eq_true rfl, Nat.le_of_ble_eq_true rfl⟩ ⟨rfl, rfl⟩ ⟨Nat.le_refl _, Nat.le_refl _⟩) rfl (fun hz5 => ?_)
      refine x_put (ws' := [(h0, xO 7 [.int v_laws, .ref g0, .ref g1, .int v_inForce, .int v_depth, .int v_miss, .long u5, .int v_size, .int v_people, .ref g2, .int v_seed, .int v_taped, .ref g3, .int v_from, .int v_to, .int v_token, .int v_value, .ref h1, .ref h3, .ref h4, .ref h2, .int v_imaged, .ref g4, .long v_oldRing, .ref g5, .long v_aheadRing, .ref g6]), (h1, xI X 8 v_holding), (h2, xI X 7 v_refusals), (h3, xI X 8 v_rowLength), (h4, xJ X 320 v_rowOf)]) hC fd_RX7_90 hH 0 rfl (Nat.le_of_ble_eq_true rfl) rfl rfl dX7_rings_41 rfl (fun H locs hH => ?_)
      refine lv_aload_n hx hb dX7_rings_44 rfl (lv_at hl 1 rfl) ?_
      refine lv_iload_n hx hb dX7_rings_45 rfl (lv_at hl 3 rfl) ?_
      refine x_put (ws' := [(h0, xO 7 [.int v_laws, .ref g0, .ref g1, .int v_inForce, .int v_depth, .int v_miss, .long u5, .int p2, .int v_people, .ref g2, .int v_seed, .int v_taped, .ref g3, .int v_from, .int v_to, .int v_token, .int v_value, .ref h1, .ref h3, .ref h4, .ref h2, .int v_imaged, .ref g4, .long v_oldRing, .ref g5, .long v_aheadRing, .ref g6]), (h1, xI X 8 v_holding), (h2, xI X 7 v_refusals), (h3, xI X 8 v_rowLength), (h4, xJ X 320 v_rowOf)]) hC fd_RX7_62 hH 0 rfl (Nat.le_of_ble_eq_true rfl) rfl rfl dX7_rings_46 rfl (fun H locs hH => ?_)
      refine lv_iload_n hx hb dX7_rings_49 rfl (lv_at hl 3 rfl) ?_
      exact x_retiw (φ := fun _ => True) (f := fun u : Int32 × Int64 × Int32 × (Nat → Int32) => u.1) (wf := fun u : Int32 × Int64 × Int32 × (Nat → Int32) => [(h0, xO 7 [.int v_laws, .ref g0, .ref g1, .int v_inForce, .int v_depth, .int v_miss, .long u.2.1, .int u.2.2.1, .int v_people, .ref g2, .int v_seed, .int v_taped, .ref g3, .int v_from, .int v_to, .int v_token, .int v_value, .ref h1, .ref h3, .ref h4, .ref h2, .int v_imaged, .ref g4, .long v_oldRing, .ref g5, .long v_aheadRing, .ref g6]), (h1, xI X 8 v_holding), (h2, xI X 7 u.2.2.2), (h3, xI X 8 v_rowLength), (h4, xJ X 320 v_rowOf)]) hC hr hlk trivial hf hH rfl rfl dX7_rings_50
    · have hf := xe c4 hf
      refine lv_aload_n hx hb dX7_rings_27 rfl (lv_at hl 1 rfl) ?_
      refine lv_bipush (v := (-5 : Int32)) hx hb dX7_rings_28 (by decide) ?_
      obtain ⟨u6, hf6, hf⟩ := xb hf
      refine x_ranw (ws' := [(h0, xO 7 [.int v_laws, .ref g0, .ref g1, .int v_inForce, .int v_depth, .int v_miss, .long v_ring, .int v_size, .int v_people, .ref g2, .int v_seed, .int v_taped, .ref g3, .int v_from, .int v_to, .int v_token, .int v_value, .ref h1, .ref h3, .ref h4, .ref h2, .int v_imaged, .ref g4, .long v_oldRing, .ref g5, .long v_aheadRing, .ref g6]), (h1, xI X 8 v_holding), (h2, xI X 7 u6.2), (h3, xI X 8 v_rowLength), (h4, xJ X 320 v_rowOf)]) (x_runV (q0 := 0) (rest := []) (As := [.int (-5 : Int32)]) hC mw_143 md_X7_no (c_X7_no (X := X) hf6) hH [0, 2] rfl (by decide) rfl rfl rfl hl.1 rfl rfl (Nat.le_of_ble_eq_true rfl) dX7_rings_30 ⟨Nat.le_of_ble_eq_true rfl, Nat.le_of_ble_eq_true rfl⟩ ⟨rfl, rfl⟩ ⟨Nat.le_refl _, Nat.le_refl _⟩) hH [0, 2] rfl rfl rfl rfl rfl (fun hz6 H locs hH => ?_)
      exact x_retiw (φ := fun _ => True) (f := fun u : Int32 × Int64 × Int32 × (Nat → Int32) => u.1) (wf := fun u : Int32 × Int64 × Int32 × (Nat → Int32) => [(h0, xO 7 [.int v_laws, .ref g0, .ref g1, .int v_inForce, .int v_depth, .int v_miss, .long u.2.1, .int u.2.2.1, .int v_people, .ref g2, .int v_seed, .int v_taped, .ref g3, .int v_from, .int v_to, .int v_token, .int v_value, .ref h1, .ref h3, .ref h4, .ref h2, .int v_imaged, .ref g4, .long v_oldRing, .ref g5, .long v_aheadRing, .ref g6]), (h1, xI X 8 v_holding), (h2, xI X 7 u.2.2.2), (h3, xI X 8 v_rowLength), (h4, xJ X 320 v_rowOf)]) hC hr hlk trivial hf hH rfl rfl dX7_rings_33
  · have hf := xe c2 hf
    refine lv_aload_n hx hb dX7_rings_11 rfl (lv_at hl 1 rfl) ?_
    refine lv_iload_n hx hb dX7_rings_12 rfl (lv_at hl 0 rfl) ?_
    obtain ⟨u7, hf7, hf⟩ := xb hf
    refine x_ranw (ws' := [(h0, xO 7 [.int v_laws, .ref g0, .ref g1, .int v_inForce, .int v_depth, .int v_miss, .long v_ring, .int v_size, .int v_people, .ref g2, .int v_seed, .int v_taped, .ref g3, .int v_from, .int v_to, .int v_token, .int v_value, .ref h1, .ref h3, .ref h4, .ref h2, .int v_imaged, .ref g4, .long v_oldRing, .ref g5, .long v_aheadRing, .ref g6]), (h1, xI X 8 v_holding), (h2, xI X 7 u7.2), (h3, xI X 8 v_rowLength), (h4, xJ X 320 v_rowOf)]) (x_runV (q0 := 0) (rest := []) (As := [.int u1]) hC mw_143 md_X7_no (c_X7_no (X := X) hf7) hH [0, 2] rfl (by decide) rfl rfl rfl hl.1 rfl rfl (Nat.le_of_ble_eq_true rfl) dX7_rings_13 ⟨Nat.le_of_ble_eq_true rfl, Nat.le_of_ble_eq_true rfl⟩ ⟨rfl, rfl⟩ ⟨Nat.le_refl _, Nat.le_refl _⟩) hH [0, 2] rfl rfl rfl rfl rfl (fun hz7 H locs hH => ?_)
    exact x_retiw (φ := fun _ => True) (f := fun u : Int32 × Int64 × Int32 × (Nat → Int32) => u.1) (wf := fun u : Int32 × Int64 × Int32 × (Nat → Int32) => [(h0, xO 7 [.int v_laws, .ref g0, .ref g1, .int v_inForce, .int v_depth, .int v_miss, .long u.2.1, .int u.2.2.1, .int v_people, .ref g2, .int v_seed, .int v_taped, .ref g3, .int v_from, .int v_to, .int v_token, .int v_value, .ref h1, .ref h3, .ref h4, .ref h2, .int v_imaged, .ref g4, .long v_oldRing, .ref g5, .long v_aheadRing, .ref g6]), (h1, xI X 8 v_holding), (h2, xI X 7 u.2.2.2), (h3, xI X 8 v_rowLength), (h4, xJ X 320 v_rowOf)]) hC hr hlk trivial hf hH rfl rfl dX7_rings_16
def f_X7_draw (v_seed : Int32) (p1 : Int32) : Option (Int32 × Int32) :=
  if p1 = nI 0 then none else
  some (xrem (xushr ((v_seed * (nI 1103515245)) + (nI 12345)) (nI 16)) p1, (v_seed * (nI 1103515245)) + (nI 12345))
set_option maxHeartbeats 4000000 in
set_option maxRecDepth 100000 in
theorem c_X7_draw {l : Launch} {X : xG} {h0 g0 g1 g2 g3 g4 g5 g6 g7 g8 g9 g10 : Nat} {v_laws : Int32} {v_inForce : Int32} {v_depth : Int32} {v_miss : Int32} {v_ring : Int64} {v_size : Int32} {v_people : Int32} {v_seed : Int32} {v_taped : Int32} {v_from : Int32} {v_to : Int32} {v_token : Int32} {v_value : Int32} {v_imaged : Int32} {v_oldRing : Int64} {v_aheadRing : Int64} {p1 : Int32} {u : Int32 × Int32} (hf : f_X7_draw v_seed p1 = some u) : Met l yX7_draw (xw yX7_draw cX7_draw 2 (some .int)) (xrm 0 0) (xPc [.ref h0, .int p1] X [(h0, xO 7 [.int v_laws, .ref g0, .ref g1, .int v_inForce, .int v_depth, .int v_miss, .long v_ring, .int v_size, .int v_people, .ref g2, .int v_seed, .int v_taped, .ref g3, .int v_from, .int v_to, .int v_token, .int v_value, .ref g4, .ref g5, .ref g6, .ref g7, .int v_imaged, .ref g8, .long v_oldRing, .ref g9, .long v_aheadRing, .ref g10])]) (xQw True (.returned (some (.int u.1))) X [(h0, xO 7 [.int v_laws, .ref g0, .ref g1, .int v_inForce, .int v_depth, .int v_miss, .long v_ring, .int v_size, .int v_people, .ref g2, .int u.2, .int v_taped, .ref g3, .int v_from, .int v_to, .int v_token, .int v_value, .ref g4, .ref g5, .ref g6, .ref g7, .int v_imaged, .ref g8, .long v_oldRing, .ref g9, .long v_aheadRing, .ref g10])] (xAs [(h0, xO 7 [.int v_laws, .ref g0, .ref g1, .int v_inForce, .int v_depth, .int v_miss, .long v_ring, .int v_size, .int v_people, .ref g2, .int v_seed, .int v_taped, .ref g3, .int v_from, .int v_to, .int v_token, .int v_value, .ref g4, .ref g5, .ref g6, .ref g7, .int v_imaged, .ref g8, .long v_oldRing, .ref g9, .long v_aheadRing, .ref g10])])) 0 0 (xAs [(h0, xO 7 [.int v_laws, .ref g0, .ref g1, .int v_inForce, .int v_depth, .int v_miss, .long v_ring, .int v_size, .int v_people, .ref g2, .int v_seed, .int v_taped, .ref g3, .int v_from, .int v_to, .int v_token, .int v_value, .ref g4, .ref g5, .ref g6, .ref g7, .int v_imaged, .ref g8, .long v_oldRing, .ref g9, .long v_aheadRing, .ref g10])]) := by
  refine xMetw (Qc := fun A => xQw True (.returned (some (.int u.1))) X [(h0, xO 7 [.int v_laws, .ref g0, .ref g1, .int v_inForce, .int v_depth, .int v_miss, .long v_ring, .int v_size, .int v_people, .ref g2, .int u.2, .int v_taped, .ref g3, .int v_from, .int v_to, .int v_token, .int v_value, .ref g4, .ref g5, .ref g6, .ref g7, .int v_imaged, .ref g8, .long v_oldRing, .ref g9, .long v_aheadRing, .ref g10])] A) (n := 1) md_X7_draw.1 (Nat.le_of_ble_eq_true rfl) ?_
  intro p e s m args below meth c ls A hC hr hlk hH hl
  have hl : lv_has ls 2 [(0, .ref h0), (1, .int p1)] := hl
  have hx := hC.1
  have hb := hC.2.1
  refine lv_aload_n hx hb dX7_draw_0 rfl (lv_at hl 0 rfl) ?_
  refine lv_aload_n hx hb dX7_draw_1 rfl (lv_at hl 0 rfl) ?_
  refine x_get hC fd_RX7_49 hH.1 0 rfl rfl dX7_draw_2 ?_
  refine lv_ldcw (v := (nI 1103515245)) hx hb hC.2.2.2.1 (hC.2.2.2.2.1 _ mw_1311) dX7_draw_5 ?_
  refine lv_imul hx hb dX7_draw_8 ?_
  refine lv_sipush (v := (nI 12345)) hx hb dX7_draw_9 (by decide) ?_
  refine lv_iadd hx hb dX7_draw_12 ?_
  refine x_put (ws' := [(h0, xO 7 [.int v_laws, .ref g0, .ref g1, .int v_inForce, .int v_depth, .int v_miss, .long v_ring, .int v_size, .int v_people, .ref g2, .int ((v_seed * (nI 1103515245)) + (nI 12345)), .int v_taped, .ref g3, .int v_from, .int v_to, .int v_token, .int v_value, .ref g4, .ref g5, .ref g6, .ref g7, .int v_imaged, .ref g8, .long v_oldRing, .ref g9, .long v_aheadRing, .ref g10])]) hC fd_RX7_49 hH 0 rfl (Nat.le_of_ble_eq_true rfl) rfl rfl dX7_draw_13 rfl (fun H locs hH => ?_)
  refine lv_aload_n hx hb dX7_draw_16 rfl (lv_at hl 0 rfl) ?_
  refine x_get hC fd_RX7_49 hH.1 0 rfl rfl dX7_draw_17 ?_
  refine lv_bipush (v := (nI 16)) hx hb dX7_draw_20 (by decide) ?_
  refine x_iushr hx hb dX7_draw_22 ?_
  refine lv_iload_n hx hb dX7_draw_23 rfl (lv_at hl 1 rfl) ?_
  obtain ⟨n1, hf⟩ := xok hf
  refine x_irem hx hb dX7_draw_24 n1 ?_
  exact x_retiw (φ := fun _ => True) (f := fun u : Int32 × Int32 => u.1) (wf := fun u : Int32 × Int32 => [(h0, xO 7 [.int v_laws, .ref g0, .ref g1, .int v_inForce, .int v_depth, .int v_miss, .long v_ring, .int v_size, .int v_people, .ref g2, .int u.2, .int v_taped, .ref g3, .int v_from, .int v_to, .int v_token, .int v_value, .ref g4, .ref g5, .ref g6, .ref g7, .int v_imaged, .ref g8, .long v_oldRing, .ref g9, .long v_aheadRing, .ref g10])]) hC hr hlk trivial hf hH rfl rfl dX7_draw_25
def f_X7_rung (v_laws : Int32) (v_inForce : Int32) (v_miss : Int32) (v_ring : Int64) (v_size : Int32) (v_seed : Int32) (v_kind : (Nat → Int32)) (v_own : (Nat → Int32)) (p1 : Int32) : Option (Int32 × Int64 × Int32 × Int32) :=
  (f_X7_adds v_ring v_size p1).bind fun u1 =>
  (f_X7_strikesNow v_laws v_inForce v_kind v_own u1.1 u1.2 (u1.2 - (nI 1))).bind fun u2 =>
  if u2 = (nI 0) then
    some ((nI 0), u1.1, u1.2, v_seed)
  else
  (f_X7_draw v_seed (nI 100)).bind fun u4 =>
  if u4.1 < v_miss then
    some ((nI 0), u1.1, u1.2, u4.2)
  else
  some ((nI 1), u1.1, u1.2, u4.2)
set_option maxHeartbeats 4000000 in
set_option maxRecDepth 100000 in
theorem c_X7_rung {l : Launch} {X : xG} {h0 h1 h2 g0 g1 g2 g3 g4 g5 g6 g7 g8 : Nat} {v_laws : Int32} {v_inForce : Int32} {v_depth : Int32} {v_miss : Int32} {v_ring : Int64} {v_size : Int32} {v_people : Int32} {v_seed : Int32} {v_taped : Int32} {v_from : Int32} {v_to : Int32} {v_token : Int32} {v_value : Int32} {v_imaged : Int32} {v_oldRing : Int64} {v_aheadRing : Int64} {v_kind : (Nat → Int32)} {v_own : (Nat → Int32)} {p1 : Int32} {u : Int32 × Int64 × Int32 × Int32} (hf : f_X7_rung v_laws v_inForce v_miss v_ring v_size v_seed v_kind v_own p1 = some u) : Met l yX7_rung (xw yX7_rung cX7_rung 2 (some .int)) (xrm 4 96) (xPc [.ref h0, .int p1] X [(h0, xO 7 [.int v_laws, .ref h1, .ref h2, .int v_inForce, .int v_depth, .int v_miss, .long v_ring, .int v_size, .int v_people, .ref g0, .int v_seed, .int v_taped, .ref g1, .int v_from, .int v_to, .int v_token, .int v_value, .ref g2, .ref g3, .ref g4, .ref g5, .int v_imaged, .ref g6, .long v_oldRing, .ref g7, .long v_aheadRing, .ref g8]), (h1, xI X 6 v_kind), (h2, xI X 6 v_own)]) (xQw True (.returned (some (.int u.1))) X [(h0, xO 7 [.int v_laws, .ref h1, .ref h2, .int v_inForce, .int v_depth, .int v_miss, .long u.2.1, .int u.2.2.1, .int v_people, .ref g0, .int u.2.2.2, .int v_taped, .ref g1, .int v_from, .int v_to, .int v_token, .int v_value, .ref g2, .ref g3, .ref g4, .ref g5, .int v_imaged, .ref g6, .long v_oldRing, .ref g7, .long v_aheadRing, .ref g8]), (h1, xI X 6 v_kind), (h2, xI X 6 v_own)] (xAs [(h0, xO 7 [.int v_laws, .ref h1, .ref h2, .int v_inForce, .int v_depth, .int v_miss, .long v_ring, .int v_size, .int v_people, .ref g0, .int v_seed, .int v_taped, .ref g1, .int v_from, .int v_to, .int v_token, .int v_value, .ref g2, .ref g3, .ref g4, .ref g5, .int v_imaged, .ref g6, .long v_oldRing, .ref g7, .long v_aheadRing, .ref g8]), (h1, xI X 6 v_kind), (h2, xI X 6 v_own)])) 0 0 (xAs [(h0, xO 7 [.int v_laws, .ref h1, .ref h2, .int v_inForce, .int v_depth, .int v_miss, .long v_ring, .int v_size, .int v_people, .ref g0, .int v_seed, .int v_taped, .ref g1, .int v_from, .int v_to, .int v_token, .int v_value, .ref g2, .ref g3, .ref g4, .ref g5, .int v_imaged, .ref g6, .long v_oldRing, .ref g7, .long v_aheadRing, .ref g8]), (h1, xI X 6 v_kind), (h2, xI X 6 v_own)]) := by
  refine xMetw (Qc := fun A => xQw True (.returned (some (.int u.1))) X [(h0, xO 7 [.int v_laws, .ref h1, .ref h2, .int v_inForce, .int v_depth, .int v_miss, .long u.2.1, .int u.2.2.1, .int v_people, .ref g0, .int u.2.2.2, .int v_taped, .ref g1, .int v_from, .int v_to, .int v_token, .int v_value, .ref g2, .ref g3, .ref g4, .ref g5, .int v_imaged, .ref g6, .long v_oldRing, .ref g7, .long v_aheadRing, .ref g8]), (h1, xI X 6 v_kind), (h2, xI X 6 v_own)] A) (n := 1) md_X7_rung.1 (Nat.le_of_ble_eq_true rfl) ?_
  intro p e s m args below meth c ls A hC hr hlk hH hl
  have hl : lv_has ls 2 [(0, .ref h0), (1, .int p1)] := hl
  have hx := hC.1
  have hb := hC.2.1
  refine lv_aload_n hx hb dX7_rung_0 rfl (lv_at hl 0 rfl) ?_
  refine lv_iload_n hx hb dX7_rung_1 rfl (lv_at hl 1 rfl) ?_
  obtain ⟨u1, hf1, hf⟩ := xb hf
  refine x_ranw (ws' := [(h0, xO 7 [.int v_laws, .ref h1, .ref h2, .int v_inForce, .int v_depth, .int v_miss, .long u1.1, .int u1.2, .int v_people, .ref g0, .int v_seed, .int v_taped, .ref g1, .int v_from, .int v_to, .int v_token, .int v_value, .ref g2, .ref g3, .ref g4, .ref g5, .int v_imaged, .ref g6, .long v_oldRing, .ref g7, .long v_aheadRing, .ref g8]), (h1, xI X 6 v_kind), (h2, xI X 6 v_own)]) (x_runV (q0 := 0) (rest := []) (As := [.int p1]) hC mw_636 md_X7_adds (c_X7_adds (X := X) hf1) hH [0] rfl (by decide) rfl rfl rfl hl.1 rfl rfl (Nat.le_of_ble_eq_true rfl) dX7_rung_2 ⟨Nat.le_of_ble_eq_true rfl, Nat.le_of_ble_eq_true rfl⟩ ⟨rfl, rfl⟩ ⟨Nat.le_refl _, Nat.le_refl _⟩) hH [0] rfl rfl rfl rfl rfl (fun hz1 H locs hH => ?_)
  refine lv_aload_n hx hb dX7_rung_5 rfl (lv_at hl 0 rfl) ?_
  refine lv_aload_n hx hb dX7_rung_6 rfl (lv_at hl 0 rfl) ?_
  refine x_get hC fd_RX7_90 hH.1 0 rfl rfl dX7_rung_7 ?_
  refine lv_aload_n hx hb dX7_rung_10 rfl (lv_at hl 0 rfl) ?_
  refine x_get hC fd_RX7_62 hH.1 0 rfl rfl dX7_rung_11 ?_
  refine lv_aload_n hx hb dX7_rung_14 rfl (lv_at hl 0 rfl) ?_
  refine x_get hC fd_RX7_62 hH.1 0 rfl rfl dX7_rung_15 ?_
  refine lv_iconst (v := (nI 1)) hx hb dX7_rung_18 (by decide) ?_
  refine lv_isub hx hb dX7_rung_19 ?_
  obtain ⟨u2, hf2, hf⟩ := xb hf
  refine x_ran (x_runV (q0 := 0) (rest := []) (As := [.long u1.1, .int u1.2, .int (u1.2 - (nI 1))]) hC mw_702 md_X7_strikesNow (c_X7_strikesNow (X := X) hf2) hH [0, 1, 2] rfl (by decide) rfl rfl rfl hl.1 rfl rfl (Nat.le_of_ble_eq_true rfl) dX7_rung_20 ⟨Nat.le_of_ble_eq_true rfl, Nat.le_of_ble_eq_true rfl⟩ ⟨rfl, rfl⟩ ⟨Nat.le_refl _, Nat.le_refl _⟩) rfl (fun hz2 => ?_)
  refine lv_if_eq (tgt := 43) hx hb dX7_rung_23 (by decide) (fun c3 => ?_) (fun c3 => ?_)
  · have hf := xt c3 hf
    refine lv_iconst (v := (nI 0)) hx hb dX7_rung_43 (by decide) ?_
    exact x_retiw (φ := fun _ => True) (f := fun u : Int32 × Int64 × Int32 × Int32 => u.1) (wf := fun u : Int32 × Int64 × Int32 × Int32 => [(h0, xO 7 [.int v_laws, .ref h1, .ref h2, .int v_inForce, .int v_depth, .int v_miss, .long u.2.1, .int u.2.2.1, .int v_people, .ref g0, .int u.2.2.2, .int v_taped, .ref g1, .int v_from, .int v_to, .int v_token, .int v_value, .ref g2, .ref g3, .ref g4, .ref g5, .int v_imaged, .ref g6, .long v_oldRing, .ref g7, .long v_aheadRing, .ref g8]), (h1, xI X 6 v_kind), (h2, xI X 6 v_own)]) hC hr hlk trivial hf hH rfl rfl dX7_rung_44
  · have hf := xe c3 hf
    refine lv_aload_n hx hb dX7_rung_26 rfl (lv_at hl 0 rfl) ?_
    refine lv_bipush (v := (nI 100)) hx hb dX7_rung_27 (by decide) ?_
    obtain ⟨u4, hf4, hf⟩ := xb hf
    refine x_ranw (ws' := [(h0, xO 7 [.int v_laws, .ref h1, .ref h2, .int v_inForce, .int v_depth, .int v_miss, .long u1.1, .int u1.2, .int v_people, .ref g0, .int u4.2, .int v_taped, .ref g1, .int v_from, .int v_to, .int v_token, .int v_value, .ref g2, .ref g3, .ref g4, .ref g5, .int v_imaged, .ref g6, .long v_oldRing, .ref g7, .long v_aheadRing, .ref g8]), (h1, xI X 6 v_kind), (h2, xI X 6 v_own)]) (x_runV (q0 := 0) (rest := []) (As := [.int (nI 100)]) hC mw_1307 md_X7_draw (c_X7_draw (X := X) hf4) hH [0] rfl (by decide) rfl rfl rfl hl.1 rfl rfl (Nat.le_of_ble_eq_true rfl) dX7_rung_29 ⟨Nat.le_of_ble_eq_true rfl, Nat.le_of_ble_eq_true rfl⟩ ⟨rfl, rfl⟩ ⟨Nat.le_refl _, Nat.le_refl _⟩) hH [0] rfl rfl rfl rfl rfl (fun hz4 H locs hH => ?_)
    refine lv_aload_n hx hb dX7_rung_32 rfl (lv_at hl 0 rfl) ?_
    refine x_get hC fd_RX7_105 hH.1 0 rfl rfl dX7_rung_33 ?_
    refine lv_icmp_lt (tgt := 43) hx hb dX7_rung_36 (by decide) (fun c5 => ?_) (fun c5 => ?_)
    · have hf := xt c5 hf
      refine lv_iconst (v := (nI 0)) hx hb dX7_rung_43 (by decide) ?_
      exact x_retiw (φ := fun _ => True) (f := fun u : Int32 × Int64 × Int32 × Int32 => u.1) (wf := fun u : Int32 × Int64 × Int32 × Int32 => [(h0, xO 7 [.int v_laws, .ref h1, .ref h2, .int v_inForce, .int v_depth, .int v_miss, .long u.2.1, .int u.2.2.1, .int v_people, .ref g0, .int u.2.2.2, .int v_taped, .ref g1, .int v_from, .int v_to, .int v_token, .int v_value, .ref g2, .ref g3, .ref g4, .ref g5, .int v_imaged, .ref g6, .long v_oldRing, .ref g7, .long v_aheadRing, .ref g8]), (h1, xI X 6 v_kind), (h2, xI X 6 v_own)]) hC hr hlk trivial hf hH rfl rfl dX7_rung_44
    · have hf := xe c5 hf
      refine lv_iconst (v := (nI 1)) hx hb dX7_rung_39 (by decide) ?_
      refine lv_goto (tgt := 44) hx hb dX7_rung_40 (by decide) ?_
      exact x_retiw (φ := fun _ => True) (f := fun u : Int32 × Int64 × Int32 × Int32 => u.1) (wf := fun u : Int32 × Int64 × Int32 × Int32 => [(h0, xO 7 [.int v_laws, .ref h1, .ref h2, .int v_inForce, .int v_depth, .int v_miss, .long u.2.1, .int u.2.2.1, .int v_people, .ref g0, .int u.2.2.2, .int v_taped, .ref g1, .int v_from, .int v_to, .int v_token, .int v_value, .ref g2, .ref g3, .ref g4, .ref g5, .int v_imaged, .ref g6, .long v_oldRing, .ref g7, .long v_aheadRing, .ref g8]), (h1, xI X 6 v_kind), (h2, xI X 6 v_own)]) hC hr hlk trivial hf hH rfl rfl dX7_rung_44
def f_X7_ring (v_laws : Int32) (v_inForce : Int32) (v_miss : Int32) (v_ring : Int64) (v_size : Int32) (v_seed : Int32) (v_kind : (Nat → Int32)) (v_own : (Nat → Int32)) (v_refusals : (Nat → Int32)) (p1 : Int32) : Option (Int32 × Int64 × Int32 × Int32 × (Nat → Int32)) :=
  if v_size = (nI 40) then
    (f_X7_no v_refusals (-6 : Int32)).bind fun u3 =>
    some (u3.1, v_ring, v_size, v_seed, u3.2)
  else
  (f_X7_rung v_laws v_inForce v_miss v_ring v_size v_seed v_kind v_own p1).bind fun u2 =>
  some (u2.1, u2.2.1, u2.2.2.1, u2.2.2.2, v_refusals)
set_option maxHeartbeats 4000000 in
set_option maxRecDepth 100000 in
theorem c_X7_ring {l : Launch} {X : xG} {h0 h1 h2 h3 g0 g1 g2 g3 g4 g5 g6 g7 : Nat} {v_laws : Int32} {v_inForce : Int32} {v_depth : Int32} {v_miss : Int32} {v_ring : Int64} {v_size : Int32} {v_people : Int32} {v_seed : Int32} {v_taped : Int32} {v_from : Int32} {v_to : Int32} {v_token : Int32} {v_value : Int32} {v_imaged : Int32} {v_oldRing : Int64} {v_aheadRing : Int64} {v_kind : (Nat → Int32)} {v_own : (Nat → Int32)} {v_refusals : (Nat → Int32)} {p1 : Int32} {u : Int32 × Int64 × Int32 × Int32 × (Nat → Int32)} (hf : f_X7_ring v_laws v_inForce v_miss v_ring v_size v_seed v_kind v_own v_refusals p1 = some u) : Met l yX7_ring (xw yX7_ring cX7_ring 2 (some .int)) (xrm 5 117) (xPc [.ref h0, .int p1] X [(h0, xO 7 [.int v_laws, .ref h1, .ref h2, .int v_inForce, .int v_depth, .int v_miss, .long v_ring, .int v_size, .int v_people, .ref g0, .int v_seed, .int v_taped, .ref g1, .int v_from, .int v_to, .int v_token, .int v_value, .ref g2, .ref g3, .ref g4, .ref h3, .int v_imaged, .ref g5, .long v_oldRing, .ref g6, .long v_aheadRing, .ref g7]), (h1, xI X 6 v_kind), (h2, xI X 6 v_own), (h3, xI X 7 v_refusals)]) (xQw True (.returned (some (.int u.1))) X [(h0, xO 7 [.int v_laws, .ref h1, .ref h2, .int v_inForce, .int v_depth, .int v_miss, .long u.2.1, .int u.2.2.1, .int v_people, .ref g0, .int u.2.2.2.1, .int v_taped, .ref g1, .int v_from, .int v_to, .int v_token, .int v_value, .ref g2, .ref g3, .ref g4, .ref h3, .int v_imaged, .ref g5, .long v_oldRing, .ref g6, .long v_aheadRing, .ref g7]), (h1, xI X 6 v_kind), (h2, xI X 6 v_own), (h3, xI X 7 u.2.2.2.2)] (xAs [(h0, xO 7 [.int v_laws, .ref h1, .ref h2, .int v_inForce, .int v_depth, .int v_miss, .long v_ring, .int v_size, .int v_people, .ref g0, .int v_seed, .int v_taped, .ref g1, .int v_from, .int v_to, .int v_token, .int v_value, .ref g2, .ref g3, .ref g4, .ref h3, .int v_imaged, .ref g5, .long v_oldRing, .ref g6, .long v_aheadRing, .ref g7]), (h1, xI X 6 v_kind), (h2, xI X 6 v_own), (h3, xI X 7 v_refusals)])) 0 0 (xAs [(h0, xO 7 [.int v_laws, .ref h1, .ref h2, .int v_inForce, .int v_depth, .int v_miss, .long v_ring, .int v_size, .int v_people, .ref g0, .int v_seed, .int v_taped, .ref g1, .int v_from, .int v_to, .int v_token, .int v_value, .ref g2, .ref g3, .ref g4, .ref h3, .int v_imaged, .ref g5, .long v_oldRing, .ref g6, .long v_aheadRing, .ref g7]), (h1, xI X 6 v_kind), (h2, xI X 6 v_own), (h3, xI X 7 v_refusals)]) := by
  refine xMetw (Qc := fun A => xQw True (.returned (some (.int u.1))) X [(h0, xO 7 [.int v_laws, .ref h1, .ref h2, .int v_inForce, .int v_depth, .int v_miss, .long u.2.1, .int u.2.2.1, .int v_people, .ref g0, .int u.2.2.2.1, .int v_taped, .ref g1, .int v_from, .int v_to, .int v_token, .int v_value, .ref g2, .ref g3, .ref g4, .ref h3, .int v_imaged, .ref g5, .long v_oldRing, .ref g6, .long v_aheadRing, .ref g7]), (h1, xI X 6 v_kind), (h2, xI X 6 v_own), (h3, xI X 7 u.2.2.2.2)] A) (n := 1) md_X7_ring.1 (Nat.le_of_ble_eq_true rfl) ?_
  intro p e s m args below meth c ls A hC hr hlk hH hl
  have hl : lv_has ls 2 [(0, .ref h0), (1, .int p1)] := hl
  have hx := hC.1
  have hb := hC.2.1
  refine lv_aload_n hx hb dX7_ring_0 rfl (lv_at hl 0 rfl) ?_
  refine x_get hC fd_RX7_62 hH.1 0 rfl rfl dX7_ring_1 ?_
  refine lv_bipush (v := (nI 40)) hx hb dX7_ring_4 (by decide) ?_
  refine lv_icmp_ne (tgt := 18) hx hb dX7_ring_6 (by decide) (fun c1 => ?_) (fun c1 => ?_)
  · have hf := xe c1 hf
    refine lv_aload_n hx hb dX7_ring_18 rfl (lv_at hl 0 rfl) ?_
    refine lv_iload_n hx hb dX7_ring_19 rfl (lv_at hl 1 rfl) ?_
    obtain ⟨u2, hf2, hf⟩ := xb hf
    refine x_ranw (ws' := [(h0, xO 7 [.int v_laws, .ref h1, .ref h2, .int v_inForce, .int v_depth, .int v_miss, .long u2.2.1, .int u2.2.2.1, .int v_people, .ref g0, .int u2.2.2.2, .int v_taped, .ref g1, .int v_from, .int v_to, .int v_token, .int v_value, .ref g2, .ref g3, .ref g4, .ref h3, .int v_imaged, .ref g5, .long v_oldRing, .ref g6, .long v_aheadRing, .ref g7]), (h1, xI X 6 v_kind), (h2, xI X 6 v_own), (h3, xI X 7 v_refusals)]) (x_runV (q0 := 0) (rest := []) (As := [.int p1]) hC mw_1303 md_X7_rung (c_X7_rung (X := X) hf2) hH [0, 1, 2] rfl (by decide) rfl rfl rfl hl.1 rfl rfl (Nat.le_of_ble_eq_true rfl) dX7_ring_20 ⟨Nat.le_of_ble_eq_true rfl, Nat.le_of_ble_eq_true rfl⟩ ⟨rfl, rfl⟩ ⟨Nat.le_refl _, Nat.le_refl _⟩) hH [0, 1, 2] rfl rfl rfl rfl rfl (fun hz2 H locs hH => ?_)
    exact x_retiw (φ := fun _ => True) (f := fun u : Int32 × Int64 × Int32 × Int32 × (Nat → Int32) => u.1) (wf := fun u : Int32 × Int64 × Int32 × Int32 × (Nat → Int32) => [(h0, xO 7 [.int v_laws, .ref h1, .ref h2, .int v_inForce, .int v_depth, .int v_miss, .long u.2.1, .int u.2.2.1, .int v_people, .ref g0, .int u.2.2.2.1, .int v_taped, .ref g1, .int v_from, .int v_to, .int v_token, .int v_value, .ref g2, .ref g3, .ref g4, .ref h3, .int v_imaged, .ref g5, .long v_oldRing, .ref g6, .long v_aheadRing, .ref g7]), (h1, xI X 6 v_kind), (h2, xI X 6 v_own), (h3, xI X 7 u.2.2.2.2)]) hC hr hlk trivial hf hH rfl rfl dX7_ring_23
  · have hf := xt c1 hf
    refine lv_aload_n hx hb dX7_ring_9 rfl (lv_at hl 0 rfl) ?_
    refine lv_bipush (v := (-6 : Int32)) hx hb dX7_ring_10 (by decide) ?_
    obtain ⟨u3, hf3, hf⟩ := xb hf
    refine x_ranw (ws' := [(h0, xO 7 [.int v_laws, .ref h1, .ref h2, .int v_inForce, .int v_depth, .int v_miss, .long v_ring, .int v_size, .int v_people, .ref g0, .int v_seed, .int v_taped, .ref g1, .int v_from, .int v_to, .int v_token, .int v_value, .ref g2, .ref g3, .ref g4, .ref h3, .int v_imaged, .ref g5, .long v_oldRing, .ref g6, .long v_aheadRing, .ref g7]), (h1, xI X 6 v_kind), (h2, xI X 6 v_own), (h3, xI X 7 u3.2)]) (x_runV (q0 := 0) (rest := []) (As := [.int (-6 : Int32)]) hC mw_143 md_X7_no (c_X7_no (X := X) hf3) hH [0, 3] rfl (by decide) rfl rfl rfl hl.1 rfl rfl (Nat.le_of_ble_eq_true rfl) dX7_ring_12 ⟨Nat.le_of_ble_eq_true rfl, Nat.le_of_ble_eq_true rfl⟩ ⟨rfl, rfl⟩ ⟨Nat.le_refl _, Nat.le_refl _⟩) hH [0, 3] rfl rfl rfl rfl rfl (fun hz3 H locs hH => ?_)
    refine lv_goto (tgt := 23) hx hb dX7_ring_15 (by decide) ?_
    exact x_retiw (φ := fun _ => True) (f := fun u : Int32 × Int64 × Int32 × Int32 × (Nat → Int32) => u.1) (wf := fun u : Int32 × Int64 × Int32 × Int32 × (Nat → Int32) => [(h0, xO 7 [.int v_laws, .ref h1, .ref h2, .int v_inForce, .int v_depth, .int v_miss, .long u.2.1, .int u.2.2.1, .int v_people, .ref g0, .int u.2.2.2.1, .int v_taped, .ref g1, .int v_from, .int v_to, .int v_token, .int v_value, .ref g2, .ref g3, .ref g4, .ref h3, .int v_imaged, .ref g5, .long v_oldRing, .ref g6, .long v_aheadRing, .ref g7]), (h1, xI X 6 v_kind), (h2, xI X 6 v_own), (h3, xI X 7 u.2.2.2.2)]) hC hr hlk trivial hf hH rfl rfl dX7_ring_23
def f_X7_days_L21 (v_laws : Int32) (v_inForce : Int32) (v_miss : Int32) (v_kind : (Nat → Int32)) (v_own : (Nat → Int32)) (v_refusals : (Nat → Int32)) (p1 : Int32) (s21 : Int32 × Int32 × Int64 × Int32 × Int32) : Option ((Int32 × Int64 × Int32 × Int32 × (Nat → Int32)) ⊕ (Int32 × Int32 × Int64 × Int32 × Int32)) :=
  if p1 ≤ s21.2.1 then
    some (.inl (s21.1, s21.2.2.1, s21.2.2.2.1, s21.2.2.2.2, v_refusals))
  else
  if (nI 40) ≤ s21.2.2.2.1 then
    some (.inl (s21.1, s21.2.2.1, s21.2.2.2.1, s21.2.2.2.2, v_refusals))
  else
  (f_X7_draw s21.2.2.2.2 (nI 2)).bind fun u5 =>
  if u5.1 = (nI 1) then
    (f_X7_rung v_laws v_inForce v_miss s21.2.2.1 s21.2.2.2.1 u5.2 v_kind v_own (nI 1)).bind fun u8 =>
    some (.inr (s21.1 + u8.1, s21.2.1 + (nI 1), u8.2.1, u8.2.2.1, u8.2.2.2))
  else
  (f_X7_rung v_laws v_inForce v_miss s21.2.2.1 s21.2.2.2.1 u5.2 v_kind v_own (nI 0)).bind fun u7 =>
  some (.inr (s21.1 + u7.1, s21.2.1 + (nI 1), u7.2.1, u7.2.2.1, u7.2.2.2))
def f_X7_days (v_laws : Int32) (v_inForce : Int32) (v_miss : Int32) (v_ring : Int64) (v_size : Int32) (v_seed : Int32) (v_kind : (Nat → Int32)) (v_own : (Nat → Int32)) (v_refusals : (Nat → Int32)) (p1 : Int32) : Option (Int32 × Int64 × Int32 × Int32 × (Nat → Int32)) :=
  (f_X7_within p1 (nI 1) (nI 40)).bind fun u1 =>
  if u1 = (nI 0) then
    (f_X7_no v_refusals (-2 : Int32)).bind fun u9 =>
    some (u9.1, v_ring, v_size, v_seed, u9.2)
  else
  xloop (f_X7_days_L21 v_laws v_inForce v_miss v_kind v_own v_refusals p1) xN ((nI 0), (nI 0), v_ring, v_size, v_seed)
set_option maxHeartbeats 4000000 in
set_option maxRecDepth 100000 in
theorem c_X7_days {l : Launch} {X : xG} {h0 h1 h2 h3 g0 g1 g2 g3 g4 g5 g6 g7 : Nat} {v_laws : Int32} {v_inForce : Int32} {v_depth : Int32} {v_miss : Int32} {v_ring : Int64} {v_size : Int32} {v_people : Int32} {v_seed : Int32} {v_taped : Int32} {v_from : Int32} {v_to : Int32} {v_token : Int32} {v_value : Int32} {v_imaged : Int32} {v_oldRing : Int64} {v_aheadRing : Int64} {v_kind : (Nat → Int32)} {v_own : (Nat → Int32)} {v_refusals : (Nat → Int32)} {p1 : Int32} {u : Int32 × Int64 × Int32 × Int32 × (Nat → Int32)} (hf : f_X7_days v_laws v_inForce v_miss v_ring v_size v_seed v_kind v_own v_refusals p1 = some u) : Met l yX7_days (xw yX7_days cX7_days 4 (some .int)) (xrm 5 117) (xPc [.ref h0, .int p1] X [(h0, xO 7 [.int v_laws, .ref h1, .ref h2, .int v_inForce, .int v_depth, .int v_miss, .long v_ring, .int v_size, .int v_people, .ref g0, .int v_seed, .int v_taped, .ref g1, .int v_from, .int v_to, .int v_token, .int v_value, .ref g2, .ref g3, .ref g4, .ref h3, .int v_imaged, .ref g5, .long v_oldRing, .ref g6, .long v_aheadRing, .ref g7]), (h1, xI X 6 v_kind), (h2, xI X 6 v_own), (h3, xI X 7 v_refusals)]) (xQw True (.returned (some (.int u.1))) X [(h0, xO 7 [.int v_laws, .ref h1, .ref h2, .int v_inForce, .int v_depth, .int v_miss, .long u.2.1, .int u.2.2.1, .int v_people, .ref g0, .int u.2.2.2.1, .int v_taped, .ref g1, .int v_from, .int v_to, .int v_token, .int v_value, .ref g2, .ref g3, .ref g4, .ref h3, .int v_imaged, .ref g5, .long v_oldRing, .ref g6, .long v_aheadRing, .ref g7]), (h1, xI X 6 v_kind), (h2, xI X 6 v_own), (h3, xI X 7 u.2.2.2.2)] (xAs [(h0, xO 7 [.int v_laws, .ref h1, .ref h2, .int v_inForce, .int v_depth, .int v_miss, .long v_ring, .int v_size, .int v_people, .ref g0, .int v_seed, .int v_taped, .ref g1, .int v_from, .int v_to, .int v_token, .int v_value, .ref g2, .ref g3, .ref g4, .ref h3, .int v_imaged, .ref g5, .long v_oldRing, .ref g6, .long v_aheadRing, .ref g7]), (h1, xI X 6 v_kind), (h2, xI X 6 v_own), (h3, xI X 7 v_refusals)])) 0 0 (xAs [(h0, xO 7 [.int v_laws, .ref h1, .ref h2, .int v_inForce, .int v_depth, .int v_miss, .long v_ring, .int v_size, .int v_people, .ref g0, .int v_seed, .int v_taped, .ref g1, .int v_from, .int v_to, .int v_token, .int v_value, .ref g2, .ref g3, .ref g4, .ref h3, .int v_imaged, .ref g5, .long v_oldRing, .ref g6, .long v_aheadRing, .ref g7]), (h1, xI X 6 v_kind), (h2, xI X 6 v_own), (h3, xI X 7 v_refusals)]) := by
  refine xMetw (Qc := fun A => xQw True (.returned (some (.int u.1))) X [(h0, xO 7 [.int v_laws, .ref h1, .ref h2, .int v_inForce, .int v_depth, .int v_miss, .long u.2.1, .int u.2.2.1, .int v_people, .ref g0, .int u.2.2.2.1, .int v_taped, .ref g1, .int v_from, .int v_to, .int v_token, .int v_value, .ref g2, .ref g3, .ref g4, .ref h3, .int v_imaged, .ref g5, .long v_oldRing, .ref g6, .long v_aheadRing, .ref g7]), (h1, xI X 6 v_kind), (h2, xI X 6 v_own), (h3, xI X 7 u.2.2.2.2)] A) (n := 1) md_X7_days.1 (Nat.le_of_ble_eq_true rfl) ?_
  intro p e s m args below meth c ls A hC hr hlk hH hl
  have hl : lv_has ls 4 [(0, .ref h0), (1, .int p1)] := hl
  have hx := hC.1
  have hb := hC.2.1
  have L21 : ∀ (n : Nat) (s21 : Int32 × Int32 × Int64 × Int32 × Int32), xloop (f_X7_days_L21 v_laws v_inForce v_miss v_kind v_own v_refusals p1) n s21 = some u → ∀ (H : Heap) (locs : List Loc), xH X A [(h0, xO 7 [.int v_laws, .ref h1, .ref h2, .int v_inForce, .int v_depth, .int v_miss, .long s21.2.2.1, .int s21.2.2.2.1, .int v_people, .ref g0, .int s21.2.2.2.2, .int v_taped, .ref g1, .int v_from, .int v_to, .int v_token, .int v_value, .ref g2, .ref g3, .ref g4, .ref h3, .int v_imaged, .ref g5, .long v_oldRing, .ref g6, .long v_aheadRing, .ref g7]), (h1, xI X 6 v_kind), (h2, xI X 6 v_own), (h3, xI X 7 v_refusals)] s.heap H locs → ∀ (ls : Array Slot), lv_has ls 4 [(0, .ref h0), (1, .int p1), (2, .int s21.1), (3, .int s21.2.1)] → W p l e (xrm 5 117) s m args below meth c H locs 0 0 (MQ below (xQw True (.returned (some (.int u.1))) X [(h0, xO 7 [.int v_laws, .ref h1, .ref h2, .int v_inForce, .int v_depth, .int v_miss, .long u.2.1, .int u.2.2.1, .int v_people, .ref g0, .int u.2.2.2.1, .int v_taped, .ref g1, .int v_from, .int v_to, .int v_token, .int v_value, .ref g2, .ref g3, .ref g4, .ref h3, .int v_imaged, .ref g5, .long v_oldRing, .ref g6, .long v_aheadRing, .ref g7]), (h1, xI X 6 v_kind), (h2, xI X 6 v_own), (h3, xI X 7 u.2.2.2.2)] A) args s 0 0 A) (F0 m 21 ls []) := by
    intro  n
    induction n with
    | zero => intro s21 hf; exact xloop_0 hf
    | succ n ih21 =>
      intro s21 hf H locs hH ls hl
      obtain ⟨o21, hf, ho21⟩ := xloop_s hf
      refine lv_iload_n hx hb dX7_days_21 rfl (lv_at hl 3 rfl) ?_
      refine lv_iload_n hx hb dX7_days_22 rfl (lv_at hl 1 rfl) ?_
      refine lv_icmp_ge (tgt := 62) hx hb dX7_days_23 (by decide) (fun c3 => ?_) (fun c3 => ?_)
      · have hf := xt c3 hf
        refine lv_iload_n hx hb dX7_days_62 rfl (lv_at hl 2 rfl) ?_
        have hf := xo_ret hf ho21
        exact x_retiw (φ := fun _ => True) (f := fun u : Int32 × Int64 × Int32 × Int32 × (Nat → Int32) => u.1) (wf := fun u : Int32 × Int64 × Int32 × Int32 × (Nat → Int32) => [(h0, xO 7 [.int v_laws, .ref h1, .ref h2, .int v_inForce, .int v_depth, .int v_miss, .long u.2.1, .int u.2.2.1, .int v_people, .ref g0, .int u.2.2.2.1, .int v_taped, .ref g1, .int v_from, .int v_to, .int v_token, .int v_value, .ref g2, .ref g3, .ref g4, .ref h3, .int v_imaged, .ref g5, .long v_oldRing, .ref g6, .long v_aheadRing, .ref g7]), (h1, xI X 6 v_kind), (h2, xI X 6 v_own), (h3, xI X 7 u.2.2.2.2)]) hC hr hlk trivial hf hH rfl rfl dX7_days_63
      · have hf := xe c3 hf
        refine lv_aload_n hx hb dX7_days_26 rfl (lv_at hl 0 rfl) ?_
        refine x_get hC fd_RX7_62 hH.1 0 rfl rfl dX7_days_27 ?_
        refine lv_bipush (v := (nI 40)) hx hb dX7_days_30 (by decide) ?_
        refine lv_icmp_ge (tgt := 62) hx hb dX7_days_32 (by decide) (fun c4 => ?_) (fun c4 => ?_)
        · have hf := xt c4 hf
          refine lv_iload_n hx hb dX7_days_62 rfl (lv_at hl 2 rfl) ?_
          have hf := xo_ret hf ho21
          exact x_retiw (φ := fun _ => True) (f := fun u : Int32 × Int64 × Int32 × Int32 × (Nat → Int32) => u.1) (wf := fun u : Int32 × Int64 × Int32 × Int32 × (Nat → Int32) => [(h0, xO 7 [.int v_laws, .ref h1, .ref h2, .int v_inForce, .int v_depth, .int v_miss, .long u.2.1, .int u.2.2.1, .int v_people, .ref g0, .int u.2.2.2.1, .int v_taped, .ref g1, .int v_from, .int v_to, .int v_token, .int v_value, .ref g2, .ref g3, .ref g4, .ref h3, .int v_imaged, .ref g5, .long v_oldRing, .ref g6, .long v_aheadRing, .ref g7]), (h1, xI X 6 v_kind), (h2, xI X 6 v_own), (h3, xI X 7 u.2.2.2.2)]) hC hr hlk trivial hf hH rfl rfl dX7_days_63
        · have hf := xe c4 hf
          refine lv_iload_n hx hb dX7_days_35 rfl (lv_at hl 2 rfl) ?_
          refine lv_aload_n hx hb dX7_days_36 rfl (lv_at hl 0 rfl) ?_
          refine lv_aload_n hx hb dX7_days_37 rfl (lv_at hl 0 rfl) ?_
          refine lv_iconst (v := (nI 2)) hx hb dX7_days_38 (by decide) ?_
          obtain ⟨u5, hf5, hf⟩ := xb hf
          refine x_ranw (ws' := [(h0, xO 7 [.int v_laws, .ref h1, .ref h2, .int v_inForce, .int v_depth, .int v_miss, .long s21.2.2.1, .int s21.2.2.2.1, .int v_people, .ref g0, .int u5.2, .int v_taped, .ref g1, .int v_from, .int v_to, .int v_token, .int v_value, .ref g2, .ref g3, .ref g4, .ref h3, .int v_imaged, .ref g5, .long v_oldRing, .ref g6, .long v_aheadRing, .ref g7]), (h1, xI X 6 v_kind), (h2, xI X 6 v_own), (h3, xI X 7 v_refusals)]) (x_runV (q0 := 0) (rest := [.ref h0, .int s21.1]) (As := [.int (nI 2)]) hC mw_1307 md_X7_draw (c_X7_draw (X := X) hf5) hH [0] rfl (by decide) rfl rfl rfl hl.1 rfl rfl (Nat.le_of_ble_eq_true rfl) dX7_days_39 ⟨Nat.le_of_ble_eq_true rfl, Nat.le_of_ble_eq_true rfl⟩ ⟨rfl, rfl⟩ ⟨Nat.le_refl _, Nat.le_refl _⟩) hH [0] rfl rfl rfl rfl rfl (fun hz5 H locs hH => ?_)
          refine lv_iconst (v := (nI 1)) hx hb dX7_days_42 (by decide) ?_
          refine lv_icmp_ne (tgt := 50) hx hb dX7_days_43 (by decide) (fun c6 => ?_) (fun c6 => ?_)
          · have hf := xe c6 hf
            refine lv_iconst (v := (nI 0)) hx hb dX7_days_50 (by decide) ?_
            obtain ⟨u7, hf7, hf⟩ := xb hf
            refine x_ranw (ws' := [(h0, xO 7 [.int v_laws, .ref h1, .ref h2, .int v_inForce, .int v_depth, .int v_miss, .long u7.2.1, .int u7.2.2.1, .int v_people, .ref g0, .int u7.2.2.2, .int v_taped, .ref g1, .int v_from, .int v_to, .int v_token, .int v_value, .ref g2, .ref g3, .ref g4, .ref h3, .int v_imaged, .ref g5, .long v_oldRing, .ref g6, .long v_aheadRing, .ref g7]), (h1, xI X 6 v_kind), (h2, xI X 6 v_own), (h3, xI X 7 v_refusals)]) (x_runV (q0 := 0) (rest := [.int s21.1]) (As := [.int (nI 0)]) hC mw_1303 md_X7_rung (c_X7_rung (X := X) hf7) hH [0, 1, 2] rfl (by decide) rfl rfl rfl hl.1 rfl rfl (Nat.le_of_ble_eq_true rfl) dX7_days_51 ⟨Nat.le_of_ble_eq_true rfl, Nat.le_of_ble_eq_true rfl⟩ ⟨rfl, rfl⟩ ⟨Nat.le_refl _, Nat.le_refl _⟩) hH [0, 1, 2] rfl rfl rfl rfl rfl (fun hz7 H locs hH => ?_)
            refine lv_iadd hx hb dX7_days_54 ?_
            refine lv_istore_n (lv' := [(2, .int (s21.1 + u7.1)), (0, .ref h0), (1, .int p1), (3, .int s21.2.1)]) hx hb dX7_days_55 rfl hl (by decide) rfl (fun ls hl => ?_)
            refine lv_iinc (v := s21.2.1 + (nI 1)) (lv' := [(3, .int (s21.2.1 + (nI 1))), (2, .int (s21.1 + u7.1)), (0, .ref h0), (1, .int p1)]) hx hb dX7_days_56 hl (k := 3) rfl rfl (by decide) rfl (fun ls hl => ?_)
            refine lv_goto (tgt := 21) hx hb dX7_days_59 (by decide) ?_
            have hf := xo_go hf ho21
            exact ih21 (s21.1 + u7.1, s21.2.1 + (nI 1), u7.2.1, u7.2.2.1, u7.2.2.2) hf _ _ hH ls (lv_sub hl [2, 3, 1, 0] rfl)
          · have hf := xt c6 hf
            refine lv_iconst (v := (nI 1)) hx hb dX7_days_46 (by decide) ?_
            refine lv_goto (tgt := 51) hx hb dX7_days_47 (by decide) ?_
            obtain ⟨u8, hf8, hf⟩ := xb hf
            refine x_ranw (ws' := [(h0, xO 7 [.int v_laws, .ref h1, .ref h2, .int v_inForce, .int v_depth, .int v_miss, .long u8.2.1, .int u8.2.2.1, .int v_people, .ref g0, .int u8.2.2.2, .int v_taped, .ref g1, .int v_from, .int v_to, .int v_token, .int v_value, .ref g2, .ref g3, .ref g4, .ref h3, .int v_imaged, .ref g5, .long v_oldRing, .ref g6, .long v_aheadRing, .ref g7]), (h1, xI X 6 v_kind), (h2, xI X 6 v_own), (h3, xI X 7 v_refusals)]) (x_runV (q0 := 0) (rest := [.int s21.1]) (As := [.int (nI 1)]) hC mw_1303 md_X7_rung (c_X7_rung (X := X) hf8) hH [0, 1, 2] rfl (by decide) rfl rfl rfl hl.1 rfl rfl (Nat.le_of_ble_eq_true rfl) dX7_days_51 ⟨Nat.le_of_ble_eq_true rfl, Nat.le_of_ble_eq_true rfl⟩ ⟨rfl, rfl⟩ ⟨Nat.le_refl _, Nat.le_refl _⟩) hH [0, 1, 2] rfl rfl rfl rfl rfl (fun hz8 H locs hH => ?_)
            refine lv_iadd hx hb dX7_days_54 ?_
            refine lv_istore_n (lv' := [(2, .int (s21.1 + u8.1)), (0, .ref h0), (1, .int p1), (3, .int s21.2.1)]) hx hb dX7_days_55 rfl hl (by decide) rfl (fun ls hl => ?_)
            refine lv_iinc (v := s21.2.1 + (nI 1)) (lv' := [(3, .int (s21.2.1 + (nI 1))), (2, .int (s21.1 + u8.1)), (0, .ref h0), (1, .int p1)]) hx hb dX7_days_56 hl (k := 3) rfl rfl (by decide) rfl (fun ls hl => ?_)
            refine lv_goto (tgt := 21) hx hb dX7_days_59 (by decide) ?_
            have hf := xo_go hf ho21
            exact ih21 (s21.1 + u8.1, s21.2.1 + (nI 1), u8.2.1, u8.2.2.1, u8.2.2.2) hf _ _ hH ls (lv_sub hl [2, 3, 1, 0] rfl)
  refine lv_iload_n hx hb dX7_days_0 rfl (lv_at hl 1 rfl) ?_
  refine lv_iconst (v := (nI 1)) hx hb dX7_days_1 (by decide) ?_
  refine lv_bipush (v := (nI 40)) hx hb dX7_days_2 (by decide) ?_
  obtain ⟨u1, hf1, hf⟩ := xb hf
  refine x_ran (x_runS (rest := []) (As := [.int p1, .int (nI 1), .int (nI 40)]) hC mw_140 md_X7_within (c_X7_within (X := X) hf1) hH [] rfl (by decide) hl.1 rfl rfl (Nat.le_of_ble_eq_true rfl) dX7_days_4 ⟨Nat.le_of_ble_eq_true rfl, Nat.le_of_ble_eq_true rfl⟩ ⟨rfl, rfl⟩ ⟨Nat.le_refl _, Nat.le_refl _⟩) rfl (fun hz1 => ?_)
  refine lv_if_ne (tgt := 17) hx hb dX7_days_7 (by decide) (fun c2 => ?_) (fun c2 => ?_)
  · have hf := xe c2 hf
    refine lv_iconst (v := (nI 0)) hx hb dX7_days_17 (by decide) ?_
    refine lv_istore_n (lv' := [(2, .int (nI 0)), (0, .ref h0), (1, .int p1)]) hx hb dX7_days_18 rfl hl (by decide) rfl (fun ls hl => ?_)
    refine lv_iconst (v := (nI 0)) hx hb dX7_days_19 (by decide) ?_
    refine lv_istore_n (lv' := [(3, .int (nI 0)), (2, .int (nI 0)), (0, .ref h0), (1, .int p1)]) hx hb dX7_days_20 rfl hl (by decide) rfl (fun ls hl => ?_)
    exact L21 xN ((nI 0), (nI 0), v_ring, v_size, v_seed) hf _ _ hH ls (lv_sub hl [2, 3, 1, 0] rfl)
  · have hf := xt c2 hf
    refine lv_aload_n hx hb dX7_days_10 rfl (lv_at hl 0 rfl) ?_
    refine lv_bipush (v := (-2 : Int32)) hx hb dX7_days_11 (by decide) ?_
    obtain ⟨u9, hf9, hf⟩ := xb hf
    refine x_ranw (ws' := [(h0, xO 7 [.int v_laws, .ref h1, .ref h2, .int v_inForce, .int v_depth, .int v_miss, .long v_ring, .int v_size, .int v_people, .ref g0, .int v_seed, .int v_taped, .ref g1, .int v_from, .int v_to, .int v_token, .int v_value, .ref g2, .ref g3, .ref g4, .ref h3, .int v_imaged, .ref g5, .long v_oldRing, .ref g6, .long v_aheadRing, .ref g7]), (h1, xI X 6 v_kind), (h2, xI X 6 v_own), (h3, xI X 7 u9.2)]) (x_runV (q0 := 0) (rest := []) (As := [.int (-2 : Int32)]) hC mw_143 md_X7_no (c_X7_no (X := X) hf9) hH [0, 3] rfl (by decide) rfl rfl rfl hl.1 rfl rfl (Nat.le_of_ble_eq_true rfl) dX7_days_13 ⟨Nat.le_of_ble_eq_true rfl, Nat.le_of_ble_eq_true rfl⟩ ⟨rfl, rfl⟩ ⟨Nat.le_refl _, Nat.le_refl _⟩) hH [0, 3] rfl rfl rfl rfl rfl (fun hz9 H locs hH => ?_)
    exact x_retiw (φ := fun _ => True) (f := fun u : Int32 × Int64 × Int32 × Int32 × (Nat → Int32) => u.1) (wf := fun u : Int32 × Int64 × Int32 × Int32 × (Nat → Int32) => [(h0, xO 7 [.int v_laws, .ref h1, .ref h2, .int v_inForce, .int v_depth, .int v_miss, .long u.2.1, .int u.2.2.1, .int v_people, .ref g0, .int u.2.2.2.1, .int v_taped, .ref g1, .int v_from, .int v_to, .int v_token, .int v_value, .ref g2, .ref g3, .ref g4, .ref h3, .int v_imaged, .ref g5, .long v_oldRing, .ref g6, .long v_aheadRing, .ref g7]), (h1, xI X 6 v_kind), (h2, xI X 6 v_own), (h3, xI X 7 u.2.2.2.2)]) hC hr hlk trivial hf hH rfl rfl dX7_days_16
def f_X7_turn (v_laws : Int32) (v_inForce : Int32) (v_ring : Int64) (v_size : Int32) (v_kind : (Nat → Int32)) (v_own : (Nat → Int32)) : Option (Int32 × Int64) :=
  (f_X7_backward v_ring v_size).bind fun u1 =>
  (f_X7_struckNow v_laws v_inForce v_kind v_own u1 v_size).bind fun u2 =>
  some (u2, u1)
set_option maxHeartbeats 4000000 in
set_option maxRecDepth 100000 in
theorem c_X7_turn {l : Launch} {X : xG} {h0 h1 h2 g0 g1 g2 g3 g4 g5 g6 g7 g8 : Nat} {v_laws : Int32} {v_inForce : Int32} {v_depth : Int32} {v_miss : Int32} {v_ring : Int64} {v_size : Int32} {v_people : Int32} {v_seed : Int32} {v_taped : Int32} {v_from : Int32} {v_to : Int32} {v_token : Int32} {v_value : Int32} {v_imaged : Int32} {v_oldRing : Int64} {v_aheadRing : Int64} {v_kind : (Nat → Int32)} {v_own : (Nat → Int32)} {u : Int32 × Int64} (hf : f_X7_turn v_laws v_inForce v_ring v_size v_kind v_own = some u) : Met l yX7_turn (xw yX7_turn cX7_turn 1 (some .int)) (xrm 5 121) (xPc [.ref h0] X [(h0, xO 7 [.int v_laws, .ref h1, .ref h2, .int v_inForce, .int v_depth, .int v_miss, .long v_ring, .int v_size, .int v_people, .ref g0, .int v_seed, .int v_taped, .ref g1, .int v_from, .int v_to, .int v_token, .int v_value, .ref g2, .ref g3, .ref g4, .ref g5, .int v_imaged, .ref g6, .long v_oldRing, .ref g7, .long v_aheadRing, .ref g8]), (h1, xI X 6 v_kind), (h2, xI X 6 v_own)]) (xQw True (.returned (some (.int u.1))) X [(h0, xO 7 [.int v_laws, .ref h1, .ref h2, .int v_inForce, .int v_depth, .int v_miss, .long u.2, .int v_size, .int v_people, .ref g0, .int v_seed, .int v_taped, .ref g1, .int v_from, .int v_to, .int v_token, .int v_value, .ref g2, .ref g3, .ref g4, .ref g5, .int v_imaged, .ref g6, .long v_oldRing, .ref g7, .long v_aheadRing, .ref g8]), (h1, xI X 6 v_kind), (h2, xI X 6 v_own)] (xAs [(h0, xO 7 [.int v_laws, .ref h1, .ref h2, .int v_inForce, .int v_depth, .int v_miss, .long v_ring, .int v_size, .int v_people, .ref g0, .int v_seed, .int v_taped, .ref g1, .int v_from, .int v_to, .int v_token, .int v_value, .ref g2, .ref g3, .ref g4, .ref g5, .int v_imaged, .ref g6, .long v_oldRing, .ref g7, .long v_aheadRing, .ref g8]), (h1, xI X 6 v_kind), (h2, xI X 6 v_own)])) 0 0 (xAs [(h0, xO 7 [.int v_laws, .ref h1, .ref h2, .int v_inForce, .int v_depth, .int v_miss, .long v_ring, .int v_size, .int v_people, .ref g0, .int v_seed, .int v_taped, .ref g1, .int v_from, .int v_to, .int v_token, .int v_value, .ref g2, .ref g3, .ref g4, .ref g5, .int v_imaged, .ref g6, .long v_oldRing, .ref g7, .long v_aheadRing, .ref g8]), (h1, xI X 6 v_kind), (h2, xI X 6 v_own)]) := by
  refine xMetw (Qc := fun A => xQw True (.returned (some (.int u.1))) X [(h0, xO 7 [.int v_laws, .ref h1, .ref h2, .int v_inForce, .int v_depth, .int v_miss, .long u.2, .int v_size, .int v_people, .ref g0, .int v_seed, .int v_taped, .ref g1, .int v_from, .int v_to, .int v_token, .int v_value, .ref g2, .ref g3, .ref g4, .ref g5, .int v_imaged, .ref g6, .long v_oldRing, .ref g7, .long v_aheadRing, .ref g8]), (h1, xI X 6 v_kind), (h2, xI X 6 v_own)] A) (n := 0) md_X7_turn.1 (Nat.le_of_ble_eq_true rfl) ?_
  intro p e s m args below meth c ls A hC hr hlk hH hl
  have hl : lv_has ls 1 [(0, .ref h0)] := hl
  have hx := hC.1
  have hb := hC.2.1
  refine lv_aload_n hx hb dX7_turn_0 rfl (lv_at hl 0 rfl) ?_
  refine lv_aload_n hx hb dX7_turn_1 rfl (lv_at hl 0 rfl) ?_
  obtain ⟨u1, hf1, hf⟩ := xb hf
  refine x_ran (x_runV (q0 := 0) (rest := [.ref h0]) (As := []) hC mw_817 md_X7_backward (c_X7_backward (X := X) hf1) hH [0] rfl (by decide) rfl rfl rfl hl.1 rfl rfl (Nat.le_of_ble_eq_true rfl) dX7_turn_2 ⟨Nat.le_of_ble_eq_true rfl, Nat.le_of_ble_eq_true rfl⟩ ⟨rfl, rfl⟩ ⟨Nat.le_refl _, Nat.le_refl _⟩) rfl (fun hz1 => ?_)
  refine x_put (ws' := [(h0, xO 7 [.int v_laws, .ref h1, .ref h2, .int v_inForce, .int v_depth, .int v_miss, .long u1, .int v_size, .int v_people, .ref g0, .int v_seed, .int v_taped, .ref g1, .int v_from, .int v_to, .int v_token, .int v_value, .ref g2, .ref g3, .ref g4, .ref g5, .int v_imaged, .ref g6, .long v_oldRing, .ref g7, .long v_aheadRing, .ref g8]), (h1, xI X 6 v_kind), (h2, xI X 6 v_own)]) hC fd_RX7_90 hH 0 rfl (Nat.le_of_ble_eq_true rfl) rfl rfl dX7_turn_5 rfl (fun H locs hH => ?_)
  refine lv_aload_n hx hb dX7_turn_8 rfl (lv_at hl 0 rfl) ?_
  refine lv_aload_n hx hb dX7_turn_9 rfl (lv_at hl 0 rfl) ?_
  refine x_get hC fd_RX7_90 hH.1 0 rfl rfl dX7_turn_10 ?_
  refine lv_aload_n hx hb dX7_turn_13 rfl (lv_at hl 0 rfl) ?_
  refine x_get hC fd_RX7_62 hH.1 0 rfl rfl dX7_turn_14 ?_
  obtain ⟨u2, hf2, hf⟩ := xb hf
  refine x_ran (x_runV (q0 := 0) (rest := []) (As := [.long u1, .int v_size]) hC mw_837 md_X7_struckNow (c_X7_struckNow (X := X) hf2) hH [0, 1, 2] rfl (by decide) rfl rfl rfl hl.1 rfl rfl (Nat.le_of_ble_eq_true rfl) dX7_turn_17 ⟨Nat.le_of_ble_eq_true rfl, Nat.le_of_ble_eq_true rfl⟩ ⟨rfl, rfl⟩ ⟨Nat.le_refl _, Nat.le_refl _⟩) rfl (fun hz2 => ?_)
  exact x_retiw (φ := fun _ => True) (f := fun u : Int32 × Int64 => u.1) (wf := fun u : Int32 × Int64 => [(h0, xO 7 [.int v_laws, .ref h1, .ref h2, .int v_inForce, .int v_depth, .int v_miss, .long u.2, .int v_size, .int v_people, .ref g0, .int v_seed, .int v_taped, .ref g1, .int v_from, .int v_to, .int v_token, .int v_value, .ref g2, .ref g3, .ref g4, .ref g5, .int v_imaged, .ref g6, .long v_oldRing, .ref g7, .long v_aheadRing, .ref g8]), (h1, xI X 6 v_kind), (h2, xI X 6 v_own)]) hC hr hlk trivial hf hH rfl rfl dX7_turn_20
def f_X7_change (v_ring : Int64) (v_size : Int32) (v_refusals : (Nat → Int32)) (p1 : Int32) : Option (Int32 × Int64 × (Nat → Int32)) :=
  (f_X7_isStep v_size p1).bind fun u1 =>
  if u1 = (nI 0) then
    (f_X7_no v_refusals (-2 : Int32)).bind fun u5 =>
    some (u5.1, v_ring, u5.2)
  else
  (f_X7_has (v_ring ^^^ (xlshl (lN 1) p1)) p1).bind fun u3 =>
  if u3 = (nI 0) then
    some ((nI 0), v_ring ^^^ (xlshl (lN 1) p1), v_refusals)
  else
  some ((nI 1), v_ring ^^^ (xlshl (lN 1) p1), v_refusals)
set_option maxHeartbeats 4000000 in
set_option maxRecDepth 100000 in
theorem c_X7_change {l : Launch} {X : xG} {h0 h1 g0 g1 g2 g3 g4 g5 g6 g7 g8 g9 : Nat} {v_laws : Int32} {v_inForce : Int32} {v_depth : Int32} {v_miss : Int32} {v_ring : Int64} {v_size : Int32} {v_people : Int32} {v_seed : Int32} {v_taped : Int32} {v_from : Int32} {v_to : Int32} {v_token : Int32} {v_value : Int32} {v_imaged : Int32} {v_oldRing : Int64} {v_aheadRing : Int64} {v_refusals : (Nat → Int32)} {p1 : Int32} {u : Int32 × Int64 × (Nat → Int32)} (hf : f_X7_change v_ring v_size v_refusals p1 = some u) : Met l yX7_change (xw yX7_change cX7_change 2 (some .int)) (xrm 2 43) (xPc [.ref h0, .int p1] X [(h0, xO 7 [.int v_laws, .ref g0, .ref g1, .int v_inForce, .int v_depth, .int v_miss, .long v_ring, .int v_size, .int v_people, .ref g2, .int v_seed, .int v_taped, .ref g3, .int v_from, .int v_to, .int v_token, .int v_value, .ref g4, .ref g5, .ref g6, .ref h1, .int v_imaged, .ref g7, .long v_oldRing, .ref g8, .long v_aheadRing, .ref g9]), (h1, xI X 7 v_refusals)]) (xQw True (.returned (some (.int u.1))) X [(h0, xO 7 [.int v_laws, .ref g0, .ref g1, .int v_inForce, .int v_depth, .int v_miss, .long u.2.1, .int v_size, .int v_people, .ref g2, .int v_seed, .int v_taped, .ref g3, .int v_from, .int v_to, .int v_token, .int v_value, .ref g4, .ref g5, .ref g6, .ref h1, .int v_imaged, .ref g7, .long v_oldRing, .ref g8, .long v_aheadRing, .ref g9]), (h1, xI X 7 u.2.2)] (xAs [(h0, xO 7 [.int v_laws, .ref g0, .ref g1, .int v_inForce, .int v_depth, .int v_miss, .long v_ring, .int v_size, .int v_people, .ref g2, .int v_seed, .int v_taped, .ref g3, .int v_from, .int v_to, .int v_token, .int v_value, .ref g4, .ref g5, .ref g6, .ref h1, .int v_imaged, .ref g7, .long v_oldRing, .ref g8, .long v_aheadRing, .ref g9]), (h1, xI X 7 v_refusals)])) 0 0 (xAs [(h0, xO 7 [.int v_laws, .ref g0, .ref g1, .int v_inForce, .int v_depth, .int v_miss, .long v_ring, .int v_size, .int v_people, .ref g2, .int v_seed, .int v_taped, .ref g3, .int v_from, .int v_to, .int v_token, .int v_value, .ref g4, .ref g5, .ref g6, .ref h1, .int v_imaged, .ref g7, .long v_oldRing, .ref g8, .long v_aheadRing, .ref g9]), (h1, xI X 7 v_refusals)]) := by
  refine xMetw (Qc := fun A => xQw True (.returned (some (.int u.1))) X [(h0, xO 7 [.int v_laws, .ref g0, .ref g1, .int v_inForce, .int v_depth, .int v_miss, .long u.2.1, .int v_size, .int v_people, .ref g2, .int v_seed, .int v_taped, .ref g3, .int v_from, .int v_to, .int v_token, .int v_value, .ref g4, .ref g5, .ref g6, .ref h1, .int v_imaged, .ref g7, .long v_oldRing, .ref g8, .long v_aheadRing, .ref g9]), (h1, xI X 7 u.2.2)] A) (n := 1) md_X7_change.1 (Nat.le_of_ble_eq_true rfl) ?_
  intro p e s m args below meth c ls A hC hr hlk hH hl
  have hl : lv_has ls 2 [(0, .ref h0), (1, .int p1)] := hl
  have hx := hC.1
  have hb := hC.2.1
  refine lv_aload_n hx hb dX7_change_0 rfl (lv_at hl 0 rfl) ?_
  refine lv_iload_n hx hb dX7_change_1 rfl (lv_at hl 1 rfl) ?_
  obtain ⟨u1, hf1, hf⟩ := xb hf
  refine x_ran (x_runV (q0 := 0) (rest := []) (As := [.int p1]) hC mw_685 md_X7_isStep (c_X7_isStep (X := X) hf1) hH [0] rfl (by decide) rfl rfl rfl hl.1 rfl rfl (Nat.le_of_ble_eq_true rfl) dX7_change_2 ⟨Nat.le_of_ble_eq_true rfl, Nat.le_of_ble_eq_true rfl⟩ ⟨rfl, rfl⟩ ⟨Nat.le_refl _, Nat.le_refl _⟩) rfl (fun hz1 => ?_)
  refine lv_if_ne (tgt := 15) hx hb dX7_change_5 (by decide) (fun c2 => ?_) (fun c2 => ?_)
  · have hf := xe c2 hf
    refine lv_aload_n hx hb dX7_change_15 rfl (lv_at hl 0 rfl) ?_
    refine lv_dup hx hb dX7_change_16 rfl ?_
    refine x_get hC fd_RX7_90 hH.1 0 rfl rfl dX7_change_17 ?_
    refine lv_lconst (v := (lN 1)) hx hb dX7_change_20 (by decide) ?_
    refine lv_iload_n hx hb dX7_change_21 rfl (lv_at hl 1 rfl) ?_
    refine x_lshl hx hb dX7_change_22 ?_
    refine lv_lxor hx hb dX7_change_23 ?_
    refine x_put (ws' := [(h0, xO 7 [.int v_laws, .ref g0, .ref g1, .int v_inForce, .int v_depth, .int v_miss, .long (v_ring ^^^ (xlshl (lN 1) p1)), .int v_size, .int v_people, .ref g2, .int v_seed, .int v_taped, .ref g3, .int v_from, .int v_to, .int v_token, .int v_value, .ref g4, .ref g5, .ref g6, .ref h1, .int v_imaged, .ref g7, .long v_oldRing, .ref g8, .long v_aheadRing, .ref g9]), (h1, xI X 7 v_refusals)]) hC fd_RX7_90 hH 0 rfl (Nat.le_of_ble_eq_true rfl) rfl rfl dX7_change_24 rfl (fun H locs hH => ?_)
    refine lv_aload_n hx hb dX7_change_27 rfl (lv_at hl 0 rfl) ?_
    refine x_get hC fd_RX7_90 hH.1 0 rfl rfl dX7_change_28 ?_
    refine lv_iload_n hx hb dX7_change_31 rfl (lv_at hl 1 rfl) ?_
    obtain ⟨u3, hf3, hf⟩ := xb hf
    refine x_ran (x_runS (rest := []) (As := [.long (v_ring ^^^ (xlshl (lN 1) p1)), .int p1]) hC mw_336 md_X7_has (c_X7_has (X := X) hf3) hH [] rfl (by decide) hl.1 rfl rfl (Nat.le_of_ble_eq_true rfl) dX7_change_32 ⟨Nat.le_of_ble_eq_true rfl, Nat.le_of_ble_eq_true rfl⟩ ⟨rfl, rfl⟩ ⟨Nat.le_refl _, Nat.le_refl _⟩) rfl (fun hz3 => ?_)
    refine lv_if_eq (tgt := 42) hx hb dX7_change_35 (by decide) (fun c4 => ?_) (fun c4 => ?_)
    · have hf := xt c4 hf
      refine lv_iconst (v := (nI 0)) hx hb dX7_change_42 (by decide) ?_
      exact x_retiw (φ := fun _ => True) (f := fun u : Int32 × Int64 × (Nat → Int32) => u.1) (wf := fun u : Int32 × Int64 × (Nat → Int32) => [(h0, xO 7 [.int v_laws, .ref g0, .ref g1, .int v_inForce, .int v_depth, .int v_miss, .long u.2.1, .int v_size, .int v_people, .ref g2, .int v_seed, .int v_taped, .ref g3, .int v_from, .int v_to, .int v_token, .int v_value, .ref g4, .ref g5, .ref g6, .ref h1, .int v_imaged, .ref g7, .long v_oldRing, .ref g8, .long v_aheadRing, .ref g9]), (h1, xI X 7 u.2.2)]) hC hr hlk trivial hf hH rfl rfl dX7_change_43
    · have hf := xe c4 hf
      refine lv_iconst (v := (nI 1)) hx hb dX7_change_38 (by decide) ?_
      refine lv_goto (tgt := 43) hx hb dX7_change_39 (by decide) ?_
      exact x_retiw (φ := fun _ => True) (f := fun u : Int32 × Int64 × (Nat → Int32) => u.1) (wf := fun u : Int32 × Int64 × (Nat → Int32) => [(h0, xO 7 [.int v_laws, .ref g0, .ref g1, .int v_inForce, .int v_depth, .int v_miss, .long u.2.1, .int v_size, .int v_people, .ref g2, .int v_seed, .int v_taped, .ref g3, .int v_from, .int v_to, .int v_token, .int v_value, .ref g4, .ref g5, .ref g6, .ref h1, .int v_imaged, .ref g7, .long v_oldRing, .ref g8, .long v_aheadRing, .ref g9]), (h1, xI X 7 u.2.2)]) hC hr hlk trivial hf hH rfl rfl dX7_change_43
  · have hf := xt c2 hf
    refine lv_aload_n hx hb dX7_change_8 rfl (lv_at hl 0 rfl) ?_
    refine lv_bipush (v := (-2 : Int32)) hx hb dX7_change_9 (by decide) ?_
    obtain ⟨u5, hf5, hf⟩ := xb hf
    refine x_ranw (ws' := [(h0, xO 7 [.int v_laws, .ref g0, .ref g1, .int v_inForce, .int v_depth, .int v_miss, .long v_ring, .int v_size, .int v_people, .ref g2, .int v_seed, .int v_taped, .ref g3, .int v_from, .int v_to, .int v_token, .int v_value, .ref g4, .ref g5, .ref g6, .ref h1, .int v_imaged, .ref g7, .long v_oldRing, .ref g8, .long v_aheadRing, .ref g9]), (h1, xI X 7 u5.2)]) (x_runV (q0 := 0) (rest := []) (As := [.int (-2 : Int32)]) hC mw_143 md_X7_no (c_X7_no (X := X) hf5) hH [0, 1] rfl (by decide) rfl rfl rfl hl.1 rfl rfl (Nat.le_of_ble_eq_true rfl) dX7_change_11 ⟨Nat.le_of_ble_eq_true rfl, Nat.le_of_ble_eq_true rfl⟩ ⟨rfl, rfl⟩ ⟨Nat.le_refl _, Nat.le_refl _⟩) hH [0, 1] rfl rfl rfl rfl rfl (fun hz5 H locs hH => ?_)
    exact x_retiw (φ := fun _ => True) (f := fun u : Int32 × Int64 × (Nat → Int32) => u.1) (wf := fun u : Int32 × Int64 × (Nat → Int32) => [(h0, xO 7 [.int v_laws, .ref g0, .ref g1, .int v_inForce, .int v_depth, .int v_miss, .long u.2.1, .int v_size, .int v_people, .ref g2, .int v_seed, .int v_taped, .ref g3, .int v_from, .int v_to, .int v_token, .int v_value, .ref g4, .ref g5, .ref g6, .ref h1, .int v_imaged, .ref g7, .long v_oldRing, .ref g8, .long v_aheadRing, .ref g9]), (h1, xI X 7 u.2.2)]) hC hr hlk trivial hf hH rfl rfl dX7_change_14
def f_X7_cut (v_ring : Int64) (v_size : Int32) (v_refusals : (Nat → Int32)) (p1 : Int32) : Option (Int32 × Int64 × Int32 × (Nat → Int32)) :=
  (f_X7_within p1 (nI 1) (nI 40)).bind fun u1 =>
  if u1 = (nI 0) then
    (f_X7_no v_refusals (-2 : Int32)).bind fun u5 =>
    some (u5.1, v_ring, v_size, u5.2)
  else
  if p1 ≤ v_size then
    some (v_size - p1, v_ring &&& ((xlshl (lN 1) (v_size - p1)) - (lN 1)), v_size - p1, v_refusals)
  else
  (f_X7_no v_refusals (-5 : Int32)).bind fun u4 =>
  some (u4.1, v_ring, v_size, u4.2)
set_option maxHeartbeats 4000000 in
set_option maxRecDepth 100000 in
theorem c_X7_cut {l : Launch} {X : xG} {h0 h1 g0 g1 g2 g3 g4 g5 g6 g7 g8 g9 : Nat} {v_laws : Int32} {v_inForce : Int32} {v_depth : Int32} {v_miss : Int32} {v_ring : Int64} {v_size : Int32} {v_people : Int32} {v_seed : Int32} {v_taped : Int32} {v_from : Int32} {v_to : Int32} {v_token : Int32} {v_value : Int32} {v_imaged : Int32} {v_oldRing : Int64} {v_aheadRing : Int64} {v_refusals : (Nat → Int32)} {p1 : Int32} {u : Int32 × Int64 × Int32 × (Nat → Int32)} (hf : f_X7_cut v_ring v_size v_refusals p1 = some u) : Met l yX7_cut (xw yX7_cut cX7_cut 2 (some .int)) (xrm 1 22) (xPc [.ref h0, .int p1] X [(h0, xO 7 [.int v_laws, .ref g0, .ref g1, .int v_inForce, .int v_depth, .int v_miss, .long v_ring, .int v_size, .int v_people, .ref g2, .int v_seed, .int v_taped, .ref g3, .int v_from, .int v_to, .int v_token, .int v_value, .ref g4, .ref g5, .ref g6, .ref h1, .int v_imaged, .ref g7, .long v_oldRing, .ref g8, .long v_aheadRing, .ref g9]), (h1, xI X 7 v_refusals)]) (xQw True (.returned (some (.int u.1))) X [(h0, xO 7 [.int v_laws, .ref g0, .ref g1, .int v_inForce, .int v_depth, .int v_miss, .long u.2.1, .int u.2.2.1, .int v_people, .ref g2, .int v_seed, .int v_taped, .ref g3, .int v_from, .int v_to, .int v_token, .int v_value, .ref g4, .ref g5, .ref g6, .ref h1, .int v_imaged, .ref g7, .long v_oldRing, .ref g8, .long v_aheadRing, .ref g9]), (h1, xI X 7 u.2.2.2)] (xAs [(h0, xO 7 [.int v_laws, .ref g0, .ref g1, .int v_inForce, .int v_depth, .int v_miss, .long v_ring, .int v_size, .int v_people, .ref g2, .int v_seed, .int v_taped, .ref g3, .int v_from, .int v_to, .int v_token, .int v_value, .ref g4, .ref g5, .ref g6, .ref h1, .int v_imaged, .ref g7, .long v_oldRing, .ref g8, .long v_aheadRing, .ref g9]), (h1, xI X 7 v_refusals)])) 0 0 (xAs [(h0, xO 7 [.int v_laws, .ref g0, .ref g1, .int v_inForce, .int v_depth, .int v_miss, .long v_ring, .int v_size, .int v_people, .ref g2, .int v_seed, .int v_taped, .ref g3, .int v_from, .int v_to, .int v_token, .int v_value, .ref g4, .ref g5, .ref g6, .ref h1, .int v_imaged, .ref g7, .long v_oldRing, .ref g8, .long v_aheadRing, .ref g9]), (h1, xI X 7 v_refusals)]) := by
  refine xMetw (Qc := fun A => xQw True (.returned (some (.int u.1))) X [(h0, xO 7 [.int v_laws, .ref g0, .ref g1, .int v_inForce, .int v_depth, .int v_miss, .long u.2.1, .int u.2.2.1, .int v_people, .ref g2, .int v_seed, .int v_taped, .ref g3, .int v_from, .int v_to, .int v_token, .int v_value, .ref g4, .ref g5, .ref g6, .ref h1, .int v_imaged, .ref g7, .long v_oldRing, .ref g8, .long v_aheadRing, .ref g9]), (h1, xI X 7 u.2.2.2)] A) (n := 1) md_X7_cut.1 (Nat.le_of_ble_eq_true rfl) ?_
  intro p e s m args below meth c ls A hC hr hlk hH hl
  have hl : lv_has ls 2 [(0, .ref h0), (1, .int p1)] := hl
  have hx := hC.1
  have hb := hC.2.1
  refine lv_iload_n hx hb dX7_cut_0 rfl (lv_at hl 1 rfl) ?_
  refine lv_iconst (v := (nI 1)) hx hb dX7_cut_1 (by decide) ?_
  refine lv_bipush (v := (nI 40)) hx hb dX7_cut_2 (by decide) ?_
  obtain ⟨u1, hf1, hf⟩ := xb hf
  refine x_ran (x_runS (rest := []) (As := [.int p1, .int (nI 1), .int (nI 40)]) hC mw_140 md_X7_within (c_X7_within (X := X) hf1) hH [] rfl (by decide) hl.1 rfl rfl (Nat.le_of_ble_eq_true rfl) dX7_cut_4 ⟨Nat.le_of_ble_eq_true rfl, Nat.le_of_ble_eq_true rfl⟩ ⟨rfl, rfl⟩ ⟨Nat.le_refl _, Nat.le_refl _⟩) rfl (fun hz1 => ?_)
  refine lv_if_ne (tgt := 17) hx hb dX7_cut_7 (by decide) (fun c2 => ?_) (fun c2 => ?_)
  · have hf := xe c2 hf
    refine lv_aload_n hx hb dX7_cut_17 rfl (lv_at hl 0 rfl) ?_
    refine x_get hC fd_RX7_62 hH.1 0 rfl rfl dX7_cut_18 ?_
    refine lv_iload_n hx hb dX7_cut_21 rfl (lv_at hl 1 rfl) ?_
    refine lv_icmp_ge (tgt := 32) hx hb dX7_cut_22 (by decide) (fun c3 => ?_) (fun c3 => ?_)
    · have hf := xt c3 hf
      refine lv_aload_n hx hb dX7_cut_32 rfl (lv_at hl 0 rfl) ?_
      refine lv_dup hx hb dX7_cut_33 rfl ?_
      refine x_get hC fd_RX7_62 hH.1 0 rfl rfl dX7_cut_34 ?_
      refine lv_iload_n hx hb dX7_cut_37 rfl (lv_at hl 1 rfl) ?_
      refine lv_isub hx hb dX7_cut_38 ?_
      refine x_put (ws' := [(h0, xO 7 [.int v_laws, .ref g0, .ref g1, .int v_inForce, .int v_depth, .int v_miss, .long v_ring, .int (v_size - p1), .int v_people, .ref g2, .int v_seed, .int v_taped, .ref g3, .int v_from, .int v_to, .int v_token, .int v_value, .ref g4, .ref g5, .ref g6, .ref h1, .int v_imaged, .ref g7, .long v_oldRing, .ref g8, .long v_aheadRing, .ref g9]), (h1, xI X 7 v_refusals)]) hC fd_RX7_62 hH 0 rfl (Nat.le_of_ble_eq_true rfl) rfl rfl dX7_cut_39 rfl (fun H locs hH => ?_)
      refine lv_aload_n hx hb dX7_cut_42 rfl (lv_at hl 0 rfl) ?_
      refine lv_dup hx hb dX7_cut_43 rfl ?_
      refine x_get hC fd_RX7_90 hH.1 0 rfl rfl dX7_cut_44 ?_
      refine lv_lconst (v := (lN 1)) hx hb dX7_cut_47 (by decide) ?_
      refine lv_aload_n hx hb dX7_cut_48 rfl (lv_at hl 0 rfl) ?_
      refine x_get hC fd_RX7_62 hH.1 0 rfl rfl dX7_cut_49 ?_
      refine x_lshl hx hb dX7_cut_52 ?_
      refine lv_lconst (v := (lN 1)) hx hb dX7_cut_53 (by decide) ?_
      refine lv_lsub hx hb dX7_cut_54 ?_
      refine lv_land hx hb dX7_cut_55 ?_
      refine x_put (ws' := [(h0, xO 7 [.int v_laws, .ref g0, .ref g1, .int v_inForce, .int v_depth, .int v_miss, .long (v_ring &&& ((xlshl (lN 1) (v_size - p1)) - (lN 1))), .int (v_size - p1), .int v_people, .ref g2, .int v_seed, .int v_taped, .ref g3, .int v_from, .int v_to, .int v_token, .int v_value, .ref g4, .ref g5, .ref g6, .ref h1, .int v_imaged, .ref g7, .long v_oldRing, .ref g8, .long v_aheadRing, .ref g9]), (h1, xI X 7 v_refusals)]) hC fd_RX7_90 hH 0 rfl (Nat.le_of_ble_eq_true rfl) rfl rfl dX7_cut_56 rfl (fun H locs hH => ?_)
      refine lv_aload_n hx hb dX7_cut_59 rfl (lv_at hl 0 rfl) ?_
      refine x_get hC fd_RX7_62 hH.1 0 rfl rfl dX7_cut_60 ?_
      exact x_retiw (φ := fun _ => True) (f := fun u : Int32 × Int64 × Int32 × (Nat → Int32) => u.1) (wf := fun u : Int32 × Int64 × Int32 × (Nat → Int32) => [(h0, xO 7 [.int v_laws, .ref g0, .ref g1, .int v_inForce, .int v_depth, .int v_miss, .long u.2.1, .int u.2.2.1, .int v_people, .ref g2, .int v_seed, .int v_taped, .ref g3, .int v_from, .int v_to, .int v_token, .int v_value, .ref g4, .ref g5, .ref g6, .ref h1, .int v_imaged, .ref g7, .long v_oldRing, .ref g8, .long v_aheadRing, .ref g9]), (h1, xI X 7 u.2.2.2)]) hC hr hlk trivial hf hH rfl rfl dX7_cut_63
    · have hf := xe c3 hf
      refine lv_aload_n hx hb dX7_cut_25 rfl (lv_at hl 0 rfl) ?_
      refine lv_bipush (v := (-5 : Int32)) hx hb dX7_cut_26 (by decide) ?_
      obtain ⟨u4, hf4, hf⟩ := xb hf
      refine x_ranw (ws' := [(h0, xO 7 [.int v_laws, .ref g0, .ref g1, .int v_inForce, .int v_depth, .int v_miss, .long v_ring, .int v_size, .int v_people, .ref g2, .int v_seed, .int v_taped, .ref g3, .int v_from, .int v_to, .int v_token, .int v_value, .ref g4, .ref g5, .ref g6, .ref h1, .int v_imaged, .ref g7, .long v_oldRing, .ref g8, .long v_aheadRing, .ref g9]), (h1, xI X 7 u4.2)]) (x_runV (q0 := 0) (rest := []) (As := [.int (-5 : Int32)]) hC mw_143 md_X7_no (c_X7_no (X := X) hf4) hH [0, 1] rfl (by decide) rfl rfl rfl hl.1 rfl rfl (Nat.le_of_ble_eq_true rfl) dX7_cut_28 ⟨Nat.le_of_ble_eq_true rfl, Nat.le_of_ble_eq_true rfl⟩ ⟨rfl, rfl⟩ ⟨Nat.le_refl _, Nat.le_refl _⟩) hH [0, 1] rfl rfl rfl rfl rfl (fun hz4 H locs hH => ?_)
      exact x_retiw (φ := fun _ => True) (f := fun u : Int32 × Int64 × Int32 × (Nat → Int32) => u.1) (wf := fun u : Int32 × Int64 × Int32 × (Nat → Int32) => [(h0, xO 7 [.int v_laws, .ref g0, .ref g1, .int v_inForce, .int v_depth, .int v_miss, .long u.2.1, .int u.2.2.1, .int v_people, .ref g2, .int v_seed, .int v_taped, .ref g3, .int v_from, .int v_to, .int v_token, .int v_value, .ref g4, .ref g5, .ref g6, .ref h1, .int v_imaged, .ref g7, .long v_oldRing, .ref g8, .long v_aheadRing, .ref g9]), (h1, xI X 7 u.2.2.2)]) hC hr hlk trivial hf hH rfl rfl dX7_cut_31
  · have hf := xt c2 hf
    refine lv_aload_n hx hb dX7_cut_10 rfl (lv_at hl 0 rfl) ?_
    refine lv_bipush (v := (-2 : Int32)) hx hb dX7_cut_11 (by decide) ?_
    obtain ⟨u5, hf5, hf⟩ := xb hf
    refine x_ranw (ws' := [(h0, xO 7 [.int v_laws, .ref g0, .ref g1, .int v_inForce, .int v_depth, .int v_miss, .long v_ring, .int v_size, .int v_people, .ref g2, .int v_seed, .int v_taped, .ref g3, .int v_from, .int v_to, .int v_token, .int v_value, .ref g4, .ref g5, .ref g6, .ref h1, .int v_imaged, .ref g7, .long v_oldRing, .ref g8, .long v_aheadRing, .ref g9]), (h1, xI X 7 u5.2)]) (x_runV (q0 := 0) (rest := []) (As := [.int (-2 : Int32)]) hC mw_143 md_X7_no (c_X7_no (X := X) hf5) hH [0, 1] rfl (by decide) rfl rfl rfl hl.1 rfl rfl (Nat.le_of_ble_eq_true rfl) dX7_cut_13 ⟨Nat.le_of_ble_eq_true rfl, Nat.le_of_ble_eq_true rfl⟩ ⟨rfl, rfl⟩ ⟨Nat.le_refl _, Nat.le_refl _⟩) hH [0, 1] rfl rfl rfl rfl rfl (fun hz5 H locs hH => ?_)
    exact x_retiw (φ := fun _ => True) (f := fun u : Int32 × Int64 × Int32 × (Nat → Int32) => u.1) (wf := fun u : Int32 × Int64 × Int32 × (Nat → Int32) => [(h0, xO 7 [.int v_laws, .ref g0, .ref g1, .int v_inForce, .int v_depth, .int v_miss, .long u.2.1, .int u.2.2.1, .int v_people, .ref g2, .int v_seed, .int v_taped, .ref g3, .int v_from, .int v_to, .int v_token, .int v_value, .ref g4, .ref g5, .ref g6, .ref h1, .int v_imaged, .ref g7, .long v_oldRing, .ref g8, .long v_aheadRing, .ref g9]), (h1, xI X 7 u.2.2.2)]) hC hr hlk trivial hf hH rfl rfl dX7_cut_16
def f_X7_still (v_ring : Int64) (v_size : Int32) : Option (Int32 × Int64 × Int32) :=
  some (v_size, (lN 0), (nI 0))
set_option maxHeartbeats 4000000 in
set_option maxRecDepth 100000 in
theorem c_X7_still {l : Launch} {X : xG} {h0 g0 g1 g2 g3 g4 g5 g6 g7 g8 g9 g10 : Nat} {v_laws : Int32} {v_inForce : Int32} {v_depth : Int32} {v_miss : Int32} {v_ring : Int64} {v_size : Int32} {v_people : Int32} {v_seed : Int32} {v_taped : Int32} {v_from : Int32} {v_to : Int32} {v_token : Int32} {v_value : Int32} {v_imaged : Int32} {v_oldRing : Int64} {v_aheadRing : Int64} {u : Int32 × Int64 × Int32} (hf : f_X7_still v_ring v_size = some u) : Met l yX7_still (xw yX7_still cX7_still 2 (some .int)) (xrm 0 0) (xPc [.ref h0] X [(h0, xO 7 [.int v_laws, .ref g0, .ref g1, .int v_inForce, .int v_depth, .int v_miss, .long v_ring, .int v_size, .int v_people, .ref g2, .int v_seed, .int v_taped, .ref g3, .int v_from, .int v_to, .int v_token, .int v_value, .ref g4, .ref g5, .ref g6, .ref g7, .int v_imaged, .ref g8, .long v_oldRing, .ref g9, .long v_aheadRing, .ref g10])]) (xQw True (.returned (some (.int u.1))) X [(h0, xO 7 [.int v_laws, .ref g0, .ref g1, .int v_inForce, .int v_depth, .int v_miss, .long u.2.1, .int u.2.2, .int v_people, .ref g2, .int v_seed, .int v_taped, .ref g3, .int v_from, .int v_to, .int v_token, .int v_value, .ref g4, .ref g5, .ref g6, .ref g7, .int v_imaged, .ref g8, .long v_oldRing, .ref g9, .long v_aheadRing, .ref g10])] (xAs [(h0, xO 7 [.int v_laws, .ref g0, .ref g1, .int v_inForce, .int v_depth, .int v_miss, .long v_ring, .int v_size, .int v_people, .ref g2, .int v_seed, .int v_taped, .ref g3, .int v_from, .int v_to, .int v_token, .int v_value, .ref g4, .ref g5, .ref g6, .ref g7, .int v_imaged, .ref g8, .long v_oldRing, .ref g9, .long v_aheadRing, .ref g10])])) 0 0 (xAs [(h0, xO 7 [.int v_laws, .ref g0, .ref g1, .int v_inForce, .int v_depth, .int v_miss, .long v_ring, .int v_size, .int v_people, .ref g2, .int v_seed, .int v_taped, .ref g3, .int v_from, .int v_to, .int v_token, .int v_value, .ref g4, .ref g5, .ref g6, .ref g7, .int v_imaged, .ref g8, .long v_oldRing, .ref g9, .long v_aheadRing, .ref g10])]) := by
  refine xMetw (Qc := fun A => xQw True (.returned (some (.int u.1))) X [(h0, xO 7 [.int v_laws, .ref g0, .ref g1, .int v_inForce, .int v_depth, .int v_miss, .long u.2.1, .int u.2.2, .int v_people, .ref g2, .int v_seed, .int v_taped, .ref g3, .int v_from, .int v_to, .int v_token, .int v_value, .ref g4, .ref g5, .ref g6, .ref g7, .int v_imaged, .ref g8, .long v_oldRing, .ref g9, .long v_aheadRing, .ref g10])] A) (n := 0) md_X7_still.1 (Nat.le_of_ble_eq_true rfl) ?_
  intro p e s m args below meth c ls A hC hr hlk hH hl
  have hl : lv_has ls 2 [(0, .ref h0)] := hl
  have hx := hC.1
  have hb := hC.2.1
  refine lv_aload_n hx hb dX7_still_0 rfl (lv_at hl 0 rfl) ?_
  refine x_get hC fd_RX7_62 hH.1 0 rfl rfl dX7_still_1 ?_
  refine lv_istore_n (lv' := [(1, .int v_size), (0, .ref h0)]) hx hb dX7_still_4 rfl hl (by decide) rfl (fun ls hl => ?_)
  refine lv_aload_n hx hb dX7_still_5 rfl (lv_at hl 1 rfl) ?_
  refine lv_iconst (v := (nI 0)) hx hb dX7_still_6 (by decide) ?_
  refine x_put (ws' := [(h0, xO 7 [.int v_laws, .ref g0, .ref g1, .int v_inForce, .int v_depth, .int v_miss, .long v_ring, .int (nI 0), .int v_people, .ref g2, .int v_seed, .int v_taped, .ref g3, .int v_from, .int v_to, .int v_token, .int v_value, .ref g4, .ref g5, .ref g6, .ref g7, .int v_imaged, .ref g8, .long v_oldRing, .ref g9, .long v_aheadRing, .ref g10])]) hC fd_RX7_62 hH 0 rfl (Nat.le_of_ble_eq_true rfl) rfl rfl dX7_still_7 rfl (fun H locs hH => ?_)
  refine lv_aload_n hx hb dX7_still_10 rfl (lv_at hl 1 rfl) ?_
  refine lv_lconst (v := (lN 0)) hx hb dX7_still_11 (by decide) ?_
  refine x_put (ws' := [(h0, xO 7 [.int v_laws, .ref g0, .ref g1, .int v_inForce, .int v_depth, .int v_miss, .long (lN 0), .int (nI 0), .int v_people, .ref g2, .int v_seed, .int v_taped, .ref g3, .int v_from, .int v_to, .int v_token, .int v_value, .ref g4, .ref g5, .ref g6, .ref g7, .int v_imaged, .ref g8, .long v_oldRing, .ref g9, .long v_aheadRing, .ref g10])]) hC fd_RX7_90 hH 0 rfl (Nat.le_of_ble_eq_true rfl) rfl rfl dX7_still_12 rfl (fun H locs hH => ?_)
  refine lv_iload_n hx hb dX7_still_15 rfl (lv_at hl 0 rfl) ?_
  exact x_retiw (φ := fun _ => True) (f := fun u : Int32 × Int64 × Int32 => u.1) (wf := fun u : Int32 × Int64 × Int32 => [(h0, xO 7 [.int v_laws, .ref g0, .ref g1, .int v_inForce, .int v_depth, .int v_miss, .long u.2.1, .int u.2.2, .int v_people, .ref g2, .int v_seed, .int v_taped, .ref g3, .int v_from, .int v_to, .int v_token, .int v_value, .ref g4, .ref g5, .ref g6, .ref g7, .int v_imaged, .ref g8, .long v_oldRing, .ref g9, .long v_aheadRing, .ref g10])]) hC hr hlk trivial hf hH rfl rfl dX7_still_16
def f_X7_seed (v_seed : Int32) (p1 : Int32) : Option (Int32 × Int32) :=
  some (v_seed, p1)
set_option maxHeartbeats 4000000 in
set_option maxRecDepth 100000 in
theorem c_X7_seed {l : Launch} {X : xG} {h0 g0 g1 g2 g3 g4 g5 g6 g7 g8 g9 g10 : Nat} {v_laws : Int32} {v_inForce : Int32} {v_depth : Int32} {v_miss : Int32} {v_ring : Int64} {v_size : Int32} {v_people : Int32} {v_seed : Int32} {v_taped : Int32} {v_from : Int32} {v_to : Int32} {v_token : Int32} {v_value : Int32} {v_imaged : Int32} {v_oldRing : Int64} {v_aheadRing : Int64} {p1 : Int32} {u : Int32 × Int32} (hf : f_X7_seed v_seed p1 = some u) : Met l yX7_seed (xw yX7_seed cX7_seed 3 (some .int)) (xrm 0 0) (xPc [.ref h0, .int p1] X [(h0, xO 7 [.int v_laws, .ref g0, .ref g1, .int v_inForce, .int v_depth, .int v_miss, .long v_ring, .int v_size, .int v_people, .ref g2, .int v_seed, .int v_taped, .ref g3, .int v_from, .int v_to, .int v_token, .int v_value, .ref g4, .ref g5, .ref g6, .ref g7, .int v_imaged, .ref g8, .long v_oldRing, .ref g9, .long v_aheadRing, .ref g10])]) (xQw True (.returned (some (.int u.1))) X [(h0, xO 7 [.int v_laws, .ref g0, .ref g1, .int v_inForce, .int v_depth, .int v_miss, .long v_ring, .int v_size, .int v_people, .ref g2, .int u.2, .int v_taped, .ref g3, .int v_from, .int v_to, .int v_token, .int v_value, .ref g4, .ref g5, .ref g6, .ref g7, .int v_imaged, .ref g8, .long v_oldRing, .ref g9, .long v_aheadRing, .ref g10])] (xAs [(h0, xO 7 [.int v_laws, .ref g0, .ref g1, .int v_inForce, .int v_depth, .int v_miss, .long v_ring, .int v_size, .int v_people, .ref g2, .int v_seed, .int v_taped, .ref g3, .int v_from, .int v_to, .int v_token, .int v_value, .ref g4, .ref g5, .ref g6, .ref g7, .int v_imaged, .ref g8, .long v_oldRing, .ref g9, .long v_aheadRing, .ref g10])])) 0 0 (xAs [(h0, xO 7 [.int v_laws, .ref g0, .ref g1, .int v_inForce, .int v_depth, .int v_miss, .long v_ring, .int v_size, .int v_people, .ref g2, .int v_seed, .int v_taped, .ref g3, .int v_from, .int v_to, .int v_token, .int v_value, .ref g4, .ref g5, .ref g6, .ref g7, .int v_imaged, .ref g8, .long v_oldRing, .ref g9, .long v_aheadRing, .ref g10])]) := by
  refine xMetw (Qc := fun A => xQw True (.returned (some (.int u.1))) X [(h0, xO 7 [.int v_laws, .ref g0, .ref g1, .int v_inForce, .int v_depth, .int v_miss, .long v_ring, .int v_size, .int v_people, .ref g2, .int u.2, .int v_taped, .ref g3, .int v_from, .int v_to, .int v_token, .int v_value, .ref g4, .ref g5, .ref g6, .ref g7, .int v_imaged, .ref g8, .long v_oldRing, .ref g9, .long v_aheadRing, .ref g10])] A) (n := 1) md_X7_seed.1 (Nat.le_of_ble_eq_true rfl) ?_
  intro p e s m args below meth c ls A hC hr hlk hH hl
  have hl : lv_has ls 3 [(0, .ref h0), (1, .int p1)] := hl
  have hx := hC.1
  have hb := hC.2.1
  refine lv_aload_n hx hb dX7_seed_0 rfl (lv_at hl 0 rfl) ?_
  refine x_get hC fd_RX7_49 hH.1 0 rfl rfl dX7_seed_1 ?_
  refine lv_istore_n (lv' := [(2, .int v_seed), (0, .ref h0), (1, .int p1)]) hx hb dX7_seed_4 rfl hl (by decide) rfl (fun ls hl => ?_)
  refine lv_aload_n hx hb dX7_seed_5 rfl (lv_at hl 1 rfl) ?_
  refine lv_iload_n hx hb dX7_seed_6 rfl (lv_at hl 2 rfl) ?_
  refine x_put (ws' := [(h0, xO 7 [.int v_laws, .ref g0, .ref g1, .int v_inForce, .int v_depth, .int v_miss, .long v_ring, .int v_size, .int v_people, .ref g2, .int p1, .int v_taped, .ref g3, .int v_from, .int v_to, .int v_token, .int v_value, .ref g4, .ref g5, .ref g6, .ref g7, .int v_imaged, .ref g8, .long v_oldRing, .ref g9, .long v_aheadRing, .ref g10])]) hC fd_RX7_49 hH 0 rfl (Nat.le_of_ble_eq_true rfl) rfl rfl dX7_seed_7 rfl (fun H locs hH => ?_)
  refine lv_iload_n hx hb dX7_seed_10 rfl (lv_at hl 0 rfl) ?_
  exact x_retiw (φ := fun _ => True) (f := fun u : Int32 × Int32 => u.1) (wf := fun u : Int32 × Int32 => [(h0, xO 7 [.int v_laws, .ref g0, .ref g1, .int v_inForce, .int v_depth, .int v_miss, .long v_ring, .int v_size, .int v_people, .ref g2, .int u.2, .int v_taped, .ref g3, .int v_from, .int v_to, .int v_token, .int v_value, .ref g4, .ref g5, .ref g6, .ref g7, .int v_imaged, .ref g8, .long v_oldRing, .ref g9, .long v_aheadRing, .ref g10])]) hC hr hlk trivial hf hH rfl rfl dX7_seed_11
def f_X7_image (v_laws : Int32) (v_inForce : Int32) (v_depth : Int32) (v_miss : Int32) (v_ring : Int64) (v_size : Int32) (v_people : Int32) (v_seed : Int32) (v_imaged : Int32) (v_oldRing : Int64) (v_ages : (Nat → Int32)) (v_kind : (Nat → Int32)) (v_old : (Nat → Int32)) (v_own : (Nat → Int32)) : Option (Int32 × Int32 × Int64 × (Nat → Int32)) :=
  (f_X7_keep v_laws v_inForce v_depth v_miss v_size v_people v_seed v_ages v_kind v_own v_old).bind fun u1 =>
  some ((nI 1), (nI 1), v_ring, u1)
set_option maxHeartbeats 4000000 in
set_option maxRecDepth 100000 in
theorem c_X7_image {l : Launch} {X : xG} {h0 h1 h2 h3 h4 g0 g1 g2 g3 g4 g5 g6 : Nat} {v_laws : Int32} {v_inForce : Int32} {v_depth : Int32} {v_miss : Int32} {v_ring : Int64} {v_size : Int32} {v_people : Int32} {v_seed : Int32} {v_taped : Int32} {v_from : Int32} {v_to : Int32} {v_token : Int32} {v_value : Int32} {v_imaged : Int32} {v_oldRing : Int64} {v_aheadRing : Int64} {v_ages : (Nat → Int32)} {v_kind : (Nat → Int32)} {v_old : (Nat → Int32)} {v_own : (Nat → Int32)} {u : Int32 × Int32 × Int64 × (Nat → Int32)} (hf : f_X7_image v_laws v_inForce v_depth v_miss v_ring v_size v_people v_seed v_imaged v_oldRing v_ages v_kind v_old v_own = some u) : Met l yX7_image (xw yX7_image cX7_image 1 (some .int)) (xrm 1 22) (xPc [.ref h0] X [(h0, xO 7 [.int v_laws, .ref h2, .ref h4, .int v_inForce, .int v_depth, .int v_miss, .long v_ring, .int v_size, .int v_people, .ref h1, .int v_seed, .int v_taped, .ref g0, .int v_from, .int v_to, .int v_token, .int v_value, .ref g1, .ref g2, .ref g3, .ref g4, .int v_imaged, .ref h3, .long v_oldRing, .ref g5, .long v_aheadRing, .ref g6]), (h1, xI X 10 v_ages), (h2, xI X 6 v_kind), (h3, xI X 29 v_old), (h4, xI X 6 v_own)]) (xQw True (.returned (some (.int u.1))) X [(h0, xO 7 [.int v_laws, .ref h2, .ref h4, .int v_inForce, .int v_depth, .int v_miss, .long v_ring, .int v_size, .int v_people, .ref h1, .int v_seed, .int v_taped, .ref g0, .int v_from, .int v_to, .int v_token, .int v_value, .ref g1, .ref g2, .ref g3, .ref g4, .int u.2.1, .ref h3, .long u.2.2.1, .ref g5, .long v_aheadRing, .ref g6]), (h1, xI X 10 v_ages), (h2, xI X 6 v_kind), (h3, xI X 29 u.2.2.2), (h4, xI X 6 v_own)] (xAs [(h0, xO 7 [.int v_laws, .ref h2, .ref h4, .int v_inForce, .int v_depth, .int v_miss, .long v_ring, .int v_size, .int v_people, .ref h1, .int v_seed, .int v_taped, .ref g0, .int v_from, .int v_to, .int v_token, .int v_value, .ref g1, .ref g2, .ref g3, .ref g4, .int v_imaged, .ref h3, .long v_oldRing, .ref g5, .long v_aheadRing, .ref g6]), (h1, xI X 10 v_ages), (h2, xI X 6 v_kind), (h3, xI X 29 v_old), (h4, xI X 6 v_own)])) 0 0 (xAs [(h0, xO 7 [.int v_laws, .ref h2, .ref h4, .int v_inForce, .int v_depth, .int v_miss, .long v_ring, .int v_size, .int v_people, .ref h1, .int v_seed, .int v_taped, .ref g0, .int v_from, .int v_to, .int v_token, .int v_value, .ref g1, .ref g2, .ref g3, .ref g4, .int v_imaged, .ref h3, .long v_oldRing, .ref g5, .long v_aheadRing, .ref g6]), (h1, xI X 10 v_ages), (h2, xI X 6 v_kind), (h3, xI X 29 v_old), (h4, xI X 6 v_own)]) := by
  refine xMetw (Qc := fun A => xQw True (.returned (some (.int u.1))) X [(h0, xO 7 [.int v_laws, .ref h2, .ref h4, .int v_inForce, .int v_depth, .int v_miss, .long v_ring, .int v_size, .int v_people, .ref h1, .int v_seed, .int v_taped, .ref g0, .int v_from, .int v_to, .int v_token, .int v_value, .ref g1, .ref g2, .ref g3, .ref g4, .int u.2.1, .ref h3, .long u.2.2.1, .ref g5, .long v_aheadRing, .ref g6]), (h1, xI X 10 v_ages), (h2, xI X 6 v_kind), (h3, xI X 29 u.2.2.2), (h4, xI X 6 v_own)] A) (n := 0) md_X7_image.1 (Nat.le_of_ble_eq_true rfl) ?_
  intro p e s m args below meth c ls A hC hr hlk hH hl
  have hl : lv_has ls 1 [(0, .ref h0)] := hl
  have hx := hC.1
  have hb := hC.2.1
  refine lv_aload_n hx hb dX7_image_0 rfl (lv_at hl 0 rfl) ?_
  refine lv_iconst (v := (nI 1)) hx hb dX7_image_1 (by decide) ?_
  refine x_put (ws' := [(h0, xO 7 [.int v_laws, .ref h2, .ref h4, .int v_inForce, .int v_depth, .int v_miss, .long v_ring, .int v_size, .int v_people, .ref h1, .int v_seed, .int v_taped, .ref g0, .int v_from, .int v_to, .int v_token, .int v_value, .ref g1, .ref g2, .ref g3, .ref g4, .int (nI 1), .ref h3, .long v_oldRing, .ref g5, .long v_aheadRing, .ref g6]), (h1, xI X 10 v_ages), (h2, xI X 6 v_kind), (h3, xI X 29 v_old), (h4, xI X 6 v_own)]) hC fd_RX7_315 hH 0 rfl (Nat.le_of_ble_eq_true rfl) (by decide) rfl dX7_image_2 rfl (fun H locs hH => ?_)
  refine lv_aload_n hx hb dX7_image_5 rfl (lv_at hl 0 rfl) ?_
  refine lv_aload_n hx hb dX7_image_6 rfl (lv_at hl 0 rfl) ?_
  refine x_get hC fd_RX7_35 hH.1 0 rfl rfl dX7_image_7 ?_
  obtain ⟨u1, hf1, hf⟩ := xb hf
  refine x_ranw (ws' := [(h0, xO 7 [.int v_laws, .ref h2, .ref h4, .int v_inForce, .int v_depth, .int v_miss, .long v_ring, .int v_size, .int v_people, .ref h1, .int v_seed, .int v_taped, .ref g0, .int v_from, .int v_to, .int v_token, .int v_value, .ref g1, .ref g2, .ref g3, .ref g4, .int (nI 1), .ref h3, .long v_oldRing, .ref g5, .long v_aheadRing, .ref g6]), (h1, xI X 10 v_ages), (h2, xI X 6 v_kind), (h3, xI X 29 u1), (h4, xI X 6 v_own)]) (x_runV (q0 := 0) (rest := []) (As := [.ref h3]) hC mw_603 md_X7_keep (c_X7_keep (X := X) hf1) hH [0, 1, 2, 4, 3] rfl (by decide) rfl rfl rfl hl.1 rfl rfl (Nat.le_of_ble_eq_true rfl) dX7_image_10 ⟨Nat.le_of_ble_eq_true rfl, Nat.le_of_ble_eq_true rfl⟩ ⟨rfl, rfl⟩ ⟨Nat.le_refl _, Nat.le_refl _⟩) hH [0, 1, 2, 4, 3] rfl rfl rfl rfl rfl (fun hz1 H locs hH => ?_)
  refine lv_aload_n hx hb dX7_image_13 rfl (lv_at hl 0 rfl) ?_
  refine lv_aload_n hx hb dX7_image_14 rfl (lv_at hl 0 rfl) ?_
  refine x_get hC fd_RX7_90 hH.1 0 rfl rfl dX7_image_15 ?_
  refine x_put (ws' := [(h0, xO 7 [.int v_laws, .ref h2, .ref h4, .int v_inForce, .int v_depth, .int v_miss, .long v_ring, .int v_size, .int v_people, .ref h1, .int v_seed, .int v_taped, .ref g0, .int v_from, .int v_to, .int v_token, .int v_value, .ref g1, .ref g2, .ref g3, .ref g4, .int (nI 1), .ref h3, .long v_ring, .ref g5, .long v_aheadRing, .ref g6]), (h1, xI X 10 v_ages), (h2, xI X 6 v_kind), (h3, xI X 29 u1), (h4, xI X 6 v_own)]) hC fd_RX7_319 hH 0 rfl (Nat.le_of_ble_eq_true rfl) rfl rfl dX7_image_18 rfl (fun H locs hH => ?_)
  refine lv_iconst (v := (nI 1)) hx hb dX7_image_21 (by decide) ?_
  exact x_retiw (φ := fun _ => True) (f := fun u : Int32 × Int32 × Int64 × (Nat → Int32) => u.1) (wf := fun u : Int32 × Int32 × Int64 × (Nat → Int32) => [(h0, xO 7 [.int v_laws, .ref h2, .ref h4, .int v_inForce, .int v_depth, .int v_miss, .long v_ring, .int v_size, .int v_people, .ref h1, .int v_seed, .int v_taped, .ref g0, .int v_from, .int v_to, .int v_token, .int v_value, .ref g1, .ref g2, .ref g3, .ref g4, .int u.2.1, .ref h3, .long u.2.2.1, .ref g5, .long v_aheadRing, .ref g6]), (h1, xI X 10 v_ages), (h2, xI X 6 v_kind), (h3, xI X 29 u.2.2.2), (h4, xI X 6 v_own)]) hC hr hlk trivial hf hH rfl rfl dX7_image_22
def f_X7_back_L32 (v_refusals : (Nat → Int32)) (x32_v_laws : Int32) (x32_v_inForce : Int32) (x32_v_depth : Int32) (x32_v_miss : Int32) (x32_v_ring : Int64) (x32_v_size : Int32) (x32_v_people : Int32) (x32_v_seed : Int32) (x32_v_ages : (Nat → Int32)) (x32_v_kind : (Nat → Int32)) (x32_v_own : (Nat → Int32)) (s32 : Int32 × (Nat → Int32)) : Option ((Int32 × Int32 × Int32 × Int32 × Int32 × Int64 × Int32 × Int32 × Int32 × (Nat → Int32) × (Nat → Int32) × (Nat → Int32) × (Nat → Int32) × (Nat → Int32)) ⊕ (Int32 × (Nat → Int32))) :=
  if (nI 8) ≤ s32.1 then
    some (.inl ((nI 1), x32_v_laws, x32_v_inForce, x32_v_depth, x32_v_miss, x32_v_ring, x32_v_size, x32_v_people, x32_v_seed, x32_v_ages, s32.2, x32_v_kind, x32_v_own, v_refusals))
  else
  if xout s32.1 8 then none else
  if (s32.2 (xat s32.1)) < ((nI 10) + x32_v_laws) then
    some (.inr (s32.1 + (nI 1), s32.2))
  else
  if xout s32.1 8 then none else
  some (.inr (s32.1 + (nI 1), upd s32.2 (xat s32.1) (-1 : Int32)))
def f_X7_back (v_laws : Int32) (v_inForce : Int32) (v_depth : Int32) (v_miss : Int32) (v_ring : Int64) (v_size : Int32) (v_people : Int32) (v_seed : Int32) (v_imaged : Int32) (v_oldRing : Int64) (v_ages : (Nat → Int32)) (v_holding : (Nat → Int32)) (v_kind : (Nat → Int32)) (v_old : (Nat → Int32)) (v_own : (Nat → Int32)) (v_refusals : (Nat → Int32)) : Option (Int32 × Int32 × Int32 × Int32 × Int32 × Int64 × Int32 × Int32 × Int32 × (Nat → Int32) × (Nat → Int32) × (Nat → Int32) × (Nat → Int32) × (Nat → Int32)) :=
  if v_imaged = (nI 0) then
    (f_X7_no v_refusals (-5 : Int32)).bind fun u7 =>
    some (u7.1, v_laws, v_inForce, v_depth, v_miss, v_ring, v_size, v_people, v_seed, v_ages, v_holding, v_kind, v_own, u7.2)
  else
  (f_X7_again v_laws v_inForce v_depth v_miss v_size v_people v_seed v_ages v_kind v_own v_old).bind fun u2 =>
  xloop (f_X7_back_L32 v_refusals u2.1 u2.2.1 u2.2.2.1 u2.2.2.2.1 v_oldRing u2.2.2.2.2.1 u2.2.2.2.2.2.1 u2.2.2.2.2.2.2.1 u2.2.2.2.2.2.2.2.1 u2.2.2.2.2.2.2.2.2.1 u2.2.2.2.2.2.2.2.2.2) xN ((nI 0), v_holding)
set_option maxHeartbeats 4000000 in
set_option maxRecDepth 100000 in
theorem c_X7_back {l : Launch} {X : xG} {h0 h1 h2 h3 h4 h5 h6 g0 g1 g2 g3 g4 : Nat} {v_laws : Int32} {v_inForce : Int32} {v_depth : Int32} {v_miss : Int32} {v_ring : Int64} {v_size : Int32} {v_people : Int32} {v_seed : Int32} {v_taped : Int32} {v_from : Int32} {v_to : Int32} {v_token : Int32} {v_value : Int32} {v_imaged : Int32} {v_oldRing : Int64} {v_aheadRing : Int64} {v_ages : (Nat → Int32)} {v_holding : (Nat → Int32)} {v_kind : (Nat → Int32)} {v_old : (Nat → Int32)} {v_own : (Nat → Int32)} {v_refusals : (Nat → Int32)} {u : Int32 × Int32 × Int32 × Int32 × Int32 × Int64 × Int32 × Int32 × Int32 × (Nat → Int32) × (Nat → Int32) × (Nat → Int32) × (Nat → Int32) × (Nat → Int32)} (hf : f_X7_back v_laws v_inForce v_depth v_miss v_ring v_size v_people v_seed v_imaged v_oldRing v_ages v_holding v_kind v_old v_own v_refusals = some u) : Met l yX7_back (xw yX7_back cX7_back 2 (some .int)) (xrm 1 22) (xPc [.ref h0] X [(h0, xO 7 [.int v_laws, .ref h3, .ref h5, .int v_inForce, .int v_depth, .int v_miss, .long v_ring, .int v_size, .int v_people, .ref h1, .int v_seed, .int v_taped, .ref g0, .int v_from, .int v_to, .int v_token, .int v_value, .ref h2, .ref g1, .ref g2, .ref h6, .int v_imaged, .ref h4, .long v_oldRing, .ref g3, .long v_aheadRing, .ref g4]), (h1, xI X 10 v_ages), (h2, xI X 8 v_holding), (h3, xI X 6 v_kind), (h4, xI X 29 v_old), (h5, xI X 6 v_own), (h6, xI X 7 v_refusals)]) (xQw True (.returned (some (.int u.1))) X [(h0, xO 7 [.int u.2.1, .ref h3, .ref h5, .int u.2.2.1, .int u.2.2.2.1, .int u.2.2.2.2.1, .long u.2.2.2.2.2.1, .int u.2.2.2.2.2.2.1, .int u.2.2.2.2.2.2.2.1, .ref h1, .int u.2.2.2.2.2.2.2.2.1, .int v_taped, .ref g0, .int v_from, .int v_to, .int v_token, .int v_value, .ref h2, .ref g1, .ref g2, .ref h6, .int v_imaged, .ref h4, .long v_oldRing, .ref g3, .long v_aheadRing, .ref g4]), (h1, xI X 10 u.2.2.2.2.2.2.2.2.2.1), (h2, xI X 8 u.2.2.2.2.2.2.2.2.2.2.1), (h3, xI X 6 u.2.2.2.2.2.2.2.2.2.2.2.1), (h4, xI X 29 v_old), (h5, xI X 6 u.2.2.2.2.2.2.2.2.2.2.2.2.1), (h6, xI X 7 u.2.2.2.2.2.2.2.2.2.2.2.2.2)] (xAs [(h0, xO 7 [.int v_laws, .ref h3, .ref h5, .int v_inForce, .int v_depth, .int v_miss, .long v_ring, .int v_size, .int v_people, .ref h1, .int v_seed, .int v_taped, .ref g0, .int v_from, .int v_to, .int v_token, .int v_value, .ref h2, .ref g1, .ref g2, .ref h6, .int v_imaged, .ref h4, .long v_oldRing, .ref g3, .long v_aheadRing, .ref g4]), (h1, xI X 10 v_ages), (h2, xI X 8 v_holding), (h3, xI X 6 v_kind), (h4, xI X 29 v_old), (h5, xI X 6 v_own), (h6, xI X 7 v_refusals)])) 0 0 (xAs [(h0, xO 7 [.int v_laws, .ref h3, .ref h5, .int v_inForce, .int v_depth, .int v_miss, .long v_ring, .int v_size, .int v_people, .ref h1, .int v_seed, .int v_taped, .ref g0, .int v_from, .int v_to, .int v_token, .int v_value, .ref h2, .ref g1, .ref g2, .ref h6, .int v_imaged, .ref h4, .long v_oldRing, .ref g3, .long v_aheadRing, .ref g4]), (h1, xI X 10 v_ages), (h2, xI X 8 v_holding), (h3, xI X 6 v_kind), (h4, xI X 29 v_old), (h5, xI X 6 v_own), (h6, xI X 7 v_refusals)]) := by
  refine xMetw (Qc := fun A => xQw True (.returned (some (.int u.1))) X [(h0, xO 7 [.int u.2.1, .ref h3, .ref h5, .int u.2.2.1, .int u.2.2.2.1, .int u.2.2.2.2.1, .long u.2.2.2.2.2.1, .int u.2.2.2.2.2.2.1, .int u.2.2.2.2.2.2.2.1, .ref h1, .int u.2.2.2.2.2.2.2.2.1, .int v_taped, .ref g0, .int v_from, .int v_to, .int v_token, .int v_value, .ref h2, .ref g1, .ref g2, .ref h6, .int v_imaged, .ref h4, .long v_oldRing, .ref g3, .long v_aheadRing, .ref g4]), (h1, xI X 10 u.2.2.2.2.2.2.2.2.2.1), (h2, xI X 8 u.2.2.2.2.2.2.2.2.2.2.1), (h3, xI X 6 u.2.2.2.2.2.2.2.2.2.2.2.1), (h4, xI X 29 v_old), (h5, xI X 6 u.2.2.2.2.2.2.2.2.2.2.2.2.1), (h6, xI X 7 u.2.2.2.2.2.2.2.2.2.2.2.2.2)] A) (n := 0) md_X7_back.1 (Nat.le_of_ble_eq_true rfl) ?_
  intro p e s m args below meth c ls A hC hr hlk hH hl
  have hl : lv_has ls 2 [(0, .ref h0)] := hl
  have hx := hC.1
  have hb := hC.2.1
  have L32 : ∀ (x32_v_laws : Int32) (x32_v_inForce : Int32) (x32_v_depth : Int32) (x32_v_miss : Int32) (x32_v_ring : Int64) (x32_v_size : Int32) (x32_v_people : Int32) (x32_v_seed : Int32) (x32_v_ages : (Nat → Int32)) (x32_v_kind : (Nat → Int32)) (x32_v_own : (Nat → Int32)) (n : Nat) (s32 : Int32 × (Nat → Int32)), xloop (f_X7_back_L32 v_refusals x32_v_laws x32_v_inForce x32_v_depth x32_v_miss x32_v_ring x32_v_size x32_v_people x32_v_seed x32_v_ages x32_v_kind x32_v_own) n s32 = some u → ∀ (H : Heap) (locs : List Loc), xH X A [(h0, xO 7 [.int x32_v_laws, .ref h3, .ref h5, .int x32_v_inForce, .int x32_v_depth, .int x32_v_miss, .long x32_v_ring, .int x32_v_size, .int x32_v_people, .ref h1, .int x32_v_seed, .int v_taped, .ref g0, .int v_from, .int v_to, .int v_token, .int v_value, .ref h2, .ref g1, .ref g2, .ref h6, .int v_imaged, .ref h4, .long v_oldRing, .ref g3, .long v_aheadRing, .ref g4]), (h1, xI X 10 x32_v_ages), (h2, xI X 8 s32.2), (h3, xI X 6 x32_v_kind), (h4, xI X 29 v_old), (h5, xI X 6 x32_v_own), (h6, xI X 7 v_refusals)] s.heap H locs → ∀ (ls : Array Slot), lv_has ls 2 [(0, .ref h0), (1, .int s32.1)] → W p l e (xrm 1 22) s m args below meth c H locs 0 0 (MQ below (xQw True (.returned (some (.int u.1))) X [(h0, xO 7 [.int u.2.1, .ref h3, .ref h5, .int u.2.2.1, .int u.2.2.2.1, .int u.2.2.2.2.1, .long u.2.2.2.2.2.1, .int u.2.2.2.2.2.2.1, .int u.2.2.2.2.2.2.2.1, .ref h1, .int u.2.2.2.2.2.2.2.2.1, .int v_taped, .ref g0, .int v_from, .int v_to, .int v_token, .int v_value, .ref h2, .ref g1, .ref g2, .ref h6, .int v_imaged, .ref h4, .long v_oldRing, .ref g3, .long v_aheadRing, .ref g4]), (h1, xI X 10 u.2.2.2.2.2.2.2.2.2.1), (h2, xI X 8 u.2.2.2.2.2.2.2.2.2.2.1), (h3, xI X 6 u.2.2.2.2.2.2.2.2.2.2.2.1), (h4, xI X 29 v_old), (h5, xI X 6 u.2.2.2.2.2.2.2.2.2.2.2.2.1), (h6, xI X 7 u.2.2.2.2.2.2.2.2.2.2.2.2.2)] A) args s 0 0 A) (F0 m 32 ls []) := by
    intro x32_v_laws x32_v_inForce x32_v_depth x32_v_miss x32_v_ring x32_v_size x32_v_people x32_v_seed x32_v_ages x32_v_kind x32_v_own n
    induction n with
    | zero => intro s32 hf; exact xloop_0 hf
    | succ n ih32 =>
      intro s32 hf H locs hH ls hl
      obtain ⟨o32, hf, ho32⟩ := xloop_s hf
      refine lv_iload_n hx hb dX7_back_32 rfl (lv_at hl 1 rfl) ?_
      refine lv_bipush (v := (nI 8)) hx hb dX7_back_33 (by decide) ?_
      refine lv_icmp_ge (tgt := 67) hx hb dX7_back_35 (by decide) (fun c3 => ?_) (fun c3 => ?_)
      · have hf := xt c3 hf
        refine lv_iconst (v := (nI 1)) hx hb dX7_back_67 (by decide) ?_
        have hf := xo_ret hf ho32
        exact x_retiw (φ := fun _ => True) (f := fun u : Int32 × Int32 × Int32 × Int32 × Int32 × Int64 × Int32 × Int32 × Int32 × (Nat → Int32) × (Nat → Int32) × (Nat → Int32) × (Nat → Int32) × (Nat → Int32) => u.1) (wf := fun u : Int32 × Int32 × Int32 × Int32 × Int32 × Int64 × Int32 × Int32 × Int32 × (Nat → Int32) × (Nat → Int32) × (Nat → Int32) × (Nat → Int32) × (Nat → Int32) => [(h0, xO 7 [.int u.2.1, .ref h3, .ref h5, .int u.2.2.1, .int u.2.2.2.1, .int u.2.2.2.2.1, .long u.2.2.2.2.2.1, .int u.2.2.2.2.2.2.1, .int u.2.2.2.2.2.2.2.1, .ref h1, .int u.2.2.2.2.2.2.2.2.1, .int v_taped, .ref g0, .int v_from, .int v_to, .int v_token, .int v_value, .ref h2, .ref g1, .ref g2, .ref h6, .int v_imaged, .ref h4, .long v_oldRing, .ref g3, .long v_aheadRing, .ref g4]), (h1, xI X 10 u.2.2.2.2.2.2.2.2.2.1), (h2, xI X 8 u.2.2.2.2.2.2.2.2.2.2.1), (h3, xI X 6 u.2.2.2.2.2.2.2.2.2.2.2.1), (h4, xI X 29 v_old), (h5, xI X 6 u.2.2.2.2.2.2.2.2.2.2.2.2.1), (h6, xI X 7 u.2.2.2.2.2.2.2.2.2.2.2.2.2)]) hC hr hlk trivial hf hH rfl rfl dX7_back_68
      · have hf := xe c3 hf
        refine lv_aload_n hx hb dX7_back_38 rfl (lv_at hl 0 rfl) ?_
        refine x_get hC fd_RX7_22 hH.1 0 rfl rfl dX7_back_39 ?_
        refine lv_iload_n hx hb dX7_back_42 rfl (lv_at hl 1 rfl) ?_
        obtain ⟨n4, hf⟩ := xok hf
        refine x_iald hC hH.1 2 rfl n4 dX7_back_43 ?_
        refine lv_bipush (v := (nI 10)) hx hb dX7_back_44 (by decide) ?_
        refine lv_aload_n hx hb dX7_back_46 rfl (lv_at hl 0 rfl) ?_
        refine x_get hC fd_RX7_52 hH.1 0 rfl rfl dX7_back_47 ?_
        refine lv_iadd hx hb dX7_back_50 ?_
        refine lv_icmp_lt (tgt := 61) hx hb dX7_back_51 (by decide) (fun c5 => ?_) (fun c5 => ?_)
        · have hf := xt c5 hf
          refine lv_iinc (v := s32.1 + (nI 1)) (lv' := [(1, .int (s32.1 + (nI 1))), (0, .ref h0)]) hx hb dX7_back_61 hl (k := 1) rfl rfl (by decide) rfl (fun ls hl => ?_)
          refine lv_goto (tgt := 32) hx hb dX7_back_64 (by decide) ?_
          have hf := xo_go hf ho32
          exact ih32 (s32.1 + (nI 1), s32.2) hf _ _ hH ls (lv_sub hl [1, 0] rfl)
        · have hf := xe c5 hf
          refine lv_aload_n hx hb dX7_back_54 rfl (lv_at hl 0 rfl) ?_
          refine x_get hC fd_RX7_22 hH.1 0 rfl rfl dX7_back_55 ?_
          refine lv_iload_n hx hb dX7_back_58 rfl (lv_at hl 1 rfl) ?_
          refine lv_iconst (v := (-1 : Int32)) hx hb dX7_back_59 (by decide) ?_
          obtain ⟨n6, hf⟩ := xok hf
          refine x_iast (ws' := [(h0, xO 7 [.int x32_v_laws, .ref h3, .ref h5, .int x32_v_inForce, .int x32_v_depth, .int x32_v_miss, .long x32_v_ring, .int x32_v_size, .int x32_v_people, .ref h1, .int x32_v_seed, .int v_taped, .ref g0, .int v_from, .int v_to, .int v_token, .int v_value, .ref h2, .ref g1, .ref g2, .ref h6, .int v_imaged, .ref h4, .long v_oldRing, .ref g3, .long v_aheadRing, .ref g4]), (h1, xI X 10 x32_v_ages), (h2, xI X 8 (upd s32.2 (xat s32.1) (-1 : Int32))), (h3, xI X 6 x32_v_kind), (h4, xI X 29 v_old), (h5, xI X 6 x32_v_own), (h6, xI X 7 v_refusals)]) hC hH 2 rfl n6 dX7_back_60 rfl (fun H locs hH => ?_)
          refine lv_iinc (v := s32.1 + (nI 1)) (lv' := [(1, .int (s32.1 + (nI 1))), (0, .ref h0)]) hx hb dX7_back_61 hl (k := 1) rfl rfl (by decide) rfl (fun ls hl => ?_)
          refine lv_goto (tgt := 32) hx hb dX7_back_64 (by decide) ?_
          have hf := xo_go hf ho32
          exact ih32 (s32.1 + (nI 1), upd s32.2 (xat s32.1) (-1 : Int32)) hf _ _ hH ls (lv_sub hl [1, 0] rfl)
  refine lv_aload_n hx hb dX7_back_0 rfl (lv_at hl 0 rfl) ?_
  refine x_get hC fd_RX7_315 hH.1 0 rfl rfl dX7_back_1 ?_
  refine lv_if_ne (tgt := 14) hx hb dX7_back_4 (by decide) (fun c1 => ?_) (fun c1 => ?_)
  · have hf := xe c1 hf
    refine lv_aload_n hx hb dX7_back_14 rfl (lv_at hl 0 rfl) ?_
    refine lv_aload_n hx hb dX7_back_15 rfl (lv_at hl 0 rfl) ?_
    refine x_get hC fd_RX7_35 hH.1 0 rfl rfl dX7_back_16 ?_
    obtain ⟨u2, hf2, hf⟩ := xb hf
    refine x_ranw (ws' := [(h0, xO 7 [.int u2.1, .ref h3, .ref h5, .int u2.2.1, .int u2.2.2.1, .int u2.2.2.2.1, .long v_ring, .int u2.2.2.2.2.1, .int u2.2.2.2.2.2.1, .ref h1, .int u2.2.2.2.2.2.2.1, .int v_taped, .ref g0, .int v_from, .int v_to, .int v_token, .int v_value, .ref h2, .ref g1, .ref g2, .ref h6, .int v_imaged, .ref h4, .long v_oldRing, .ref g3, .long v_aheadRing, .ref g4]), (h1, xI X 10 u2.2.2.2.2.2.2.2.1), (h2, xI X 8 v_holding), (h3, xI X 6 u2.2.2.2.2.2.2.2.2.1), (h4, xI X 29 v_old), (h5, xI X 6 u2.2.2.2.2.2.2.2.2.2), (h6, xI X 7 v_refusals)]) (x_runV (q0 := 0) (rest := []) (As := [.ref h4]) hC mw_640 md_X7_again (c_X7_again (X := X) hf2) hH [0, 1, 3, 5, 4] rfl (by decide) rfl rfl rfl hl.1 rfl rfl (Nat.le_of_ble_eq_true rfl) dX7_back_19 ⟨Nat.le_of_ble_eq_true rfl, Nat.le_of_ble_eq_true rfl⟩ ⟨rfl, rfl⟩ ⟨Nat.le_refl _, Nat.le_refl _⟩) hH [0, 1, 3, 5, 4] rfl rfl rfl rfl rfl (fun hz2 H locs hH => ?_)
    refine lv_aload_n hx hb dX7_back_22 rfl (lv_at hl 0 rfl) ?_
    refine lv_aload_n hx hb dX7_back_23 rfl (lv_at hl 0 rfl) ?_
    refine x_get hC fd_RX7_319 hH.1 0 rfl rfl dX7_back_24 ?_
    refine x_put (ws' := [(h0, xO 7 [.int u2.1, .ref h3, .ref h5, .int u2.2.1, .int u2.2.2.1, .int u2.2.2.2.1, .long v_oldRing, .int u2.2.2.2.2.1, .int u2.2.2.2.2.2.1, .ref h1, .int u2.2.2.2.2.2.2.1, .int v_taped, .ref g0, .int v_from, .int v_to, .int v_token, .int v_value, .ref h2, .ref g1, .ref g2, .ref h6, .int v_imaged, .ref h4, .long v_oldRing, .ref g3, .long v_aheadRing, .ref g4]), (h1, xI X 10 u2.2.2.2.2.2.2.2.1), (h2, xI X 8 v_holding), (h3, xI X 6 u2.2.2.2.2.2.2.2.2.1), (h4, xI X 29 v_old), (h5, xI X 6 u2.2.2.2.2.2.2.2.2.2), (h6, xI X 7 v_refusals)]) hC fd_RX7_90 hH 0 rfl (Nat.le_of_ble_eq_true rfl) rfl rfl dX7_back_27 rfl (fun H locs hH => ?_)
    refine lv_iconst (v := (nI 0)) hx hb dX7_back_30 (by decide) ?_
    refine lv_istore_n (lv' := [(1, .int (nI 0)), (0, .ref h0)]) hx hb dX7_back_31 rfl hl (by decide) rfl (fun ls hl => ?_)
    exact L32 u2.1 u2.2.1 u2.2.2.1 u2.2.2.2.1 v_oldRing u2.2.2.2.2.1 u2.2.2.2.2.2.1 u2.2.2.2.2.2.2.1 u2.2.2.2.2.2.2.2.1 u2.2.2.2.2.2.2.2.2.1 u2.2.2.2.2.2.2.2.2.2 xN ((nI 0), v_holding) hf _ _ hH ls (lv_sub hl [1, 0] rfl)
  · have hf := xt c1 hf
    refine lv_aload_n hx hb dX7_back_7 rfl (lv_at hl 0 rfl) ?_
    refine lv_bipush (v := (-5 : Int32)) hx hb dX7_back_8 (by decide) ?_
    obtain ⟨u7, hf7, hf⟩ := xb hf
    refine x_ranw (ws' := [(h0, xO 7 [.int v_laws, .ref h3, .ref h5, .int v_inForce, .int v_depth, .int v_miss, .long v_ring, .int v_size, .int v_people, .ref h1, .int v_seed, .int v_taped, .ref g0, .int v_from, .int v_to, .int v_token, .int v_value, .ref h2, .ref g1, .ref g2, .ref h6, .int v_imaged, .ref h4, .long v_oldRing, .ref g3, .long v_aheadRing, .ref g4]), (h1, xI X 10 v_ages), (h2, xI X 8 v_holding), (h3, xI X 6 v_kind), (h4, xI X 29 v_old), (h5, xI X 6 v_own), (h6, xI X 7 u7.2)]) (x_runV (q0 := 0) (rest := []) (As := [.int (-5 : Int32)]) hC mw_143 md_X7_no (c_X7_no (X := X) hf7) hH [0, 6] rfl (by decide) rfl rfl rfl hl.1 rfl rfl (Nat.le_of_ble_eq_true rfl) dX7_back_10 ⟨Nat.le_of_ble_eq_true rfl, Nat.le_of_ble_eq_true rfl⟩ ⟨rfl, rfl⟩ ⟨Nat.le_refl _, Nat.le_refl _⟩) hH [0, 6] rfl rfl rfl rfl rfl (fun hz7 H locs hH => ?_)
    exact x_retiw (φ := fun _ => True) (f := fun u : Int32 × Int32 × Int32 × Int32 × Int32 × Int64 × Int32 × Int32 × Int32 × (Nat → Int32) × (Nat → Int32) × (Nat → Int32) × (Nat → Int32) × (Nat → Int32) => u.1) (wf := fun u : Int32 × Int32 × Int32 × Int32 × Int32 × Int64 × Int32 × Int32 × Int32 × (Nat → Int32) × (Nat → Int32) × (Nat → Int32) × (Nat → Int32) × (Nat → Int32) => [(h0, xO 7 [.int u.2.1, .ref h3, .ref h5, .int u.2.2.1, .int u.2.2.2.1, .int u.2.2.2.2.1, .long u.2.2.2.2.2.1, .int u.2.2.2.2.2.2.1, .int u.2.2.2.2.2.2.2.1, .ref h1, .int u.2.2.2.2.2.2.2.2.1, .int v_taped, .ref g0, .int v_from, .int v_to, .int v_token, .int v_value, .ref h2, .ref g1, .ref g2, .ref h6, .int v_imaged, .ref h4, .long v_oldRing, .ref g3, .long v_aheadRing, .ref g4]), (h1, xI X 10 u.2.2.2.2.2.2.2.2.2.1), (h2, xI X 8 u.2.2.2.2.2.2.2.2.2.2.1), (h3, xI X 6 u.2.2.2.2.2.2.2.2.2.2.2.1), (h4, xI X 29 v_old), (h5, xI X 6 u.2.2.2.2.2.2.2.2.2.2.2.2.1), (h6, xI X 7 u.2.2.2.2.2.2.2.2.2.2.2.2.2)]) hC hr hlk trivial hf hH rfl rfl dX7_back_13
def f_X7_status_L123 (v_holding : (Nat → Int32)) (s123 : Int32 × Int32) : Option ((Int32) ⊕ (Int32 × Int32)) :=
  if (nI 8) ≤ s123.2 then
    some (.inl s123.1)
  else
  if xout s123.2 8 then none else
  if (v_holding (xat s123.2)) = (-1 : Int32) then
    some (.inr (s123.1, s123.2 + (nI 1)))
  else
  some (.inr (s123.1 + (nI 1), s123.2 + (nI 1)))
def f_X7_status (v_laws : Int32) (v_inForce : Int32) (v_depth : Int32) (v_miss : Int32) (v_ring : Int64) (v_size : Int32) (v_people : Int32) (v_seed : Int32) (v_taped : Int32) (v_ages : (Nat → Int32)) (v_holding : (Nat → Int32)) (v_refusals : (Nat → Int32)) (p1 : Int32) : Option (Int32) :=
  if p1 = (nI 0) then
    some v_laws
  else
  if p1 = (nI 1) then
    some v_inForce
  else
  if p1 = (nI 2) then
    some v_depth
  else
  if p1 = (nI 3) then
    some v_miss
  else
  if p1 = (nI 4) then
    some v_size
  else
  if p1 = (nI 5) then
    (f_J13_bitCount_95d88 v_ring).bind fun u7 =>
    some u7
  else
  if p1 = (nI 6) then
    some v_people
  else
  if p1 = (nI 7) then
    (f_X7_ageOf v_people v_ages ((xshl (nI 1) v_people) - (nI 1))).bind fun u10 =>
    some u10
  else
  if p1 = (nI 8) then
    some v_taped
  else
  if p1 = (nI 9) then
    some v_seed
  else
  if p1 = (nI 10) then
    xloop (f_X7_status_L123 v_holding) xN ((nI 0), (nI 0))
  else
  (f_X7_within p1 (nI 12) (nI 16)).bind fun u17 =>
  if u17 = (nI 0) then
    some (-1 : Int32)
  else
  if xout (p1 - (nI 10)) 7 then none else
  some (v_refusals (xat (p1 - (nI 10))))
set_option maxHeartbeats 4000000 in
set_option maxRecDepth 100000 in
theorem c_X7_status {l : Launch} {X : xG} {h0 h1 h2 h3 g0 g1 g2 g3 g4 g5 g6 g7 : Nat} {v_laws : Int32} {v_inForce : Int32} {v_depth : Int32} {v_miss : Int32} {v_ring : Int64} {v_size : Int32} {v_people : Int32} {v_seed : Int32} {v_taped : Int32} {v_from : Int32} {v_to : Int32} {v_token : Int32} {v_value : Int32} {v_imaged : Int32} {v_oldRing : Int64} {v_aheadRing : Int64} {v_ages : (Nat → Int32)} {v_holding : (Nat → Int32)} {v_refusals : (Nat → Int32)} {p1 : Int32} {u : Int32} (hf : f_X7_status v_laws v_inForce v_depth v_miss v_ring v_size v_people v_seed v_taped v_ages v_holding v_refusals p1 = some u) : Met l yX7_status (xw yX7_status cX7_status 4 (some .int)) (xrm 2 45) (xPc [.ref h0, .int p1] X [(h0, xO 7 [.int v_laws, .ref g0, .ref g1, .int v_inForce, .int v_depth, .int v_miss, .long v_ring, .int v_size, .int v_people, .ref h1, .int v_seed, .int v_taped, .ref g2, .int v_from, .int v_to, .int v_token, .int v_value, .ref h2, .ref g3, .ref g4, .ref h3, .int v_imaged, .ref g5, .long v_oldRing, .ref g6, .long v_aheadRing, .ref g7]), (h1, xI X 10 v_ages), (h2, xI X 8 v_holding), (h3, xI X 7 v_refusals)]) (xQ True (.returned (some (.int u)))) 0 0 xNo := by
  refine xMet (n := 1) md_X7_status.1 (Nat.le_of_ble_eq_true rfl) ?_
  intro p e s m args below meth c ls A hC hr hlk hH hl
  have hl : lv_has ls 4 [(0, .ref h0), (1, .int p1)] := hl
  have hx := hC.1
  have hb := hC.2.1
  have L123 : ∀ (n : Nat) (s123 : Int32 × Int32), xloop (f_X7_status_L123 v_holding) n s123 = some u → ∀ (ls : Array Slot), lv_has ls 4 [(0, .ref h0), (2, .int s123.1), (3, .int s123.2)] → W p l e (xrm 2 45) s m args below meth c s.heap [] 0 0 (MQ below (xQ True (.returned (some (.int u)))) args s 0 0 xNo) (F0 m 123 ls []) := by
    intro  n
    induction n with
    | zero => intro s123 hf; exact xloop_0 hf
    | succ n ih123 =>
      intro s123 hf ls hl
      obtain ⟨o123, hf, ho123⟩ := xloop_s hf
      refine lv_iload_n hx hb dX7_status_123 rfl (lv_at hl 2 rfl) ?_
      refine lv_bipush (v := (nI 8)) hx hb dX7_status_124 (by decide) ?_
      refine lv_icmp_ge (tgt := 148) hx hb dX7_status_126 (by decide) (fun c14 => ?_) (fun c14 => ?_)
      · have hf := xt c14 hf
        refine lv_iload_n hx hb dX7_status_148 rfl (lv_at hl 1 rfl) ?_
        have hf := xo_ret hf ho123
        exact x_reti hC hr hlk trivial hf dX7_status_149
      · have hf := xe c14 hf
        refine lv_aload_n hx hb dX7_status_129 rfl (lv_at hl 0 rfl) ?_
        refine x_get hC fd_RX7_22 hH.1 0 rfl rfl dX7_status_130 ?_
        refine lv_iload_n hx hb dX7_status_133 rfl (lv_at hl 2 rfl) ?_
        obtain ⟨n15, hf⟩ := xok hf
        refine x_iald hC hH.1 2 rfl n15 dX7_status_134 ?_
        refine lv_iconst (v := (-1 : Int32)) hx hb dX7_status_135 (by decide) ?_
        refine lv_icmp_eq (tgt := 142) hx hb dX7_status_136 (by decide) (fun c16 => ?_) (fun c16 => ?_)
        · have hf := xt c16 hf
          refine lv_iinc (v := s123.2 + (nI 1)) (lv' := [(3, .int (s123.2 + (nI 1))), (0, .ref h0), (2, .int s123.1)]) hx hb dX7_status_142 hl (k := 2) rfl rfl (by decide) rfl (fun ls hl => ?_)
          refine lv_goto (tgt := 123) hx hb dX7_status_145 (by decide) ?_
          have hf := xo_go hf ho123
          exact ih123 (s123.1, s123.2 + (nI 1)) hf ls (lv_sub hl [1, 2, 0] rfl)
        · have hf := xe c16 hf
          refine lv_iinc (v := s123.1 + (nI 1)) (lv' := [(2, .int (s123.1 + (nI 1))), (0, .ref h0), (3, .int s123.2)]) hx hb dX7_status_139 hl (k := 1) rfl rfl (by decide) rfl (fun ls hl => ?_)
          refine lv_iinc (v := s123.2 + (nI 1)) (lv' := [(3, .int (s123.2 + (nI 1))), (2, .int (s123.1 + (nI 1))), (0, .ref h0)]) hx hb dX7_status_142 hl (k := 2) rfl rfl (by decide) rfl (fun ls hl => ?_)
          refine lv_goto (tgt := 123) hx hb dX7_status_145 (by decide) ?_
          have hf := xo_go hf ho123
          exact ih123 (s123.1 + (nI 1), s123.2 + (nI 1)) hf ls (lv_sub hl [2, 1, 0] rfl)
  refine lv_iconst (v := (nI 0)) hx hb dX7_status_0 (by decide) ?_
  refine lv_istore_n (lv' := [(2, .int (nI 0)), (0, .ref h0), (1, .int p1)]) hx hb dX7_status_1 rfl hl (by decide) rfl (fun ls hl => ?_)
  refine lv_iload_n hx hb dX7_status_2 rfl (lv_at hl 2 rfl) ?_
  by_cases c1 : p1 = (nI 0)
  · have hf := xt c1 hf
    refine x_tin (k := (nI 0)) (tgt := 60) hx hb dX7_status_3 c1 (by decide) (by decide) ?_
    refine lv_aload_n hx hb dX7_status_60 rfl (lv_at hl 1 rfl) ?_
    refine x_get hC fd_RX7_52 hH.1 0 rfl rfl dX7_status_61 ?_
    exact x_reti hC hr hlk trivial hf dX7_status_64
  · have hf := xe c1 hf
    by_cases c2 : p1 = (nI 1)
    · have hf := xt c2 hf
      refine x_tin (k := (nI 1)) (tgt := 65) hx hb dX7_status_3 c2 (by decide) (by decide) ?_
      refine lv_aload_n hx hb dX7_status_65 rfl (lv_at hl 1 rfl) ?_
      refine x_get hC fd_RX7_102 hH.1 0 rfl rfl dX7_status_66 ?_
      exact x_reti hC hr hlk trivial hf dX7_status_69
    · have hf := xe c2 hf
      by_cases c3 : p1 = (nI 2)
      · have hf := xt c3 hf
        refine x_tin (k := (nI 2)) (tgt := 70) hx hb dX7_status_3 c3 (by decide) (by decide) ?_
        refine lv_aload_n hx hb dX7_status_70 rfl (lv_at hl 1 rfl) ?_
        refine x_get hC fd_RX7_45 hH.1 0 rfl rfl dX7_status_71 ?_
        exact x_reti hC hr hlk trivial hf dX7_status_74
      · have hf := xe c3 hf
        by_cases c4 : p1 = (nI 3)
        · have hf := xt c4 hf
          refine x_tin (k := (nI 3)) (tgt := 75) hx hb dX7_status_3 c4 (by decide) (by decide) ?_
          refine lv_aload_n hx hb dX7_status_75 rfl (lv_at hl 1 rfl) ?_
          refine x_get hC fd_RX7_105 hH.1 0 rfl rfl dX7_status_76 ?_
          exact x_reti hC hr hlk trivial hf dX7_status_79
        · have hf := xe c4 hf
          by_cases c5 : p1 = (nI 4)
          · have hf := xt c5 hf
            refine x_tin (k := (nI 4)) (tgt := 80) hx hb dX7_status_3 c5 (by decide) (by decide) ?_
            refine lv_aload_n hx hb dX7_status_80 rfl (lv_at hl 1 rfl) ?_
            refine x_get hC fd_RX7_62 hH.1 0 rfl rfl dX7_status_81 ?_
            exact x_reti hC hr hlk trivial hf dX7_status_84
          · have hf := xe c5 hf
            by_cases c6 : p1 = (nI 5)
            · have hf := xt c6 hf
              refine x_tin (k := (nI 5)) (tgt := 85) hx hb dX7_status_3 c6 (by decide) (by decide) ?_
              refine lv_aload_n hx hb dX7_status_85 rfl (lv_at hl 1 rfl) ?_
              refine x_get hC fd_RX7_90 hH.1 0 rfl rfl dX7_status_86 ?_
              obtain ⟨u7, hf7, hf⟩ := xb hf
              refine x_ran (x_runS (rest := []) (As := [.long v_ring]) hC mw_342 md_J13_bitCount_95d88 (c_J13_bitCount_95d88 (X := X) hf7) hH [] rfl (by decide) hl.1 rfl rfl (Nat.le_of_ble_eq_true rfl) dX7_status_89 ⟨Nat.le_of_ble_eq_true rfl, Nat.le_of_ble_eq_true rfl⟩ ⟨rfl, rfl⟩ ⟨Nat.le_refl _, Nat.le_refl _⟩) rfl (fun hz7 => ?_)
              exact x_reti hC hr hlk trivial hf dX7_status_92
            · have hf := xe c6 hf
              by_cases c8 : p1 = (nI 6)
              · have hf := xt c8 hf
                refine x_tin (k := (nI 6)) (tgt := 93) hx hb dX7_status_3 c8 (by decide) (by decide) ?_
                refine lv_aload_n hx hb dX7_status_93 rfl (lv_at hl 1 rfl) ?_
                refine x_get hC fd_RX7_59 hH.1 0 rfl rfl dX7_status_94 ?_
                exact x_reti hC hr hlk trivial hf dX7_status_97
              · have hf := xe c8 hf
                by_cases c9 : p1 = (nI 7)
                · have hf := xt c9 hf
                  refine x_tin (k := (nI 7)) (tgt := 98) hx hb dX7_status_3 c9 (by decide) (by decide) ?_
                  refine lv_aload_n hx hb dX7_status_98 rfl (lv_at hl 1 rfl) ?_
                  refine lv_iconst (v := (nI 1)) hx hb dX7_status_99 (by decide) ?_
                  refine lv_aload_n hx hb dX7_status_100 rfl (lv_at hl 1 rfl) ?_
                  refine x_get hC fd_RX7_59 hH.1 0 rfl rfl dX7_status_101 ?_
                  refine x_ishl hx hb dX7_status_104 ?_
                  refine lv_iconst (v := (nI 1)) hx hb dX7_status_105 (by decide) ?_
                  refine lv_isub hx hb dX7_status_106 ?_
                  obtain ⟨u10, hf10, hf⟩ := xb hf
                  refine x_ran (x_runV (q0 := 0) (rest := []) (As := [.int ((xshl (nI 1) v_people) - (nI 1))]) hC mw_1145 md_X7_ageOf (c_X7_ageOf (X := X) hf10) hH [0, 1] rfl (by decide) rfl rfl rfl hl.1 rfl rfl (Nat.le_of_ble_eq_true rfl) dX7_status_107 ⟨Nat.le_of_ble_eq_true rfl, Nat.le_of_ble_eq_true rfl⟩ ⟨rfl, rfl⟩ ⟨Nat.le_refl _, Nat.le_refl _⟩) rfl (fun hz10 => ?_)
                  exact x_reti hC hr hlk trivial hf dX7_status_110
                · have hf := xe c9 hf
                  by_cases c11 : p1 = (nI 8)
                  · have hf := xt c11 hf
                    refine x_tin (k := (nI 8)) (tgt := 111) hx hb dX7_status_3 c11 (by decide) (by decide) ?_
                    refine lv_aload_n hx hb dX7_status_111 rfl (lv_at hl 1 rfl) ?_
                    refine x_get hC fd_RX7_111 hH.1 0 rfl rfl dX7_status_112 ?_
                    exact x_reti hC hr hlk trivial hf dX7_status_115
                  · have hf := xe c11 hf
                    by_cases c12 : p1 = (nI 9)
                    · have hf := xt c12 hf
                      refine x_tin (k := (nI 9)) (tgt := 116) hx hb dX7_status_3 c12 (by decide) (by decide) ?_
                      refine lv_aload_n hx hb dX7_status_116 rfl (lv_at hl 1 rfl) ?_
                      refine x_get hC fd_RX7_49 hH.1 0 rfl rfl dX7_status_117 ?_
                      exact x_reti hC hr hlk trivial hf dX7_status_120
                    · have hf := xe c12 hf
                      by_cases c13 : p1 = (nI 10)
                      · have hf := xt c13 hf
                        refine x_tin (k := (nI 10)) (tgt := 121) hx hb dX7_status_3 c13 (by decide) (by decide) ?_
                        refine lv_iconst (v := (nI 0)) hx hb dX7_status_121 (by decide) ?_
                        refine lv_istore_n (lv' := [(3, .int (nI 0)), (2, .int (nI 0)), (0, .ref h0), (1, .int p1)]) hx hb dX7_status_122 rfl hl (by decide) rfl (fun ls hl => ?_)
                        exact L123 xN ((nI 0), (nI 0)) hf ls (lv_sub hl [2, 1, 0] rfl)
                      · have hf := xe c13 hf
                        refine x_tout (tgt := 150) hx hb dX7_status_3 (fun j hj => match j, hj with | 0, _ => c1 | 1, _ => c2 | 2, _ => c3 | 3, _ => c4 | 4, _ => c5 | 5, _ => c6 | 6, _ => c8 | 7, _ => c9 | 8, _ => c11 | 9, _ => c12 | 10, _ => c13 | _ + 11, hj => absurd hj (by simp <;> omega)) (by decide) ?_
                        refine lv_iload_n hx hb dX7_status_150 rfl (lv_at hl 2 rfl) ?_
                        refine lv_bipush (v := (nI 12)) hx hb dX7_status_151 (by decide) ?_
                        refine lv_bipush (v := (nI 16)) hx hb dX7_status_153 (by decide) ?_
                        obtain ⟨u17, hf17, hf⟩ := xb hf
                        refine x_ran (x_runS (rest := []) (As := [.int p1, .int (nI 12), .int (nI 16)]) hC mw_140 md_X7_within (c_X7_within (X := X) hf17) hH [] rfl (by decide) hl.1 rfl rfl (Nat.le_of_ble_eq_true rfl) dX7_status_155 ⟨Nat.le_of_ble_eq_true rfl, Nat.le_of_ble_eq_true rfl⟩ ⟨rfl, rfl⟩ ⟨Nat.le_refl _, Nat.le_refl _⟩) rfl (fun hz17 => ?_)
                        refine lv_if_eq (tgt := 173) hx hb dX7_status_158 (by decide) (fun c18 => ?_) (fun c18 => ?_)
                        · have hf := xt c18 hf
                          refine lv_iconst (v := (-1 : Int32)) hx hb dX7_status_173 (by decide) ?_
                          exact x_reti hC hr hlk trivial hf dX7_status_174
                        · have hf := xe c18 hf
                          refine lv_aload_n hx hb dX7_status_161 rfl (lv_at hl 1 rfl) ?_
                          refine x_get hC fd_RX7_32 hH.1 0 rfl rfl dX7_status_162 ?_
                          refine lv_iload_n hx hb dX7_status_165 rfl (lv_at hl 2 rfl) ?_
                          refine lv_bipush (v := (nI 10)) hx hb dX7_status_166 (by decide) ?_
                          refine lv_isub hx hb dX7_status_168 ?_
                          obtain ⟨n19, hf⟩ := xok hf
                          refine x_iald hC hH.1 3 rfl n19 dX7_status_169 ?_
                          refine lv_goto (tgt := 174) hx hb dX7_status_170 (by decide) ?_
                          exact x_reti hC hr hlk trivial hf dX7_status_174
