def f_X6_differs (v_now_inForce : Int32) (v_now_depth : Int32) (v_now_ring : Int64) (v_now_steps : Int32) (v_now_laws_count : Int32) (v_now_laws_kinds : (Nat → Int32)) (v_now_laws_tunes : (Nat → Int32)) (v_refusals : (Nat → Int32)) (v_shelves_elements : (Nat → Int64)) (v_shelves_held : (Nat → Int32)) (v_shelves_sizes : (Nat → Int32)) (p1 : Int32) : Option (Int32 × (Nat → Int32)) :=
  (f_X6_refusalOfHeardRow v_now_steps v_shelves_held v_shelves_sizes p1).bind fun u1 =>
  if u1 = (nI 0) then
    (f_X4_elementsAsBits v_shelves_elements v_shelves_sizes p1 v_now_steps).bind fun u3 =>
    (f_X0_sounds v_now_inForce v_now_depth v_now_laws_count v_now_laws_kinds v_now_laws_tunes v_now_ring v_now_steps (nI 0)).bind fun u4 =>
    (f_J13_bitCount_95d88 (u4 ^^^ u3)).bind fun u5 =>
    some (u5, v_refusals)
  else
  (f_X6_refuse v_refusals u1).bind fun u6 =>
  some (u6.1, u6.2)
set_option maxHeartbeats 4000000 in
set_option maxRecDepth 100000 in
theorem c_X6_differs {l : Launch} {X : xG} {h0 h1 h2 h3 h4 h5 h6 h7 h8 h9 g0 g1 g2 : Nat} {v_isKept : Int32} {v_now_inForce : Int32} {v_now_depth : Int32} {v_now_miss : Int32} {v_now_ring : Int64} {v_now_steps : Int32} {v_now_seed : Int32} {v_now_laws_count : Int32} {v_now_laws_kinds : (Nat → Int32)} {v_now_laws_tunes : (Nat → Int32)} {v_refusals : (Nat → Int32)} {v_shelves_elements : (Nat → Int64)} {v_shelves_held : (Nat → Int32)} {v_shelves_sizes : (Nat → Int32)} {p1 : Int32} {u : Int32 × (Nat → Int32)} (hf : f_X6_differs v_now_inForce v_now_depth v_now_ring v_now_steps v_now_laws_count v_now_laws_kinds v_now_laws_tunes v_refusals v_shelves_elements v_shelves_held v_shelves_sizes p1 = some u) : Met l yX6_differs (xw yX6_differs cX6_differs 5 (some .int)) (xrm 5 128) (xPc [.ref h0, .int p1] X [(h0, xO 6 [.ref h1, .ref g0, .ref g1, .ref h6, .ref h5, .int v_isKept]), (h1, xO 0 [.ref h2, .ref g2, .int v_now_inForce, .int v_now_depth, .int v_now_miss, .long v_now_ring, .int v_now_steps, .int v_now_seed]), (h2, xO 2 [.ref h3, .ref h4, .int v_now_laws_count]), (h3, xI X 6 v_now_laws_kinds), (h4, xI X 6 v_now_laws_tunes), (h5, xI X 5 v_refusals), (h6, xO 4 [.ref h8, .ref h9, .ref h7]), (h7, xJ X 320 v_shelves_elements), (h8, xI X 8 v_shelves_held), (h9, xI X 8 v_shelves_sizes)]) (xQw True (.returned (some (.int u.1))) X [(h0, xO 6 [.ref h1, .ref g0, .ref g1, .ref h6, .ref h5, .int v_isKept]), (h1, xO 0 [.ref h2, .ref g2, .int v_now_inForce, .int v_now_depth, .int v_now_miss, .long v_now_ring, .int v_now_steps, .int v_now_seed]), (h2, xO 2 [.ref h3, .ref h4, .int v_now_laws_count]), (h3, xI X 6 v_now_laws_kinds), (h4, xI X 6 v_now_laws_tunes), (h5, xI X 5 u.2), (h6, xO 4 [.ref h8, .ref h9, .ref h7]), (h7, xJ X 320 v_shelves_elements), (h8, xI X 8 v_shelves_held), (h9, xI X 8 v_shelves_sizes)] (xAs [(h0, xO 6 [.ref h1, .ref g0, .ref g1, .ref h6, .ref h5, .int v_isKept]), (h1, xO 0 [.ref h2, .ref g2, .int v_now_inForce, .int v_now_depth, .int v_now_miss, .long v_now_ring, .int v_now_steps, .int v_now_seed]), (h2, xO 2 [.ref h3, .ref h4, .int v_now_laws_count]), (h3, xI X 6 v_now_laws_kinds), (h4, xI X 6 v_now_laws_tunes), (h5, xI X 5 v_refusals), (h6, xO 4 [.ref h8, .ref h9, .ref h7]), (h7, xJ X 320 v_shelves_elements), (h8, xI X 8 v_shelves_held), (h9, xI X 8 v_shelves_sizes)])) 0 0 (xAs [(h0, xO 6 [.ref h1, .ref g0, .ref g1, .ref h6, .ref h5, .int v_isKept]), (h1, xO 0 [.ref h2, .ref g2, .int v_now_inForce, .int v_now_depth, .int v_now_miss, .long v_now_ring, .int v_now_steps, .int v_now_seed]), (h2, xO 2 [.ref h3, .ref h4, .int v_now_laws_count]), (h3, xI X 6 v_now_laws_kinds), (h4, xI X 6 v_now_laws_tunes), (h5, xI X 5 v_refusals), (h6, xO 4 [.ref h8, .ref h9, .ref h7]), (h7, xJ X 320 v_shelves_elements), (h8, xI X 8 v_shelves_held), (h9, xI X 8 v_shelves_sizes)]) := by
  refine xMetw (Qc := fun A => xQw True (.returned (some (.int u.1))) X [(h0, xO 6 [.ref h1, .ref g0, .ref g1, .ref h6, .ref h5, .int v_isKept]), (h1, xO 0 [.ref h2, .ref g2, .int v_now_inForce, .int v_now_depth, .int v_now_miss, .long v_now_ring, .int v_now_steps, .int v_now_seed]), (h2, xO 2 [.ref h3, .ref h4, .int v_now_laws_count]), (h3, xI X 6 v_now_laws_kinds), (h4, xI X 6 v_now_laws_tunes), (h5, xI X 5 u.2), (h6, xO 4 [.ref h8, .ref h9, .ref h7]), (h7, xJ X 320 v_shelves_elements), (h8, xI X 8 v_shelves_held), (h9, xI X 8 v_shelves_sizes)] A) (n := 1) md_X6_differs.1 (Nat.le_of_ble_eq_true rfl) ?_
  intro p e s m args below meth c ls A hC hr hlk hH hl
  have hl : lv_has ls 5 [(0, .ref h0), (1, .int p1)] := hl
  have hx := hC.1
  have hb := hC.2.1
  refine lv_aload_n hx hb dX6_differs_0 rfl (lv_at hl 0 rfl) ?_
  refine lv_iload_n hx hb dX6_differs_1 rfl (lv_at hl 1 rfl) ?_
  obtain ⟨u1, hf1, hf⟩ := xb hf
  refine x_ran (x_runV (q0 := 0) (rest := []) (As := [.int p1]) hC mw_976 md_X6_refusalOfHeardRow (c_X6_refusalOfHeardRow (X := X) hf1) hH [0, 1, 6, 8, 9] rfl (by decide) rfl rfl rfl hl.1 rfl rfl (Nat.le_of_ble_eq_true rfl) dX6_differs_2 ⟨Nat.le_of_ble_eq_true rfl, Nat.le_of_ble_eq_true rfl⟩ ⟨rfl, rfl⟩ ⟨Nat.le_refl _, Nat.le_refl _⟩) rfl (fun hz1 => ?_)
  refine lv_istore_n (lv' := [(2, .int u1), (0, .ref h0), (1, .int p1)]) hx hb dX6_differs_5 rfl hl (by decide) rfl (fun ls hl => ?_)
  refine lv_iload_n hx hb dX6_differs_6 rfl (lv_at hl 0 rfl) ?_
  refine lv_if_eq (tgt := 16) hx hb dX6_differs_7 (by decide) (fun c2 => ?_) (fun c2 => ?_)
  · have hf := xt c2 hf
    refine lv_aload_n hx hb dX6_differs_16 rfl (lv_at hl 1 rfl) ?_
    refine x_get hC fd_RX6_29 hH.1 0 rfl rfl dX6_differs_17 ?_
    refine lv_iload_n hx hb dX6_differs_20 rfl (lv_at hl 2 rfl) ?_
    refine lv_aload_n hx hb dX6_differs_21 rfl (lv_at hl 1 rfl) ?_
    refine x_get hC fd_RX6_10 hH.1 0 rfl rfl dX6_differs_22 ?_
    refine x_getN hC fd_RX6_200 hH.1 1 rfl rfl dX6_differs_25 ?_
    obtain ⟨u3, hf3, hf⟩ := xb hf
    refine x_ran (x_runV (q0 := 0) (rest := []) (As := [.int p1, .int v_now_steps]) hC mw_980 md_X4_elementsAsBits (c_X4_elementsAsBits (X := X) hf3) hH [6, 7, 9] rfl (by decide) rfl rfl rfl hl.1 rfl rfl (Nat.le_of_ble_eq_true rfl) dX6_differs_28 ⟨Nat.le_of_ble_eq_true rfl, Nat.le_of_ble_eq_true rfl⟩ ⟨rfl, rfl⟩ ⟨Nat.le_refl _, Nat.le_refl _⟩) rfl (fun hz3 => ?_)
    refine lv_lstore_n (lv' := [(3, .long u3), (2, .int u1), (0, .ref h0), (1, .int p1)]) hx hb dX6_differs_31 rfl hl (by decide) rfl (fun ls hl => ?_)
    refine lv_aload_n hx hb dX6_differs_32 rfl (lv_at hl 2 rfl) ?_
    refine x_get hC fd_RX6_10 hH.1 0 rfl rfl dX6_differs_33 ?_
    refine lv_aload_n hx hb dX6_differs_36 rfl (lv_at hl 2 rfl) ?_
    refine x_get hC fd_RX6_10 hH.1 0 rfl rfl dX6_differs_37 ?_
    refine x_getN hC fd_RX6_120 hH.1 1 rfl rfl dX6_differs_40 ?_
    refine lv_aload_n hx hb dX6_differs_43 rfl (lv_at hl 2 rfl) ?_
    refine x_get hC fd_RX6_10 hH.1 0 rfl rfl dX6_differs_44 ?_
    refine x_getN hC fd_RX6_200 hH.1 1 rfl rfl dX6_differs_47 ?_
    refine lv_iconst (v := (nI 0)) hx hb dX6_differs_50 (by decide) ?_
    obtain ⟨u4, hf4, hf⟩ := xb hf
    refine x_ran (x_runV (q0 := 0) (rest := []) (As := [.long v_now_ring, .int v_now_steps, .int (nI 0)]) hC mw_719 md_X0_sounds (c_X0_sounds (X := X) hf4) hH [1, 2, 3, 4] rfl (by decide) rfl rfl rfl hl.1 rfl rfl (Nat.le_of_ble_eq_true rfl) dX6_differs_51 ⟨Nat.le_of_ble_eq_true rfl, Nat.le_of_ble_eq_true rfl⟩ ⟨rfl, rfl⟩ ⟨Nat.le_refl _, Nat.le_refl _⟩) rfl (fun hz4 => ?_)
    refine lv_lload_n hx hb dX6_differs_54 rfl (lv_at hl 0 rfl) ?_
    refine lv_lxor hx hb dX6_differs_55 ?_
    obtain ⟨u5, hf5, hf⟩ := xb hf
    refine x_ran (x_runS (rest := []) (As := [.long (u4 ^^^ u3)]) hC mw_744 md_J13_bitCount_95d88 (c_J13_bitCount_95d88 (X := X) hf5) hH [] rfl (by decide) hl.1 rfl rfl (Nat.le_of_ble_eq_true rfl) dX6_differs_56 ⟨Nat.le_of_ble_eq_true rfl, Nat.le_of_ble_eq_true rfl⟩ ⟨rfl, rfl⟩ ⟨Nat.le_refl _, Nat.le_refl _⟩) rfl (fun hz5 => ?_)
    exact x_retiw (φ := fun _ => True) (f := fun u : Int32 × (Nat → Int32) => u.1) (wf := fun u : Int32 × (Nat → Int32) => [(h0, xO 6 [.ref h1, .ref g0, .ref g1, .ref h6, .ref h5, .int v_isKept]), (h1, xO 0 [.ref h2, .ref g2, .int v_now_inForce, .int v_now_depth, .int v_now_miss, .long v_now_ring, .int v_now_steps, .int v_now_seed]), (h2, xO 2 [.ref h3, .ref h4, .int v_now_laws_count]), (h3, xI X 6 v_now_laws_kinds), (h4, xI X 6 v_now_laws_tunes), (h5, xI X 5 u.2), (h6, xO 4 [.ref h8, .ref h9, .ref h7]), (h7, xJ X 320 v_shelves_elements), (h8, xI X 8 v_shelves_held), (h9, xI X 8 v_shelves_sizes)]) hC hr hlk trivial hf hH rfl rfl dX6_differs_59
  · have hf := xe c2 hf
    refine lv_aload_n hx hb dX6_differs_10 rfl (lv_at hl 1 rfl) ?_
    refine lv_iload_n hx hb dX6_differs_11 rfl (lv_at hl 0 rfl) ?_
    obtain ⟨u6, hf6, hf⟩ := xb hf
    refine x_ranw (ws' := [(h0, xO 6 [.ref h1, .ref g0, .ref g1, .ref h6, .ref h5, .int v_isKept]), (h1, xO 0 [.ref h2, .ref g2, .int v_now_inForce, .int v_now_depth, .int v_now_miss, .long v_now_ring, .int v_now_steps, .int v_now_seed]), (h2, xO 2 [.ref h3, .ref h4, .int v_now_laws_count]), (h3, xI X 6 v_now_laws_kinds), (h4, xI X 6 v_now_laws_tunes), (h5, xI X 5 u6.2), (h6, xO 4 [.ref h8, .ref h9, .ref h7]), (h7, xJ X 320 v_shelves_elements), (h8, xI X 8 v_shelves_held), (h9, xI X 8 v_shelves_sizes)]) (x_runV (q0 := 0) (rest := []) (As := [.int u1]) hC mw_100 md_X6_refuse (c_X6_refuse (X := X) hf6) hH [0, 5] rfl (by decide) rfl rfl rfl hl.1 rfl rfl (Nat.le_of_ble_eq_true rfl) dX6_differs_12 ⟨Nat.le_of_ble_eq_true rfl, Nat.le_of_ble_eq_true rfl⟩ ⟨rfl, rfl⟩ ⟨Nat.le_refl _, Nat.le_refl _⟩) hH [0, 5] rfl rfl rfl rfl rfl (fun hz6 H locs hH => ?_)
    exact x_retiw (φ := fun _ => True) (f := fun u : Int32 × (Nat → Int32) => u.1) (wf := fun u : Int32 × (Nat → Int32) => [(h0, xO 6 [.ref h1, .ref g0, .ref g1, .ref h6, .ref h5, .int v_isKept]), (h1, xO 0 [.ref h2, .ref g2, .int v_now_inForce, .int v_now_depth, .int v_now_miss, .long v_now_ring, .int v_now_steps, .int v_now_seed]), (h2, xO 2 [.ref h3, .ref h4, .int v_now_laws_count]), (h3, xI X 6 v_now_laws_kinds), (h4, xI X 6 v_now_laws_tunes), (h5, xI X 5 u.2), (h6, xO 4 [.ref h8, .ref h9, .ref h7]), (h7, xJ X 320 v_shelves_elements), (h8, xI X 8 v_shelves_held), (h9, xI X 8 v_shelves_sizes)]) hC hr hlk trivial hf hH rfl rfl dX6_differs_15
def f_X6_together_L6 (v_now_inForce : Int32) (v_now_ring : Int64) (v_now_steps : Int32) (v_now_laws_count : Int32) (v_now_laws_kinds : (Nat → Int32)) (v_now_laws_tunes : (Nat → Int32)) (s6 : Int32 × Int32 × Int32) : Option ((Int32) ⊕ (Int32 × Int32 × Int32)) :=
  if (nI 9) < s6.2.2 then
    some (.inl s6.1)
  else
  (f_X0_risen v_now_ring v_now_steps v_now_laws_count v_now_laws_kinds v_now_laws_tunes v_now_inForce s6.2.2).bind fun u2 =>
  (f_J13_bitCount_95d88 (v_now_ring &&& u2)).bind fun u3 =>
  if u3 ≤ s6.2.1 then
    some (.inr (s6.1, s6.2.1, s6.2.2 + (nI 1)))
  else
  some (.inr (s6.2.2, u3, s6.2.2 + (nI 1)))
def f_X6_together (v_now_inForce : Int32) (v_now_ring : Int64) (v_now_steps : Int32) (v_now_laws_count : Int32) (v_now_laws_kinds : (Nat → Int32)) (v_now_laws_tunes : (Nat → Int32)) : Option (Int32) :=
  xloop (f_X6_together_L6 v_now_inForce v_now_ring v_now_steps v_now_laws_count v_now_laws_kinds v_now_laws_tunes) xN ((nI 0), (-1 : Int32), (nI 0))
set_option maxHeartbeats 4000000 in
set_option maxRecDepth 100000 in
theorem c_X6_together {l : Launch} {X : xG} {h0 h1 h2 h3 h4 g0 g1 g2 g3 g4 : Nat} {v_isKept : Int32} {v_now_inForce : Int32} {v_now_depth : Int32} {v_now_miss : Int32} {v_now_ring : Int64} {v_now_steps : Int32} {v_now_seed : Int32} {v_now_laws_count : Int32} {v_now_laws_kinds : (Nat → Int32)} {v_now_laws_tunes : (Nat → Int32)} {u : Int32} (hf : f_X6_together v_now_inForce v_now_ring v_now_steps v_now_laws_count v_now_laws_kinds v_now_laws_tunes = some u) : Met l yX6_together (xw yX6_together cX6_together 5 (some .int)) (xrm 6 147) (xPc [.ref h0] X [(h0, xO 6 [.ref h1, .ref g0, .ref g1, .ref g2, .ref g3, .int v_isKept]), (h1, xO 0 [.ref h2, .ref g4, .int v_now_inForce, .int v_now_depth, .int v_now_miss, .long v_now_ring, .int v_now_steps, .int v_now_seed]), (h2, xO 2 [.ref h3, .ref h4, .int v_now_laws_count]), (h3, xI X 6 v_now_laws_kinds), (h4, xI X 6 v_now_laws_tunes)]) (xQ True (.returned (some (.int u)))) 0 0 xNo := by
  refine xMet (n := 0) md_X6_together.1 (Nat.le_of_ble_eq_true rfl) ?_
  intro p e s m args below meth c ls A hC hr hlk hH hl
  have hl : lv_has ls 5 [(0, .ref h0)] := hl
  have hx := hC.1
  have hb := hC.2.1
  have L6 : ∀ (n : Nat) (s6 : Int32 × Int32 × Int32), xloop (f_X6_together_L6 v_now_inForce v_now_ring v_now_steps v_now_laws_count v_now_laws_kinds v_now_laws_tunes) n s6 = some u → ∀ (ls : Array Slot), lv_has ls 5 [(0, .ref h0), (1, .int s6.1), (2, .int s6.2.1), (3, .int s6.2.2)] → W p l e (xrm 6 147) s m args below meth c s.heap [] 0 0 (MQ below (xQ True (.returned (some (.int u)))) args s 0 0 xNo) (F0 m 6 ls []) := by
    intro  n
    induction n with
    | zero => intro s6 hf; exact xloop_0 hf
    | succ n ih6 =>
      intro s6 hf ls hl
      obtain ⟨o6, hf, ho6⟩ := xloop_s hf
      refine lv_iload_n hx hb dX6_together_6 rfl (lv_at hl 3 rfl) ?_
      refine lv_bipush (v := (nI 9)) hx hb dX6_together_7 (by decide) ?_
      refine lv_icmp_gt (tgt := 57) hx hb dX6_together_9 (by decide) (fun c1 => ?_) (fun c1 => ?_)
      · have hf := xt c1 hf
        refine lv_iload_n hx hb dX6_together_57 rfl (lv_at hl 1 rfl) ?_
        have hf := xo_ret hf ho6
        exact x_reti hC hr hlk trivial hf dX6_together_58
      · have hf := xe c1 hf
        refine lv_aload_n hx hb dX6_together_12 rfl (lv_at hl 0 rfl) ?_
        refine x_get hC fd_RX6_10 hH.1 0 rfl rfl dX6_together_13 ?_
        refine x_getN hC fd_RX6_120 hH.1 1 rfl rfl dX6_together_16 ?_
        refine lv_aload_n hx hb dX6_together_19 rfl (lv_at hl 0 rfl) ?_
        refine x_get hC fd_RX6_10 hH.1 0 rfl rfl dX6_together_20 ?_
        refine lv_aload_n hx hb dX6_together_23 rfl (lv_at hl 0 rfl) ?_
        refine x_get hC fd_RX6_10 hH.1 0 rfl rfl dX6_together_24 ?_
        refine x_getN hC fd_RX6_135 hH.1 1 rfl rfl dX6_together_27 ?_
        refine lv_iload_n hx hb dX6_together_30 rfl (lv_at hl 3 rfl) ?_
        obtain ⟨u2, hf2, hf⟩ := xb hf
        refine x_ran (x_runV (q0 := 0) (rest := [.long v_now_ring]) (As := [.int v_now_inForce, .int s6.2.2]) hC mw_984 md_X0_risen (c_X0_risen (X := X) hf2) hH [1, 2, 3, 4] rfl (by decide) rfl rfl rfl hl.1 rfl rfl (Nat.le_of_ble_eq_true rfl) dX6_together_31 ⟨Nat.le_of_ble_eq_true rfl, Nat.le_of_ble_eq_true rfl⟩ ⟨rfl, rfl⟩ ⟨Nat.le_refl _, Nat.le_refl _⟩) rfl (fun hz2 => ?_)
        refine lv_land hx hb dX6_together_34 ?_
        obtain ⟨u3, hf3, hf⟩ := xb hf
        refine x_ran (x_runS (rest := []) (As := [.long (v_now_ring &&& u2)]) hC mw_744 md_J13_bitCount_95d88 (c_J13_bitCount_95d88 (X := X) hf3) hH [] rfl (by decide) hl.1 rfl rfl (Nat.le_of_ble_eq_true rfl) dX6_together_35 ⟨Nat.le_of_ble_eq_true rfl, Nat.le_of_ble_eq_true rfl⟩ ⟨rfl, rfl⟩ ⟨Nat.le_refl _, Nat.le_refl _⟩) rfl (fun hz3 => ?_)
        refine lv_istore (lv' := [(4, .int u3), (0, .ref h0), (1, .int s6.1), (2, .int s6.2.1), (3, .int s6.2.2)]) hx hb dX6_together_38 hl (by decide) rfl (fun ls hl => ?_)
        refine lv_iload hx hb dX6_together_40 (lv_at hl 0 rfl) ?_
        refine lv_iload_n hx hb dX6_together_42 rfl (lv_at hl 3 rfl) ?_
        refine lv_icmp_le (tgt := 51) hx hb dX6_together_43 (by decide) (fun c4 => ?_) (fun c4 => ?_)
        · have hf := xt c4 hf
          refine lv_iinc (v := s6.2.2 + (nI 1)) (lv' := [(3, .int (s6.2.2 + (nI 1))), (4, .int u3), (0, .ref h0), (1, .int s6.1), (2, .int s6.2.1)]) hx hb dX6_together_51 hl (k := 4) rfl rfl (by decide) rfl (fun ls hl => ?_)
          refine lv_goto (tgt := 6) hx hb dX6_together_54 (by decide) ?_
          have hf := xo_go hf ho6
          exact ih6 (s6.1, s6.2.1, s6.2.2 + (nI 1)) hf ls (lv_sub hl [2, 3, 4, 0] rfl)
        · have hf := xe c4 hf
          refine lv_iload_n hx hb dX6_together_46 rfl (lv_at hl 4 rfl) ?_
          refine lv_istore_n (lv' := [(1, .int s6.2.2), (4, .int u3), (0, .ref h0), (2, .int s6.2.1), (3, .int s6.2.2)]) hx hb dX6_together_47 rfl hl (by decide) rfl (fun ls hl => ?_)
          refine lv_iload hx hb dX6_together_48 (lv_at hl 1 rfl) ?_
          refine lv_istore_n (lv' := [(2, .int u3), (1, .int s6.2.2), (4, .int u3), (0, .ref h0), (3, .int s6.2.2)]) hx hb dX6_together_50 rfl hl (by decide) rfl (fun ls hl => ?_)
          refine lv_iinc (v := s6.2.2 + (nI 1)) (lv' := [(3, .int (s6.2.2 + (nI 1))), (2, .int u3), (1, .int s6.2.2), (4, .int u3), (0, .ref h0)]) hx hb dX6_together_51 hl (k := 4) rfl rfl (by decide) rfl (fun ls hl => ?_)
          refine lv_goto (tgt := 6) hx hb dX6_together_54 (by decide) ?_
          have hf := xo_go hf ho6
          exact ih6 (s6.2.2, u3, s6.2.2 + (nI 1)) hf ls (lv_sub hl [4, 2, 1, 0] rfl)
  refine lv_iconst (v := (nI 0)) hx hb dX6_together_0 (by decide) ?_
  refine lv_istore_n (lv' := [(1, .int (nI 0)), (0, .ref h0)]) hx hb dX6_together_1 rfl hl (by decide) rfl (fun ls hl => ?_)
  refine lv_iconst (v := (-1 : Int32)) hx hb dX6_together_2 (by decide) ?_
  refine lv_istore_n (lv' := [(2, .int (-1 : Int32)), (1, .int (nI 0)), (0, .ref h0)]) hx hb dX6_together_3 rfl hl (by decide) rfl (fun ls hl => ?_)
  refine lv_iconst (v := (nI 0)) hx hb dX6_together_4 (by decide) ?_
  refine lv_istore_n (lv' := [(3, .int (nI 0)), (2, .int (-1 : Int32)), (1, .int (nI 0)), (0, .ref h0)]) hx hb dX6_together_5 rfl hl (by decide) rfl (fun ls hl => ?_)
  exact L6 xN ((nI 0), (-1 : Int32), (nI 0)) hf ls (lv_sub hl [3, 2, 1, 0] rfl)
def f_X6_odds_L28 (v_now_miss : Int32) (x28_1 : Int32) (s28 : Int32 × Int32) : Option ((Int32) ⊕ (Int32 × Int32)) :=
  if x28_1 ≤ s28.2 then
    some (.inl s28.1)
  else
  some (.inr ((s28.1 * ((nI 100) - v_now_miss)) / (nI 100), s28.2 + (nI 1)))
def f_X6_odds (v_now_inForce : Int32) (v_now_miss : Int32) (v_now_ring : Int64) (v_now_steps : Int32) (v_now_laws_count : Int32) (v_now_laws_kinds : (Nat → Int32)) (v_now_laws_tunes : (Nat → Int32)) : Option (Int32) :=
  (f_X0_timesStruck v_now_steps v_now_laws_count v_now_laws_kinds v_now_laws_tunes v_now_inForce v_now_ring).bind fun u1 =>
  xloop (f_X6_odds_L28 v_now_miss u1) xN ((nI 1000000), (nI 0))
set_option maxHeartbeats 4000000 in
set_option maxRecDepth 100000 in
theorem c_X6_odds {l : Launch} {X : xG} {h0 h1 h2 h3 h4 g0 g1 g2 g3 g4 : Nat} {v_isKept : Int32} {v_now_inForce : Int32} {v_now_depth : Int32} {v_now_miss : Int32} {v_now_ring : Int64} {v_now_steps : Int32} {v_now_seed : Int32} {v_now_laws_count : Int32} {v_now_laws_kinds : (Nat → Int32)} {v_now_laws_tunes : (Nat → Int32)} {u : Int32} (hf : f_X6_odds v_now_inForce v_now_miss v_now_ring v_now_steps v_now_laws_count v_now_laws_kinds v_now_laws_tunes = some u) : Met l yX6_odds (xw yX6_odds cX6_odds 4 (some .int)) (xrm 6 148) (xPc [.ref h0] X [(h0, xO 6 [.ref h1, .ref g0, .ref g1, .ref g2, .ref g3, .int v_isKept]), (h1, xO 0 [.ref h2, .ref g4, .int v_now_inForce, .int v_now_depth, .int v_now_miss, .long v_now_ring, .int v_now_steps, .int v_now_seed]), (h2, xO 2 [.ref h3, .ref h4, .int v_now_laws_count]), (h3, xI X 6 v_now_laws_kinds), (h4, xI X 6 v_now_laws_tunes)]) (xQ True (.returned (some (.int u)))) 0 0 xNo := by
  refine xMet (n := 0) md_X6_odds.1 (Nat.le_of_ble_eq_true rfl) ?_
  intro p e s m args below meth c ls A hC hr hlk hH hl
  have hl : lv_has ls 4 [(0, .ref h0)] := hl
  have hx := hC.1
  have hb := hC.2.1
  have L28 : ∀ (x28_1 : Int32) (n : Nat) (s28 : Int32 × Int32), xloop (f_X6_odds_L28 v_now_miss x28_1) n s28 = some u → ∀ (ls : Array Slot), lv_has ls 4 [(0, .ref h0), (1, .int x28_1), (2, .int s28.1), (3, .int s28.2)] → W p l e (xrm 6 148) s m args below meth c s.heap [] 0 0 (MQ below (xQ True (.returned (some (.int u)))) args s 0 0 xNo) (F0 m 28 ls []) := by
    intro x28_1 n
    induction n with
    | zero => intro s28 hf; exact xloop_0 hf
    | succ n ih28 =>
      intro s28 hf ls hl
      obtain ⟨o28, hf, ho28⟩ := xloop_s hf
      refine lv_iload_n hx hb dX6_odds_28 rfl (lv_at hl 3 rfl) ?_
      refine lv_iload_n hx hb dX6_odds_29 rfl (lv_at hl 1 rfl) ?_
      refine lv_icmp_ge (tgt := 55) hx hb dX6_odds_30 (by decide) (fun c2 => ?_) (fun c2 => ?_)
      · have hf := xt c2 hf
        refine lv_iload_n hx hb dX6_odds_55 rfl (lv_at hl 2 rfl) ?_
        have hf := xo_ret hf ho28
        exact x_reti hC hr hlk trivial hf dX6_odds_56
      · have hf := xe c2 hf
        refine lv_iload_n hx hb dX6_odds_33 rfl (lv_at hl 2 rfl) ?_
        refine lv_bipush (v := (nI 100)) hx hb dX6_odds_34 (by decide) ?_
        refine lv_aload_n hx hb dX6_odds_36 rfl (lv_at hl 0 rfl) ?_
        refine x_get hC fd_RX6_10 hH.1 0 rfl rfl dX6_odds_37 ?_
        refine x_getN hC fd_RX6_142 hH.1 1 rfl rfl dX6_odds_40 ?_
        refine lv_isub hx hb dX6_odds_43 ?_
        refine lv_imul hx hb dX6_odds_44 ?_
        refine lv_bipush (v := (nI 100)) hx hb dX6_odds_45 (by decide) ?_
        refine lv_idiv hx hb dX6_odds_47 (by decide) ?_
        refine lv_istore_n (lv' := [(2, .int ((s28.1 * ((nI 100) - v_now_miss)) / (nI 100))), (0, .ref h0), (1, .int x28_1), (3, .int s28.2)]) hx hb dX6_odds_48 rfl hl (by decide) rfl (fun ls hl => ?_)
        refine lv_iinc (v := s28.2 + (nI 1)) (lv' := [(3, .int (s28.2 + (nI 1))), (2, .int ((s28.1 * ((nI 100) - v_now_miss)) / (nI 100))), (0, .ref h0), (1, .int x28_1)]) hx hb dX6_odds_49 hl (k := 3) rfl rfl (by decide) rfl (fun ls hl => ?_)
        refine lv_goto (tgt := 28) hx hb dX6_odds_52 (by decide) ?_
        have hf := xo_go hf ho28
        exact ih28 ((s28.1 * ((nI 100) - v_now_miss)) / (nI 100), s28.2 + (nI 1)) hf ls (lv_sub hl [2, 3, 1, 0] rfl)
  refine lv_aload_n hx hb dX6_odds_0 rfl (lv_at hl 0 rfl) ?_
  refine x_get hC fd_RX6_10 hH.1 0 rfl rfl dX6_odds_1 ?_
  refine lv_aload_n hx hb dX6_odds_4 rfl (lv_at hl 0 rfl) ?_
  refine x_get hC fd_RX6_10 hH.1 0 rfl rfl dX6_odds_5 ?_
  refine x_getN hC fd_RX6_135 hH.1 1 rfl rfl dX6_odds_8 ?_
  refine lv_aload_n hx hb dX6_odds_11 rfl (lv_at hl 0 rfl) ?_
  refine x_get hC fd_RX6_10 hH.1 0 rfl rfl dX6_odds_12 ?_
  refine x_getN hC fd_RX6_120 hH.1 1 rfl rfl dX6_odds_15 ?_
  obtain ⟨u1, hf1, hf⟩ := xb hf
  refine x_ran (x_runV (q0 := 0) (rest := []) (As := [.int v_now_inForce, .long v_now_ring]) hC mw_269 md_X0_timesStruck (c_X0_timesStruck (X := X) hf1) hH [1, 2, 3, 4] rfl (by decide) rfl rfl rfl hl.1 rfl rfl (Nat.le_of_ble_eq_true rfl) dX6_odds_18 ⟨Nat.le_of_ble_eq_true rfl, Nat.le_of_ble_eq_true rfl⟩ ⟨rfl, rfl⟩ ⟨Nat.le_refl _, Nat.le_refl _⟩) rfl (fun hz1 => ?_)
  refine lv_istore_n (lv' := [(1, .int u1), (0, .ref h0)]) hx hb dX6_odds_21 rfl hl (by decide) rfl (fun ls hl => ?_)
  refine lv_ldcw (v := (nI 1000000)) hx hb hC.2.2.2.1 (hC.2.2.2.2.1 _ mw_1020) dX6_odds_22 ?_
  refine lv_istore_n (lv' := [(2, .int (nI 1000000)), (1, .int u1), (0, .ref h0)]) hx hb dX6_odds_25 rfl hl (by decide) rfl (fun ls hl => ?_)
  refine lv_iconst (v := (nI 0)) hx hb dX6_odds_26 (by decide) ?_
  refine lv_istore_n (lv' := [(3, .int (nI 0)), (2, .int (nI 1000000)), (1, .int u1), (0, .ref h0)]) hx hb dX6_odds_27 rfl hl (by decide) rfl (fun ls hl => ?_)
  exact L28 u1 xN ((nI 1000000), (nI 0)) hf ls (lv_sub hl [3, 2, 1, 0] rfl)
def f_X6_expected (v_now_inForce : Int32) (v_now_miss : Int32) (v_now_ring : Int64) (v_now_steps : Int32) (v_now_laws_count : Int32) (v_now_laws_kinds : (Nat → Int32)) (v_now_laws_tunes : (Nat → Int32)) : Option (Int32) :=
  (f_X0_timesStruck v_now_steps v_now_laws_count v_now_laws_kinds v_now_laws_tunes v_now_inForce v_now_ring).bind fun u1 =>
  some ((((nI 1000) * u1) * ((nI 100) - v_now_miss)) / (nI 100))
set_option maxHeartbeats 4000000 in
set_option maxRecDepth 100000 in
theorem c_X6_expected {l : Launch} {X : xG} {h0 h1 h2 h3 h4 g0 g1 g2 g3 g4 : Nat} {v_isKept : Int32} {v_now_inForce : Int32} {v_now_depth : Int32} {v_now_miss : Int32} {v_now_ring : Int64} {v_now_steps : Int32} {v_now_seed : Int32} {v_now_laws_count : Int32} {v_now_laws_kinds : (Nat → Int32)} {v_now_laws_tunes : (Nat → Int32)} {u : Int32} (hf : f_X6_expected v_now_inForce v_now_miss v_now_ring v_now_steps v_now_laws_count v_now_laws_kinds v_now_laws_tunes = some u) : Met l yX6_expected (xw yX6_expected cX6_expected 1 (some .int)) (xrm 6 148) (xPc [.ref h0] X [(h0, xO 6 [.ref h1, .ref g0, .ref g1, .ref g2, .ref g3, .int v_isKept]), (h1, xO 0 [.ref h2, .ref g4, .int v_now_inForce, .int v_now_depth, .int v_now_miss, .long v_now_ring, .int v_now_steps, .int v_now_seed]), (h2, xO 2 [.ref h3, .ref h4, .int v_now_laws_count]), (h3, xI X 6 v_now_laws_kinds), (h4, xI X 6 v_now_laws_tunes)]) (xQ True (.returned (some (.int u)))) 0 0 xNo := by
  refine xMet (n := 0) md_X6_expected.1 (Nat.le_of_ble_eq_true rfl) ?_
  intro p e s m args below meth c ls A hC hr hlk hH hl
  have hl : lv_has ls 1 [(0, .ref h0)] := hl
  have hx := hC.1
  have hb := hC.2.1
  refine lv_sipush (v := (nI 1000)) hx hb dX6_expected_0 (by decide) ?_
  refine lv_aload_n hx hb dX6_expected_3 rfl (lv_at hl 0 rfl) ?_
  refine x_get hC fd_RX6_10 hH.1 0 rfl rfl dX6_expected_4 ?_
  refine lv_aload_n hx hb dX6_expected_7 rfl (lv_at hl 0 rfl) ?_
  refine x_get hC fd_RX6_10 hH.1 0 rfl rfl dX6_expected_8 ?_
  refine x_getN hC fd_RX6_135 hH.1 1 rfl rfl dX6_expected_11 ?_
  refine lv_aload_n hx hb dX6_expected_14 rfl (lv_at hl 0 rfl) ?_
  refine x_get hC fd_RX6_10 hH.1 0 rfl rfl dX6_expected_15 ?_
  refine x_getN hC fd_RX6_120 hH.1 1 rfl rfl dX6_expected_18 ?_
  obtain ⟨u1, hf1, hf⟩ := xb hf
  refine x_ran (x_runV (q0 := 0) (rest := [.int (nI 1000)]) (As := [.int v_now_inForce, .long v_now_ring]) hC mw_269 md_X0_timesStruck (c_X0_timesStruck (X := X) hf1) hH [1, 2, 3, 4] rfl (by decide) rfl rfl rfl hl.1 rfl rfl (Nat.le_of_ble_eq_true rfl) dX6_expected_21 ⟨Nat.le_of_ble_eq_true rfl, Nat.le_of_ble_eq_true rfl⟩ ⟨rfl, rfl⟩ ⟨Nat.le_refl _, Nat.le_refl _⟩) rfl (fun hz1 => ?_)
  refine lv_imul hx hb dX6_expected_24 ?_
  refine lv_bipush (v := (nI 100)) hx hb dX6_expected_25 (by decide) ?_
  refine lv_aload_n hx hb dX6_expected_27 rfl (lv_at hl 0 rfl) ?_
  refine x_get hC fd_RX6_10 hH.1 0 rfl rfl dX6_expected_28 ?_
  refine x_getN hC fd_RX6_142 hH.1 1 rfl rfl dX6_expected_31 ?_
  refine lv_isub hx hb dX6_expected_34 ?_
  refine lv_imul hx hb dX6_expected_35 ?_
  refine lv_bipush (v := (nI 100)) hx hb dX6_expected_36 (by decide) ?_
  refine lv_idiv hx hb dX6_expected_38 (by decide) ?_
  exact x_reti hC hr hlk trivial hf dX6_expected_39
def f_X6_fits_L38 (v_now_depth : Int32) (v_now_ring : Int64) (v_now_steps : Int32) (v_now_laws_count : Int32) (v_now_laws_kinds : (Nat → Int32)) (v_now_laws_tunes : (Nat → Int32)) (v_refusals : (Nat → Int32)) (x38_3 : Int64) (s38 : Int32 × Int32) : Option ((Int32 × (Nat → Int32)) ⊕ (Int32 × Int32)) :=
  if v_now_laws_count ≤ s38.2 then
    some (.inl (s38.1, v_refusals))
  else
  (f_X0_risen v_now_ring v_now_steps v_now_laws_count v_now_laws_kinds v_now_laws_tunes s38.2 v_now_depth).bind fun u5 =>
  if (xcmp (v_now_ring ||| u5) x38_3) = (nI 0) then
    some (.inr (s38.1 ||| (xshl (nI 1) s38.2), s38.2 + (nI 1)))
  else
  some (.inr (s38.1, s38.2 + (nI 1)))
def f_X6_fits (v_now_depth : Int32) (v_now_ring : Int64) (v_now_steps : Int32) (v_now_laws_count : Int32) (v_now_laws_kinds : (Nat → Int32)) (v_now_laws_tunes : (Nat → Int32)) (v_refusals : (Nat → Int32)) (v_shelves_elements : (Nat → Int64)) (v_shelves_held : (Nat → Int32)) (v_shelves_sizes : (Nat → Int32)) (p1 : Int32) : Option (Int32 × (Nat → Int32)) :=
  (f_X6_refusalOfHeardRow v_now_steps v_shelves_held v_shelves_sizes p1).bind fun u1 =>
  if u1 = (nI 0) then
    (f_X4_elementsAsBits v_shelves_elements v_shelves_sizes p1 v_now_steps).bind fun u3 =>
    xloop (f_X6_fits_L38 v_now_depth v_now_ring v_now_steps v_now_laws_count v_now_laws_kinds v_now_laws_tunes v_refusals u3) xN ((nI 0), (nI 0))
  else
  (f_X6_refuse v_refusals u1).bind fun u7 =>
  some (u7.1, u7.2)
set_option maxHeartbeats 4000000 in
set_option maxRecDepth 100000 in
theorem c_X6_fits {l : Launch} {X : xG} {h0 h1 h2 h3 h4 h5 h6 h7 h8 h9 g0 g1 g2 : Nat} {v_isKept : Int32} {v_now_inForce : Int32} {v_now_depth : Int32} {v_now_miss : Int32} {v_now_ring : Int64} {v_now_steps : Int32} {v_now_seed : Int32} {v_now_laws_count : Int32} {v_now_laws_kinds : (Nat → Int32)} {v_now_laws_tunes : (Nat → Int32)} {v_refusals : (Nat → Int32)} {v_shelves_elements : (Nat → Int64)} {v_shelves_held : (Nat → Int32)} {v_shelves_sizes : (Nat → Int32)} {p1 : Int32} {u : Int32 × (Nat → Int32)} (hf : f_X6_fits v_now_depth v_now_ring v_now_steps v_now_laws_count v_now_laws_kinds v_now_laws_tunes v_refusals v_shelves_elements v_shelves_held v_shelves_sizes p1 = some u) : Met l yX6_fits (xw yX6_fits cX6_fits 7 (some .int)) (xrm 6 147) (xPc [.ref h0, .int p1] X [(h0, xO 6 [.ref h1, .ref g0, .ref g1, .ref h6, .ref h5, .int v_isKept]), (h1, xO 0 [.ref h2, .ref g2, .int v_now_inForce, .int v_now_depth, .int v_now_miss, .long v_now_ring, .int v_now_steps, .int v_now_seed]), (h2, xO 2 [.ref h3, .ref h4, .int v_now_laws_count]), (h3, xI X 6 v_now_laws_kinds), (h4, xI X 6 v_now_laws_tunes), (h5, xI X 5 v_refusals), (h6, xO 4 [.ref h8, .ref h9, .ref h7]), (h7, xJ X 320 v_shelves_elements), (h8, xI X 8 v_shelves_held), (h9, xI X 8 v_shelves_sizes)]) (xQw True (.returned (some (.int u.1))) X [(h0, xO 6 [.ref h1, .ref g0, .ref g1, .ref h6, .ref h5, .int v_isKept]), (h1, xO 0 [.ref h2, .ref g2, .int v_now_inForce, .int v_now_depth, .int v_now_miss, .long v_now_ring, .int v_now_steps, .int v_now_seed]), (h2, xO 2 [.ref h3, .ref h4, .int v_now_laws_count]), (h3, xI X 6 v_now_laws_kinds), (h4, xI X 6 v_now_laws_tunes), (h5, xI X 5 u.2), (h6, xO 4 [.ref h8, .ref h9, .ref h7]), (h7, xJ X 320 v_shelves_elements), (h8, xI X 8 v_shelves_held), (h9, xI X 8 v_shelves_sizes)] (xAs [(h0, xO 6 [.ref h1, .ref g0, .ref g1, .ref h6, .ref h5, .int v_isKept]), (h1, xO 0 [.ref h2, .ref g2, .int v_now_inForce, .int v_now_depth, .int v_now_miss, .long v_now_ring, .int v_now_steps, .int v_now_seed]), (h2, xO 2 [.ref h3, .ref h4, .int v_now_laws_count]), (h3, xI X 6 v_now_laws_kinds), (h4, xI X 6 v_now_laws_tunes), (h5, xI X 5 v_refusals), (h6, xO 4 [.ref h8, .ref h9, .ref h7]), (h7, xJ X 320 v_shelves_elements), (h8, xI X 8 v_shelves_held), (h9, xI X 8 v_shelves_sizes)])) 0 0 (xAs [(h0, xO 6 [.ref h1, .ref g0, .ref g1, .ref h6, .ref h5, .int v_isKept]), (h1, xO 0 [.ref h2, .ref g2, .int v_now_inForce, .int v_now_depth, .int v_now_miss, .long v_now_ring, .int v_now_steps, .int v_now_seed]), (h2, xO 2 [.ref h3, .ref h4, .int v_now_laws_count]), (h3, xI X 6 v_now_laws_kinds), (h4, xI X 6 v_now_laws_tunes), (h5, xI X 5 v_refusals), (h6, xO 4 [.ref h8, .ref h9, .ref h7]), (h7, xJ X 320 v_shelves_elements), (h8, xI X 8 v_shelves_held), (h9, xI X 8 v_shelves_sizes)]) := by
  refine xMetw (Qc := fun A => xQw True (.returned (some (.int u.1))) X [(h0, xO 6 [.ref h1, .ref g0, .ref g1, .ref h6, .ref h5, .int v_isKept]), (h1, xO 0 [.ref h2, .ref g2, .int v_now_inForce, .int v_now_depth, .int v_now_miss, .long v_now_ring, .int v_now_steps, .int v_now_seed]), (h2, xO 2 [.ref h3, .ref h4, .int v_now_laws_count]), (h3, xI X 6 v_now_laws_kinds), (h4, xI X 6 v_now_laws_tunes), (h5, xI X 5 u.2), (h6, xO 4 [.ref h8, .ref h9, .ref h7]), (h7, xJ X 320 v_shelves_elements), (h8, xI X 8 v_shelves_held), (h9, xI X 8 v_shelves_sizes)] A) (n := 1) md_X6_fits.1 (Nat.le_of_ble_eq_true rfl) ?_
  intro p e s m args below meth c ls A hC hr hlk hH hl
  have hl : lv_has ls 7 [(0, .ref h0), (1, .int p1)] := hl
  have hx := hC.1
  have hb := hC.2.1
  have L38 : ∀ (x38_3 : Int64) (n : Nat) (s38 : Int32 × Int32), xloop (f_X6_fits_L38 v_now_depth v_now_ring v_now_steps v_now_laws_count v_now_laws_kinds v_now_laws_tunes v_refusals x38_3) n s38 = some u → ∀ (H : Heap) (locs : List Loc), xH X A [(h0, xO 6 [.ref h1, .ref g0, .ref g1, .ref h6, .ref h5, .int v_isKept]), (h1, xO 0 [.ref h2, .ref g2, .int v_now_inForce, .int v_now_depth, .int v_now_miss, .long v_now_ring, .int v_now_steps, .int v_now_seed]), (h2, xO 2 [.ref h3, .ref h4, .int v_now_laws_count]), (h3, xI X 6 v_now_laws_kinds), (h4, xI X 6 v_now_laws_tunes), (h5, xI X 5 v_refusals), (h6, xO 4 [.ref h8, .ref h9, .ref h7]), (h7, xJ X 320 v_shelves_elements), (h8, xI X 8 v_shelves_held), (h9, xI X 8 v_shelves_sizes)] s.heap H locs → ∀ (ls : Array Slot), lv_has ls 7 [(0, .ref h0), (3, .long x38_3), (5, .int s38.1), (6, .int s38.2)] → W p l e (xrm 6 147) s m args below meth c H locs 0 0 (MQ below (xQw True (.returned (some (.int u.1))) X [(h0, xO 6 [.ref h1, .ref g0, .ref g1, .ref h6, .ref h5, .int v_isKept]), (h1, xO 0 [.ref h2, .ref g2, .int v_now_inForce, .int v_now_depth, .int v_now_miss, .long v_now_ring, .int v_now_steps, .int v_now_seed]), (h2, xO 2 [.ref h3, .ref h4, .int v_now_laws_count]), (h3, xI X 6 v_now_laws_kinds), (h4, xI X 6 v_now_laws_tunes), (h5, xI X 5 u.2), (h6, xO 4 [.ref h8, .ref h9, .ref h7]), (h7, xJ X 320 v_shelves_elements), (h8, xI X 8 v_shelves_held), (h9, xI X 8 v_shelves_sizes)] A) args s 0 0 A) (F0 m 38 ls []) := by
    intro x38_3 n
    induction n with
    | zero => intro s38 hf; exact xloop_0 hf
    | succ n ih38 =>
      intro s38 hf H locs hH ls hl
      obtain ⟨o38, hf, ho38⟩ := xloop_s hf
      refine lv_iload hx hb dX6_fits_38 (lv_at hl 3 rfl) ?_
      refine lv_aload_n hx hb dX6_fits_40 rfl (lv_at hl 0 rfl) ?_
      refine x_get hC fd_RX6_10 hH.1 0 rfl rfl dX6_fits_41 ?_
      refine x_getN hC fd_RX6_81 hH.1 1 rfl rfl dX6_fits_44 ?_
      refine x_getN hC fd_RX6_194 hH.1 2 rfl rfl dX6_fits_47 ?_
      refine lv_icmp_ge (tgt := 97) hx hb dX6_fits_50 (by decide) (fun c4 => ?_) (fun c4 => ?_)
      · have hf := xt c4 hf
        refine lv_iload hx hb dX6_fits_97 (lv_at hl 2 rfl) ?_
        have hf := xo_ret hf ho38
        exact x_retiw (φ := fun _ => True) (f := fun u : Int32 × (Nat → Int32) => u.1) (wf := fun u : Int32 × (Nat → Int32) => [(h0, xO 6 [.ref h1, .ref g0, .ref g1, .ref h6, .ref h5, .int v_isKept]), (h1, xO 0 [.ref h2, .ref g2, .int v_now_inForce, .int v_now_depth, .int v_now_miss, .long v_now_ring, .int v_now_steps, .int v_now_seed]), (h2, xO 2 [.ref h3, .ref h4, .int v_now_laws_count]), (h3, xI X 6 v_now_laws_kinds), (h4, xI X 6 v_now_laws_tunes), (h5, xI X 5 u.2), (h6, xO 4 [.ref h8, .ref h9, .ref h7]), (h7, xJ X 320 v_shelves_elements), (h8, xI X 8 v_shelves_held), (h9, xI X 8 v_shelves_sizes)]) hC hr hlk trivial hf hH rfl rfl dX6_fits_99
      · have hf := xe c4 hf
        refine lv_aload_n hx hb dX6_fits_53 rfl (lv_at hl 0 rfl) ?_
        refine x_get hC fd_RX6_10 hH.1 0 rfl rfl dX6_fits_54 ?_
        refine x_getN hC fd_RX6_120 hH.1 1 rfl rfl dX6_fits_57 ?_
        refine lv_aload_n hx hb dX6_fits_60 rfl (lv_at hl 0 rfl) ?_
        refine x_get hC fd_RX6_10 hH.1 0 rfl rfl dX6_fits_61 ?_
        refine lv_iload hx hb dX6_fits_64 (lv_at hl 3 rfl) ?_
        refine lv_aload_n hx hb dX6_fits_66 rfl (lv_at hl 0 rfl) ?_
        refine x_get hC fd_RX6_10 hH.1 0 rfl rfl dX6_fits_67 ?_
        refine x_getN hC fd_RX6_139 hH.1 1 rfl rfl dX6_fits_70 ?_
        obtain ⟨u5, hf5, hf⟩ := xb hf
        refine x_ran (x_runV (q0 := 0) (rest := [.long v_now_ring]) (As := [.int s38.2, .int v_now_depth]) hC mw_984 md_X0_risen (c_X0_risen (X := X) hf5) hH [1, 2, 3, 4] rfl (by decide) rfl rfl rfl hl.1 rfl rfl (Nat.le_of_ble_eq_true rfl) dX6_fits_73 ⟨Nat.le_of_ble_eq_true rfl, Nat.le_of_ble_eq_true rfl⟩ ⟨rfl, rfl⟩ ⟨Nat.le_refl _, Nat.le_refl _⟩) rfl (fun hz5 => ?_)
        refine lv_lor hx hb dX6_fits_76 ?_
        refine lv_lload_n hx hb dX6_fits_77 rfl (lv_at hl 1 rfl) ?_
        refine x_lcmp hx hb dX6_fits_78 ?_
        refine lv_if_ne (tgt := 91) hx hb dX6_fits_79 (by decide) (fun c6 => ?_) (fun c6 => ?_)
        · have hf := xe c6 hf
          refine lv_iinc (v := s38.2 + (nI 1)) (lv' := [(6, .int (s38.2 + (nI 1))), (0, .ref h0), (3, .long x38_3), (5, .int s38.1)]) hx hb dX6_fits_91 hl (k := 3) rfl rfl (by decide) rfl (fun ls hl => ?_)
          refine lv_goto (tgt := 38) hx hb dX6_fits_94 (by decide) ?_
          have hf := xo_go hf ho38
          exact ih38 (s38.1, s38.2 + (nI 1)) hf _ _ hH ls (lv_sub hl [1, 2, 3, 0] rfl)
        · have hf := xt c6 hf
          refine lv_iload hx hb dX6_fits_82 (lv_at hl 2 rfl) ?_
          refine lv_iconst (v := (nI 1)) hx hb dX6_fits_84 (by decide) ?_
          refine lv_iload hx hb dX6_fits_85 (lv_at hl 3 rfl) ?_
          refine x_ishl hx hb dX6_fits_87 ?_
          refine lv_ior hx hb dX6_fits_88 ?_
          refine lv_istore (lv' := [(5, .int (s38.1 ||| (xshl (nI 1) s38.2))), (0, .ref h0), (3, .long x38_3), (6, .int s38.2)]) hx hb dX6_fits_89 hl (by decide) rfl (fun ls hl => ?_)
          refine lv_iinc (v := s38.2 + (nI 1)) (lv' := [(6, .int (s38.2 + (nI 1))), (5, .int (s38.1 ||| (xshl (nI 1) s38.2))), (0, .ref h0), (3, .long x38_3)]) hx hb dX6_fits_91 hl (k := 3) rfl rfl (by decide) rfl (fun ls hl => ?_)
          refine lv_goto (tgt := 38) hx hb dX6_fits_94 (by decide) ?_
          have hf := xo_go hf ho38
          exact ih38 (s38.1 ||| (xshl (nI 1) s38.2), s38.2 + (nI 1)) hf _ _ hH ls (lv_sub hl [2, 3, 1, 0] rfl)
  refine lv_aload_n hx hb dX6_fits_0 rfl (lv_at hl 0 rfl) ?_
  refine lv_iload_n hx hb dX6_fits_1 rfl (lv_at hl 1 rfl) ?_
  obtain ⟨u1, hf1, hf⟩ := xb hf
  refine x_ran (x_runV (q0 := 0) (rest := []) (As := [.int p1]) hC mw_976 md_X6_refusalOfHeardRow (c_X6_refusalOfHeardRow (X := X) hf1) hH [0, 1, 6, 8, 9] rfl (by decide) rfl rfl rfl hl.1 rfl rfl (Nat.le_of_ble_eq_true rfl) dX6_fits_2 ⟨Nat.le_of_ble_eq_true rfl, Nat.le_of_ble_eq_true rfl⟩ ⟨rfl, rfl⟩ ⟨Nat.le_refl _, Nat.le_refl _⟩) rfl (fun hz1 => ?_)
  refine lv_istore_n (lv' := [(2, .int u1), (0, .ref h0), (1, .int p1)]) hx hb dX6_fits_5 rfl hl (by decide) rfl (fun ls hl => ?_)
  refine lv_iload_n hx hb dX6_fits_6 rfl (lv_at hl 0 rfl) ?_
  refine lv_if_eq (tgt := 16) hx hb dX6_fits_7 (by decide) (fun c2 => ?_) (fun c2 => ?_)
  · have hf := xt c2 hf
    refine lv_aload_n hx hb dX6_fits_16 rfl (lv_at hl 1 rfl) ?_
    refine x_get hC fd_RX6_29 hH.1 0 rfl rfl dX6_fits_17 ?_
    refine lv_iload_n hx hb dX6_fits_20 rfl (lv_at hl 2 rfl) ?_
    refine lv_aload_n hx hb dX6_fits_21 rfl (lv_at hl 1 rfl) ?_
    refine x_get hC fd_RX6_10 hH.1 0 rfl rfl dX6_fits_22 ?_
    refine x_getN hC fd_RX6_200 hH.1 1 rfl rfl dX6_fits_25 ?_
    obtain ⟨u3, hf3, hf⟩ := xb hf
    refine x_ran (x_runV (q0 := 0) (rest := []) (As := [.int p1, .int v_now_steps]) hC mw_980 md_X4_elementsAsBits (c_X4_elementsAsBits (X := X) hf3) hH [6, 7, 9] rfl (by decide) rfl rfl rfl hl.1 rfl rfl (Nat.le_of_ble_eq_true rfl) dX6_fits_28 ⟨Nat.le_of_ble_eq_true rfl, Nat.le_of_ble_eq_true rfl⟩ ⟨rfl, rfl⟩ ⟨Nat.le_refl _, Nat.le_refl _⟩) rfl (fun hz3 => ?_)
    refine lv_lstore_n (lv' := [(3, .long u3), (2, .int u1), (0, .ref h0), (1, .int p1)]) hx hb dX6_fits_31 rfl hl (by decide) rfl (fun ls hl => ?_)
    refine lv_iconst (v := (nI 0)) hx hb dX6_fits_32 (by decide) ?_
    refine lv_istore (lv' := [(5, .int (nI 0)), (3, .long u3), (2, .int u1), (0, .ref h0), (1, .int p1)]) hx hb dX6_fits_33 hl (by decide) rfl (fun ls hl => ?_)
    refine lv_iconst (v := (nI 0)) hx hb dX6_fits_35 (by decide) ?_
    refine lv_istore (lv' := [(6, .int (nI 0)), (5, .int (nI 0)), (3, .long u3), (2, .int u1), (0, .ref h0), (1, .int p1)]) hx hb dX6_fits_36 hl (by decide) rfl (fun ls hl => ?_)
    exact L38 u3 xN ((nI 0), (nI 0)) hf _ _ hH ls (lv_sub hl [4, 2, 1, 0] rfl)
  · have hf := xe c2 hf
    refine lv_aload_n hx hb dX6_fits_10 rfl (lv_at hl 1 rfl) ?_
    refine lv_iload_n hx hb dX6_fits_11 rfl (lv_at hl 0 rfl) ?_
    obtain ⟨u7, hf7, hf⟩ := xb hf
    refine x_ranw (ws' := [(h0, xO 6 [.ref h1, .ref g0, .ref g1, .ref h6, .ref h5, .int v_isKept]), (h1, xO 0 [.ref h2, .ref g2, .int v_now_inForce, .int v_now_depth, .int v_now_miss, .long v_now_ring, .int v_now_steps, .int v_now_seed]), (h2, xO 2 [.ref h3, .ref h4, .int v_now_laws_count]), (h3, xI X 6 v_now_laws_kinds), (h4, xI X 6 v_now_laws_tunes), (h5, xI X 5 u7.2), (h6, xO 4 [.ref h8, .ref h9, .ref h7]), (h7, xJ X 320 v_shelves_elements), (h8, xI X 8 v_shelves_held), (h9, xI X 8 v_shelves_sizes)]) (x_runV (q0 := 0) (rest := []) (As := [.int u1]) hC mw_100 md_X6_refuse (c_X6_refuse (X := X) hf7) hH [0, 5] rfl (by decide) rfl rfl rfl hl.1 rfl rfl (Nat.le_of_ble_eq_true rfl) dX6_fits_12 ⟨Nat.le_of_ble_eq_true rfl, Nat.le_of_ble_eq_true rfl⟩ ⟨rfl, rfl⟩ ⟨Nat.le_refl _, Nat.le_refl _⟩) hH [0, 5] rfl rfl rfl rfl rfl (fun hz7 H locs hH => ?_)
    exact x_retiw (φ := fun _ => True) (f := fun u : Int32 × (Nat → Int32) => u.1) (wf := fun u : Int32 × (Nat → Int32) => [(h0, xO 6 [.ref h1, .ref g0, .ref g1, .ref h6, .ref h5, .int v_isKept]), (h1, xO 0 [.ref h2, .ref g2, .int v_now_inForce, .int v_now_depth, .int v_now_miss, .long v_now_ring, .int v_now_steps, .int v_now_seed]), (h2, xO 2 [.ref h3, .ref h4, .int v_now_laws_count]), (h3, xI X 6 v_now_laws_kinds), (h4, xI X 6 v_now_laws_tunes), (h5, xI X 5 u.2), (h6, xO 4 [.ref h8, .ref h9, .ref h7]), (h7, xJ X 320 v_shelves_elements), (h8, xI X 8 v_shelves_held), (h9, xI X 8 v_shelves_sizes)]) hC hr hlk trivial hf hH rfl rfl dX6_fits_15
def f_X6_next (v_now_ring : Int64) (v_now_steps : Int32) (v_now_laws_count : Int32) (v_now_laws_kinds : (Nat → Int32)) (v_now_laws_tunes : (Nat → Int32)) (v_refusals : (Nat → Int32)) (p1 : Int32) (p2 : Int32) : Option (Int32 × (Nat → Int32)) :=
  (f_X6_isSetOf p1 v_now_laws_count).bind fun u1 =>
  if u1 = (nI 0) then
    (f_X6_refuse v_refusals (-2 : Int32)).bind fun u3 =>
    some (u3.1, u3.2)
  else
  (f_X6_isWithin p2 (nI 0) (nI 1)).bind fun u4 =>
  if u4 = (nI 0) then
    (f_X6_refuse v_refusals (-2 : Int32)).bind fun u15 =>
    some (u15.1, u15.2)
  else
  (f_X0_hasRoom v_now_steps).bind fun u6 =>
  if u6 = (nI 0) then
    (f_X6_refuse v_refusals (-6 : Int32)).bind fun u14 =>
    some (u14.1, u14.2)
  else
  (f_X0_partedBy v_now_ring v_now_steps v_now_laws_count v_now_laws_kinds v_now_laws_tunes p1 (nI 0)).bind fun u8 =>
  (f_X0_partedBy v_now_ring v_now_steps v_now_laws_count v_now_laws_kinds v_now_laws_tunes p1 (nI 1)).bind fun u9 =>
  if p2 = (nI 1) then
    some (xmax u8 u9, v_refusals)
  else
  if u9 ≤ u8 then
    (f_X6_asNumber (nI 0)).bind fun u12 =>
    some (u12, v_refusals)
  else
  (f_X6_asNumber (nI 1)).bind fun u13 =>
  some (u13, v_refusals)
set_option maxHeartbeats 4000000 in
set_option maxRecDepth 100000 in
theorem c_X6_next {l : Launch} {X : xG} {h0 h1 h2 h3 h4 h5 g0 g1 g2 g3 : Nat} {v_isKept : Int32} {v_now_inForce : Int32} {v_now_depth : Int32} {v_now_miss : Int32} {v_now_ring : Int64} {v_now_steps : Int32} {v_now_seed : Int32} {v_now_laws_count : Int32} {v_now_laws_kinds : (Nat → Int32)} {v_now_laws_tunes : (Nat → Int32)} {v_refusals : (Nat → Int32)} {p1 : Int32} {p2 : Int32} {u : Int32 × (Nat → Int32)} (hf : f_X6_next v_now_ring v_now_steps v_now_laws_count v_now_laws_kinds v_now_laws_tunes v_refusals p1 p2 = some u) : Met l yX6_next (xw yX6_next cX6_next 5 (some .int)) (xrm 4 102) (xPc [.ref h0, .int p1, .int p2] X [(h0, xO 6 [.ref h1, .ref g0, .ref g1, .ref g2, .ref h5, .int v_isKept]), (h1, xO 0 [.ref h2, .ref g3, .int v_now_inForce, .int v_now_depth, .int v_now_miss, .long v_now_ring, .int v_now_steps, .int v_now_seed]), (h2, xO 2 [.ref h3, .ref h4, .int v_now_laws_count]), (h3, xI X 6 v_now_laws_kinds), (h4, xI X 6 v_now_laws_tunes), (h5, xI X 5 v_refusals)]) (xQw True (.returned (some (.int u.1))) X [(h0, xO 6 [.ref h1, .ref g0, .ref g1, .ref g2, .ref h5, .int v_isKept]), (h1, xO 0 [.ref h2, .ref g3, .int v_now_inForce, .int v_now_depth, .int v_now_miss, .long v_now_ring, .int v_now_steps, .int v_now_seed]), (h2, xO 2 [.ref h3, .ref h4, .int v_now_laws_count]), (h3, xI X 6 v_now_laws_kinds), (h4, xI X 6 v_now_laws_tunes), (h5, xI X 5 u.2)] (xAs [(h0, xO 6 [.ref h1, .ref g0, .ref g1, .ref g2, .ref h5, .int v_isKept]), (h1, xO 0 [.ref h2, .ref g3, .int v_now_inForce, .int v_now_depth, .int v_now_miss, .long v_now_ring, .int v_now_steps, .int v_now_seed]), (h2, xO 2 [.ref h3, .ref h4, .int v_now_laws_count]), (h3, xI X 6 v_now_laws_kinds), (h4, xI X 6 v_now_laws_tunes), (h5, xI X 5 v_refusals)])) 0 0 (xAs [(h0, xO 6 [.ref h1, .ref g0, .ref g1, .ref g2, .ref h5, .int v_isKept]), (h1, xO 0 [.ref h2, .ref g3, .int v_now_inForce, .int v_now_depth, .int v_now_miss, .long v_now_ring, .int v_now_steps, .int v_now_seed]), (h2, xO 2 [.ref h3, .ref h4, .int v_now_laws_count]), (h3, xI X 6 v_now_laws_kinds), (h4, xI X 6 v_now_laws_tunes), (h5, xI X 5 v_refusals)]) := by
  refine xMetw (Qc := fun A => xQw True (.returned (some (.int u.1))) X [(h0, xO 6 [.ref h1, .ref g0, .ref g1, .ref g2, .ref h5, .int v_isKept]), (h1, xO 0 [.ref h2, .ref g3, .int v_now_inForce, .int v_now_depth, .int v_now_miss, .long v_now_ring, .int v_now_steps, .int v_now_seed]), (h2, xO 2 [.ref h3, .ref h4, .int v_now_laws_count]), (h3, xI X 6 v_now_laws_kinds), (h4, xI X 6 v_now_laws_tunes), (h5, xI X 5 u.2)] A) (n := 2) md_X6_next.1 (Nat.le_of_ble_eq_true rfl) ?_
  intro p e s m args below meth c ls A hC hr hlk hH hl
  have hl : lv_has ls 5 [(0, .ref h0), (1, .int p1), (2, .int p2)] := hl
  have hx := hC.1
  have hb := hC.2.1
  refine lv_iload_n hx hb dX6_next_0 rfl (lv_at hl 1 rfl) ?_
  refine lv_aload_n hx hb dX6_next_1 rfl (lv_at hl 0 rfl) ?_
  refine x_get hC fd_RX6_10 hH.1 0 rfl rfl dX6_next_2 ?_
  refine x_getN hC fd_RX6_81 hH.1 1 rfl rfl dX6_next_5 ?_
  refine x_getN hC fd_RX6_194 hH.1 2 rfl rfl dX6_next_8 ?_
  obtain ⟨u1, hf1, hf⟩ := xb hf
  refine x_ran (x_runS (rest := []) (As := [.int p1, .int v_now_laws_count]) hC mw_910 md_X6_isSetOf (c_X6_isSetOf (X := X) hf1) hH [] rfl (by decide) hl.1 rfl rfl (Nat.le_of_ble_eq_true rfl) dX6_next_11 ⟨Nat.le_of_ble_eq_true rfl, Nat.le_of_ble_eq_true rfl⟩ ⟨rfl, rfl⟩ ⟨Nat.le_refl _, Nat.le_refl _⟩) rfl (fun hz1 => ?_)
  refine lv_if_eq (tgt := 26) hx hb dX6_next_14 (by decide) (fun c2 => ?_) (fun c2 => ?_)
  · have hf := xt c2 hf
    refine lv_aload_n hx hb dX6_next_26 rfl (lv_at hl 0 rfl) ?_
    refine lv_bipush (v := (-2 : Int32)) hx hb dX6_next_27 (by decide) ?_
    obtain ⟨u3, hf3, hf⟩ := xb hf
    refine x_ranw (ws' := [(h0, xO 6 [.ref h1, .ref g0, .ref g1, .ref g2, .ref h5, .int v_isKept]), (h1, xO 0 [.ref h2, .ref g3, .int v_now_inForce, .int v_now_depth, .int v_now_miss, .long v_now_ring, .int v_now_steps, .int v_now_seed]), (h2, xO 2 [.ref h3, .ref h4, .int v_now_laws_count]), (h3, xI X 6 v_now_laws_kinds), (h4, xI X 6 v_now_laws_tunes), (h5, xI X 5 u3.2)]) (x_runV (q0 := 0) (rest := []) (As := [.int (-2 : Int32)]) hC mw_100 md_X6_refuse (c_X6_refuse (X := X) hf3) hH [0, 5] rfl (by decide) rfl rfl rfl hl.1 rfl rfl (Nat.le_of_ble_eq_true rfl) dX6_next_29 ⟨Nat.le_of_ble_eq_true rfl, Nat.le_of_ble_eq_true rfl⟩ ⟨rfl, rfl⟩ ⟨Nat.le_refl _, Nat.le_refl _⟩) hH [0, 5] rfl rfl rfl rfl rfl (fun hz3 H locs hH => ?_)
    exact x_retiw (φ := fun _ => True) (f := fun u : Int32 × (Nat → Int32) => u.1) (wf := fun u : Int32 × (Nat → Int32) => [(h0, xO 6 [.ref h1, .ref g0, .ref g1, .ref g2, .ref h5, .int v_isKept]), (h1, xO 0 [.ref h2, .ref g3, .int v_now_inForce, .int v_now_depth, .int v_now_miss, .long v_now_ring, .int v_now_steps, .int v_now_seed]), (h2, xO 2 [.ref h3, .ref h4, .int v_now_laws_count]), (h3, xI X 6 v_now_laws_kinds), (h4, xI X 6 v_now_laws_tunes), (h5, xI X 5 u.2)]) hC hr hlk trivial hf hH rfl rfl dX6_next_32
  · have hf := xe c2 hf
    refine lv_iload_n hx hb dX6_next_17 rfl (lv_at hl 2 rfl) ?_
    refine lv_iconst (v := (nI 0)) hx hb dX6_next_18 (by decide) ?_
    refine lv_iconst (v := (nI 1)) hx hb dX6_next_19 (by decide) ?_
    obtain ⟨u4, hf4, hf⟩ := xb hf
    refine x_ran (x_runS (rest := []) (As := [.int p2, .int (nI 0), .int (nI 1)]) hC mw_99 md_X6_isWithin (c_X6_isWithin (X := X) hf4) hH [] rfl (by decide) hl.1 rfl rfl (Nat.le_of_ble_eq_true rfl) dX6_next_20 ⟨Nat.le_of_ble_eq_true rfl, Nat.le_of_ble_eq_true rfl⟩ ⟨rfl, rfl⟩ ⟨Nat.le_refl _, Nat.le_refl _⟩) rfl (fun hz4 => ?_)
    refine lv_if_ne (tgt := 33) hx hb dX6_next_23 (by decide) (fun c5 => ?_) (fun c5 => ?_)
    · have hf := xe c5 hf
      refine lv_aload_n hx hb dX6_next_33 rfl (lv_at hl 0 rfl) ?_
      refine x_get hC fd_RX6_10 hH.1 0 rfl rfl dX6_next_34 ?_
      obtain ⟨u6, hf6, hf⟩ := xb hf
      refine x_ran (x_runV (q0 := 0) (rest := []) (As := []) hC mw_1046 md_X0_hasRoom (c_X0_hasRoom (X := X) hf6) hH [1] rfl (by decide) rfl rfl rfl hl.1 rfl rfl (Nat.le_of_ble_eq_true rfl) dX6_next_37 ⟨Nat.le_of_ble_eq_true rfl, Nat.le_of_ble_eq_true rfl⟩ ⟨rfl, rfl⟩ ⟨Nat.le_refl _, Nat.le_refl _⟩) rfl (fun hz6 => ?_)
      refine lv_if_ne (tgt := 50) hx hb dX6_next_40 (by decide) (fun c7 => ?_) (fun c7 => ?_)
      · have hf := xe c7 hf
        refine lv_aload_n hx hb dX6_next_50 rfl (lv_at hl 0 rfl) ?_
        refine x_get hC fd_RX6_10 hH.1 0 rfl rfl dX6_next_51 ?_
        refine lv_iload_n hx hb dX6_next_54 rfl (lv_at hl 1 rfl) ?_
        refine lv_iconst (v := (nI 0)) hx hb dX6_next_55 (by decide) ?_
        obtain ⟨u8, hf8, hf⟩ := xb hf
        refine x_ran (x_runV (q0 := 0) (rest := []) (As := [.int p1, .int (nI 0)]) hC mw_1047 md_X0_partedBy (c_X0_partedBy (X := X) hf8) hH [1, 2, 3, 4] rfl (by decide) rfl rfl rfl hl.1 rfl rfl (Nat.le_of_ble_eq_true rfl) dX6_next_56 ⟨Nat.le_of_ble_eq_true rfl, Nat.le_of_ble_eq_true rfl⟩ ⟨rfl, rfl⟩ ⟨Nat.le_refl _, Nat.le_refl _⟩) rfl (fun hz8 => ?_)
        refine lv_istore_n (lv' := [(3, .int u8), (0, .ref h0), (1, .int p1), (2, .int p2)]) hx hb dX6_next_59 rfl hl (by decide) rfl (fun ls hl => ?_)
        refine lv_aload_n hx hb dX6_next_60 rfl (lv_at hl 1 rfl) ?_
        refine x_get hC fd_RX6_10 hH.1 0 rfl rfl dX6_next_61 ?_
        refine lv_iload_n hx hb dX6_next_64 rfl (lv_at hl 2 rfl) ?_
        refine lv_iconst (v := (nI 1)) hx hb dX6_next_65 (by decide) ?_
        obtain ⟨u9, hf9, hf⟩ := xb hf
        refine x_ran (x_runV (q0 := 0) (rest := []) (As := [.int p1, .int (nI 1)]) hC mw_1047 md_X0_partedBy (c_X0_partedBy (X := X) hf9) hH [1, 2, 3, 4] rfl (by decide) rfl rfl rfl hl.1 rfl rfl (Nat.le_of_ble_eq_true rfl) dX6_next_66 ⟨Nat.le_of_ble_eq_true rfl, Nat.le_of_ble_eq_true rfl⟩ ⟨rfl, rfl⟩ ⟨Nat.le_refl _, Nat.le_refl _⟩) rfl (fun hz9 => ?_)
        refine lv_istore (lv' := [(4, .int u9), (3, .int u8), (0, .ref h0), (1, .int p1), (2, .int p2)]) hx hb dX6_next_69 hl (by decide) rfl (fun ls hl => ?_)
        refine lv_iload_n hx hb dX6_next_71 rfl (lv_at hl 4 rfl) ?_
        refine lv_iconst (v := (nI 1)) hx hb dX6_next_72 (by decide) ?_
        refine lv_icmp_ne (tgt := 83) hx hb dX6_next_73 (by decide) (fun c10 => ?_) (fun c10 => ?_)
        · have hf := xe c10 hf
          refine lv_iload hx hb dX6_next_83 (lv_at hl 0 rfl) ?_
          refine lv_iload_n hx hb dX6_next_85 rfl (lv_at hl 1 rfl) ?_
          refine lv_icmp_le (tgt := 93) hx hb dX6_next_86 (by decide) (fun c11 => ?_) (fun c11 => ?_)
          · have hf := xt c11 hf
            refine lv_iconst (v := (nI 0)) hx hb dX6_next_93 (by decide) ?_
            obtain ⟨u12, hf12, hf⟩ := xb hf
            refine x_ran (x_runS (rest := []) (As := [.int (nI 0)]) hC mw_678 md_X6_asNumber (c_X6_asNumber (X := X) hf12) hH [] rfl (by decide) hl.1 rfl rfl (Nat.le_of_ble_eq_true rfl) dX6_next_94 ⟨Nat.le_of_ble_eq_true rfl, Nat.le_of_ble_eq_true rfl⟩ ⟨rfl, rfl⟩ ⟨Nat.le_refl _, Nat.le_refl _⟩) rfl (fun hz12 => ?_)
            exact x_retiw (φ := fun _ => True) (f := fun u : Int32 × (Nat → Int32) => u.1) (wf := fun u : Int32 × (Nat → Int32) => [(h0, xO 6 [.ref h1, .ref g0, .ref g1, .ref g2, .ref h5, .int v_isKept]), (h1, xO 0 [.ref h2, .ref g3, .int v_now_inForce, .int v_now_depth, .int v_now_miss, .long v_now_ring, .int v_now_steps, .int v_now_seed]), (h2, xO 2 [.ref h3, .ref h4, .int v_now_laws_count]), (h3, xI X 6 v_now_laws_kinds), (h4, xI X 6 v_now_laws_tunes), (h5, xI X 5 u.2)]) hC hr hlk trivial hf hH rfl rfl dX6_next_97
          · have hf := xe c11 hf
            refine lv_iconst (v := (nI 1)) hx hb dX6_next_89 (by decide) ?_
            refine lv_goto (tgt := 94) hx hb dX6_next_90 (by decide) ?_
            obtain ⟨u13, hf13, hf⟩ := xb hf
            refine x_ran (x_runS (rest := []) (As := [.int (nI 1)]) hC mw_678 md_X6_asNumber (c_X6_asNumber (X := X) hf13) hH [] rfl (by decide) hl.1 rfl rfl (Nat.le_of_ble_eq_true rfl) dX6_next_94 ⟨Nat.le_of_ble_eq_true rfl, Nat.le_of_ble_eq_true rfl⟩ ⟨rfl, rfl⟩ ⟨Nat.le_refl _, Nat.le_refl _⟩) rfl (fun hz13 => ?_)
            exact x_retiw (φ := fun _ => True) (f := fun u : Int32 × (Nat → Int32) => u.1) (wf := fun u : Int32 × (Nat → Int32) => [(h0, xO 6 [.ref h1, .ref g0, .ref g1, .ref g2, .ref h5, .int v_isKept]), (h1, xO 0 [.ref h2, .ref g3, .int v_now_inForce, .int v_now_depth, .int v_now_miss, .long v_now_ring, .int v_now_steps, .int v_now_seed]), (h2, xO 2 [.ref h3, .ref h4, .int v_now_laws_count]), (h3, xI X 6 v_now_laws_kinds), (h4, xI X 6 v_now_laws_tunes), (h5, xI X 5 u.2)]) hC hr hlk trivial hf hH rfl rfl dX6_next_97
        · have hf := xt c10 hf
          refine lv_iload_n hx hb dX6_next_76 rfl (lv_at hl 1 rfl) ?_
          refine lv_iload hx hb dX6_next_77 (lv_at hl 0 rfl) ?_
          refine x_max hC hl.1 mw_772 mw_773 mw_477 mw_774 (Nat.le_of_ble_eq_true rfl) (Nat.le_of_ble_eq_true rfl) (Nat.le_refl _) (Nat.le_refl _) dX6_next_79 ?_
          exact x_retiw (φ := fun _ => True) (f := fun u : Int32 × (Nat → Int32) => u.1) (wf := fun u : Int32 × (Nat → Int32) => [(h0, xO 6 [.ref h1, .ref g0, .ref g1, .ref g2, .ref h5, .int v_isKept]), (h1, xO 0 [.ref h2, .ref g3, .int v_now_inForce, .int v_now_depth, .int v_now_miss, .long v_now_ring, .int v_now_steps, .int v_now_seed]), (h2, xO 2 [.ref h3, .ref h4, .int v_now_laws_count]), (h3, xI X 6 v_now_laws_kinds), (h4, xI X 6 v_now_laws_tunes), (h5, xI X 5 u.2)]) hC hr hlk trivial hf hH rfl rfl dX6_next_82
      · have hf := xt c7 hf
        refine lv_aload_n hx hb dX6_next_43 rfl (lv_at hl 0 rfl) ?_
        refine lv_bipush (v := (-6 : Int32)) hx hb dX6_next_44 (by decide) ?_
        obtain ⟨u14, hf14, hf⟩ := xb hf
        refine x_ranw (ws' := [(h0, xO 6 [.ref h1, .ref g0, .ref g1, .ref g2, .ref h5, .int v_isKept]), (h1, xO 0 [.ref h2, .ref g3, .int v_now_inForce, .int v_now_depth, .int v_now_miss, .long v_now_ring, .int v_now_steps, .int v_now_seed]), (h2, xO 2 [.ref h3, .ref h4, .int v_now_laws_count]), (h3, xI X 6 v_now_laws_kinds), (h4, xI X 6 v_now_laws_tunes), (h5, xI X 5 u14.2)]) (x_runV (q0 := 0) (rest := []) (As := [.int (-6 : Int32)]) hC mw_100 md_X6_refuse (c_X6_refuse (X := X) hf14) hH [0, 5] rfl (by decide) rfl rfl rfl hl.1 rfl rfl (Nat.le_of_ble_eq_true rfl) dX6_next_46 ⟨Nat.le_of_ble_eq_true rfl, Nat.le_of_ble_eq_true rfl⟩ ⟨rfl, rfl⟩ ⟨Nat.le_refl _, Nat.le_refl _⟩) hH [0, 5] rfl rfl rfl rfl rfl (fun hz14 H locs hH => ?_)
        exact x_retiw (φ := fun _ => True) (f := fun u : Int32 × (Nat → Int32) => u.1) (wf := fun u : Int32 × (Nat → Int32) => [(h0, xO 6 [.ref h1, .ref g0, .ref g1, .ref g2, .ref h5, .int v_isKept]), (h1, xO 0 [.ref h2, .ref g3, .int v_now_inForce, .int v_now_depth, .int v_now_miss, .long v_now_ring, .int v_now_steps, .int v_now_seed]), (h2, xO 2 [.ref h3, .ref h4, .int v_now_laws_count]), (h3, xI X 6 v_now_laws_kinds), (h4, xI X 6 v_now_laws_tunes), (h5, xI X 5 u.2)]) hC hr hlk trivial hf hH rfl rfl dX6_next_49
    · have hf := xt c5 hf
      refine lv_aload_n hx hb dX6_next_26 rfl (lv_at hl 0 rfl) ?_
      refine lv_bipush (v := (-2 : Int32)) hx hb dX6_next_27 (by decide) ?_
      obtain ⟨u15, hf15, hf⟩ := xb hf
      refine x_ranw (ws' := [(h0, xO 6 [.ref h1, .ref g0, .ref g1, .ref g2, .ref h5, .int v_isKept]), (h1, xO 0 [.ref h2, .ref g3, .int v_now_inForce, .int v_now_depth, .int v_now_miss, .long v_now_ring, .int v_now_steps, .int v_now_seed]), (h2, xO 2 [.ref h3, .ref h4, .int v_now_laws_count]), (h3, xI X 6 v_now_laws_kinds), (h4, xI X 6 v_now_laws_tunes), (h5, xI X 5 u15.2)]) (x_runV (q0 := 0) (rest := []) (As := [.int (-2 : Int32)]) hC mw_100 md_X6_refuse (c_X6_refuse (X := X) hf15) hH [0, 5] rfl (by decide) rfl rfl rfl hl.1 rfl rfl (Nat.le_of_ble_eq_true rfl) dX6_next_29 ⟨Nat.le_of_ble_eq_true rfl, Nat.le_of_ble_eq_true rfl⟩ ⟨rfl, rfl⟩ ⟨Nat.le_refl _, Nat.le_refl _⟩) hH [0, 5] rfl rfl rfl rfl rfl (fun hz15 H locs hH => ?_)
      exact x_retiw (φ := fun _ => True) (f := fun u : Int32 × (Nat → Int32) => u.1) (wf := fun u : Int32 × (Nat → Int32) => [(h0, xO 6 [.ref h1, .ref g0, .ref g1, .ref g2, .ref h5, .int v_isKept]), (h1, xO 0 [.ref h2, .ref g3, .int v_now_inForce, .int v_now_depth, .int v_now_miss, .long v_now_ring, .int v_now_steps, .int v_now_seed]), (h2, xO 2 [.ref h3, .ref h4, .int v_now_laws_count]), (h3, xI X 6 v_now_laws_kinds), (h4, xI X 6 v_now_laws_tunes), (h5, xI X 5 u.2)]) hC hr hlk trivial hf hH rfl rfl dX6_next_32
def f_X6_loudest (v_now_inForce : Int32) (v_now_depth : Int32) (v_now_laws_count : Int32) (v_now_laws_kinds : (Nat → Int32)) (v_now_laws_tunes : (Nat → Int32)) (v_refusals : (Nat → Int32)) (p1 : Int32) (p2 : Int32) : Option (Int32 × (Nat → Int32)) :=
  (f_X6_isWithin p1 (nI 1) (nI 12)).bind fun u1 =>
  if u1 = (nI 0) then
    (f_X6_refuse v_refusals (-2 : Int32)).bind fun u3 =>
    some (u3.1, u3.2)
  else
  (f_X6_isWithin p2 (nI 0) p1).bind fun u4 =>
  if u4 = (nI 0) then
    (f_X6_refuse v_refusals (-2 : Int32)).bind fun u9 =>
    some (u9.1, u9.2)
  else
  if v_now_laws_count = (nI 0) then
    (f_X6_refuse v_refusals (-5 : Int32)).bind fun u8 =>
    some (u8.1, u8.2)
  else
  (f_X0_loudestRing v_now_inForce v_now_depth v_now_laws_count v_now_laws_kinds v_now_laws_tunes p1 p2).bind fun u7 =>
  some (u7, v_refusals)
set_option maxHeartbeats 4000000 in
set_option maxRecDepth 100000 in
theorem c_X6_loudest {l : Launch} {X : xG} {h0 h1 h2 h3 h4 h5 g0 g1 g2 g3 : Nat} {v_isKept : Int32} {v_now_inForce : Int32} {v_now_depth : Int32} {v_now_miss : Int32} {v_now_ring : Int64} {v_now_steps : Int32} {v_now_seed : Int32} {v_now_laws_count : Int32} {v_now_laws_kinds : (Nat → Int32)} {v_now_laws_tunes : (Nat → Int32)} {v_refusals : (Nat → Int32)} {p1 : Int32} {p2 : Int32} {u : Int32 × (Nat → Int32)} (hf : f_X6_loudest v_now_inForce v_now_depth v_now_laws_count v_now_laws_kinds v_now_laws_tunes v_refusals p1 p2 = some u) : Met l yX6_loudest (xw yX6_loudest cX6_loudest 3 (some .int)) (xrm 6 154) (xPc [.ref h0, .int p1, .int p2] X [(h0, xO 6 [.ref h1, .ref g0, .ref g1, .ref g2, .ref h5, .int v_isKept]), (h1, xO 0 [.ref h2, .ref g3, .int v_now_inForce, .int v_now_depth, .int v_now_miss, .long v_now_ring, .int v_now_steps, .int v_now_seed]), (h2, xO 2 [.ref h3, .ref h4, .int v_now_laws_count]), (h3, xI X 6 v_now_laws_kinds), (h4, xI X 6 v_now_laws_tunes), (h5, xI X 5 v_refusals)]) (xQw True (.returned (some (.int u.1))) X [(h0, xO 6 [.ref h1, .ref g0, .ref g1, .ref g2, .ref h5, .int v_isKept]), (h1, xO 0 [.ref h2, .ref g3, .int v_now_inForce, .int v_now_depth, .int v_now_miss, .long v_now_ring, .int v_now_steps, .int v_now_seed]), (h2, xO 2 [.ref h3, .ref h4, .int v_now_laws_count]), (h3, xI X 6 v_now_laws_kinds), (h4, xI X 6 v_now_laws_tunes), (h5, xI X 5 u.2)] (xAs [(h0, xO 6 [.ref h1, .ref g0, .ref g1, .ref g2, .ref h5, .int v_isKept]), (h1, xO 0 [.ref h2, .ref g3, .int v_now_inForce, .int v_now_depth, .int v_now_miss, .long v_now_ring, .int v_now_steps, .int v_now_seed]), (h2, xO 2 [.ref h3, .ref h4, .int v_now_laws_count]), (h3, xI X 6 v_now_laws_kinds), (h4, xI X 6 v_now_laws_tunes), (h5, xI X 5 v_refusals)])) 0 0 (xAs [(h0, xO 6 [.ref h1, .ref g0, .ref g1, .ref g2, .ref h5, .int v_isKept]), (h1, xO 0 [.ref h2, .ref g3, .int v_now_inForce, .int v_now_depth, .int v_now_miss, .long v_now_ring, .int v_now_steps, .int v_now_seed]), (h2, xO 2 [.ref h3, .ref h4, .int v_now_laws_count]), (h3, xI X 6 v_now_laws_kinds), (h4, xI X 6 v_now_laws_tunes), (h5, xI X 5 v_refusals)]) := by
  refine xMetw (Qc := fun A => xQw True (.returned (some (.int u.1))) X [(h0, xO 6 [.ref h1, .ref g0, .ref g1, .ref g2, .ref h5, .int v_isKept]), (h1, xO 0 [.ref h2, .ref g3, .int v_now_inForce, .int v_now_depth, .int v_now_miss, .long v_now_ring, .int v_now_steps, .int v_now_seed]), (h2, xO 2 [.ref h3, .ref h4, .int v_now_laws_count]), (h3, xI X 6 v_now_laws_kinds), (h4, xI X 6 v_now_laws_tunes), (h5, xI X 5 u.2)] A) (n := 2) md_X6_loudest.1 (Nat.le_of_ble_eq_true rfl) ?_
  intro p e s m args below meth c ls A hC hr hlk hH hl
  have hl : lv_has ls 3 [(0, .ref h0), (1, .int p1), (2, .int p2)] := hl
  have hx := hC.1
  have hb := hC.2.1
  refine lv_iload_n hx hb dX6_loudest_0 rfl (lv_at hl 1 rfl) ?_
  refine lv_iconst (v := (nI 1)) hx hb dX6_loudest_1 (by decide) ?_
  refine lv_bipush (v := (nI 12)) hx hb dX6_loudest_2 (by decide) ?_
  obtain ⟨u1, hf1, hf⟩ := xb hf
  refine x_ran (x_runS (rest := []) (As := [.int p1, .int (nI 1), .int (nI 12)]) hC mw_99 md_X6_isWithin (c_X6_isWithin (X := X) hf1) hH [] rfl (by decide) hl.1 rfl rfl (Nat.le_of_ble_eq_true rfl) dX6_loudest_4 ⟨Nat.le_of_ble_eq_true rfl, Nat.le_of_ble_eq_true rfl⟩ ⟨rfl, rfl⟩ ⟨Nat.le_refl _, Nat.le_refl _⟩) rfl (fun hz1 => ?_)
  refine lv_if_eq (tgt := 19) hx hb dX6_loudest_7 (by decide) (fun c2 => ?_) (fun c2 => ?_)
  · have hf := xt c2 hf
    refine lv_aload_n hx hb dX6_loudest_19 rfl (lv_at hl 0 rfl) ?_
    refine lv_bipush (v := (-2 : Int32)) hx hb dX6_loudest_20 (by decide) ?_
    obtain ⟨u3, hf3, hf⟩ := xb hf
    refine x_ranw (ws' := [(h0, xO 6 [.ref h1, .ref g0, .ref g1, .ref g2, .ref h5, .int v_isKept]), (h1, xO 0 [.ref h2, .ref g3, .int v_now_inForce, .int v_now_depth, .int v_now_miss, .long v_now_ring, .int v_now_steps, .int v_now_seed]), (h2, xO 2 [.ref h3, .ref h4, .int v_now_laws_count]), (h3, xI X 6 v_now_laws_kinds), (h4, xI X 6 v_now_laws_tunes), (h5, xI X 5 u3.2)]) (x_runV (q0 := 0) (rest := []) (As := [.int (-2 : Int32)]) hC mw_100 md_X6_refuse (c_X6_refuse (X := X) hf3) hH [0, 5] rfl (by decide) rfl rfl rfl hl.1 rfl rfl (Nat.le_of_ble_eq_true rfl) dX6_loudest_22 ⟨Nat.le_of_ble_eq_true rfl, Nat.le_of_ble_eq_true rfl⟩ ⟨rfl, rfl⟩ ⟨Nat.le_refl _, Nat.le_refl _⟩) hH [0, 5] rfl rfl rfl rfl rfl (fun hz3 H locs hH => ?_)
    exact x_retiw (φ := fun _ => True) (f := fun u : Int32 × (Nat → Int32) => u.1) (wf := fun u : Int32 × (Nat → Int32) => [(h0, xO 6 [.ref h1, .ref g0, .ref g1, .ref g2, .ref h5, .int v_isKept]), (h1, xO 0 [.ref h2, .ref g3, .int v_now_inForce, .int v_now_depth, .int v_now_miss, .long v_now_ring, .int v_now_steps, .int v_now_seed]), (h2, xO 2 [.ref h3, .ref h4, .int v_now_laws_count]), (h3, xI X 6 v_now_laws_kinds), (h4, xI X 6 v_now_laws_tunes), (h5, xI X 5 u.2)]) hC hr hlk trivial hf hH rfl rfl dX6_loudest_25
  · have hf := xe c2 hf
    refine lv_iload_n hx hb dX6_loudest_10 rfl (lv_at hl 2 rfl) ?_
    refine lv_iconst (v := (nI 0)) hx hb dX6_loudest_11 (by decide) ?_
    refine lv_iload_n hx hb dX6_loudest_12 rfl (lv_at hl 1 rfl) ?_
    obtain ⟨u4, hf4, hf⟩ := xb hf
    refine x_ran (x_runS (rest := []) (As := [.int p2, .int (nI 0), .int p1]) hC mw_99 md_X6_isWithin (c_X6_isWithin (X := X) hf4) hH [] rfl (by decide) hl.1 rfl rfl (Nat.le_of_ble_eq_true rfl) dX6_loudest_13 ⟨Nat.le_of_ble_eq_true rfl, Nat.le_of_ble_eq_true rfl⟩ ⟨rfl, rfl⟩ ⟨Nat.le_refl _, Nat.le_refl _⟩) rfl (fun hz4 => ?_)
    refine lv_if_ne (tgt := 26) hx hb dX6_loudest_16 (by decide) (fun c5 => ?_) (fun c5 => ?_)
    · have hf := xe c5 hf
      refine lv_aload_n hx hb dX6_loudest_26 rfl (lv_at hl 0 rfl) ?_
      refine x_get hC fd_RX6_10 hH.1 0 rfl rfl dX6_loudest_27 ?_
      refine x_getN hC fd_RX6_81 hH.1 1 rfl rfl dX6_loudest_30 ?_
      refine x_getN hC fd_RX6_194 hH.1 2 rfl rfl dX6_loudest_33 ?_
      refine lv_if_ne (tgt := 46) hx hb dX6_loudest_36 (by decide) (fun c6 => ?_) (fun c6 => ?_)
      · have hf := xe c6 hf
        refine lv_aload_n hx hb dX6_loudest_46 rfl (lv_at hl 0 rfl) ?_
        refine x_get hC fd_RX6_10 hH.1 0 rfl rfl dX6_loudest_47 ?_
        refine lv_iload_n hx hb dX6_loudest_50 rfl (lv_at hl 1 rfl) ?_
        refine lv_iload_n hx hb dX6_loudest_51 rfl (lv_at hl 2 rfl) ?_
        obtain ⟨u7, hf7, hf⟩ := xb hf
        refine x_ran (x_runV (q0 := 0) (rest := []) (As := [.int p1, .int p2]) hC mw_1065 md_X0_loudestRing (c_X0_loudestRing (X := X) hf7) hH [1, 2, 3, 4] rfl (by decide) rfl rfl rfl hl.1 rfl rfl (Nat.le_of_ble_eq_true rfl) dX6_loudest_52 ⟨Nat.le_of_ble_eq_true rfl, Nat.le_of_ble_eq_true rfl⟩ ⟨rfl, rfl⟩ ⟨Nat.le_refl _, Nat.le_refl _⟩) rfl (fun hz7 => ?_)
        exact x_retiw (φ := fun _ => True) (f := fun u : Int32 × (Nat → Int32) => u.1) (wf := fun u : Int32 × (Nat → Int32) => [(h0, xO 6 [.ref h1, .ref g0, .ref g1, .ref g2, .ref h5, .int v_isKept]), (h1, xO 0 [.ref h2, .ref g3, .int v_now_inForce, .int v_now_depth, .int v_now_miss, .long v_now_ring, .int v_now_steps, .int v_now_seed]), (h2, xO 2 [.ref h3, .ref h4, .int v_now_laws_count]), (h3, xI X 6 v_now_laws_kinds), (h4, xI X 6 v_now_laws_tunes), (h5, xI X 5 u.2)]) hC hr hlk trivial hf hH rfl rfl dX6_loudest_55
      · have hf := xt c6 hf
        refine lv_aload_n hx hb dX6_loudest_39 rfl (lv_at hl 0 rfl) ?_
        refine lv_bipush (v := (-5 : Int32)) hx hb dX6_loudest_40 (by decide) ?_
        obtain ⟨u8, hf8, hf⟩ := xb hf
        refine x_ranw (ws' := [(h0, xO 6 [.ref h1, .ref g0, .ref g1, .ref g2, .ref h5, .int v_isKept]), (h1, xO 0 [.ref h2, .ref g3, .int v_now_inForce, .int v_now_depth, .int v_now_miss, .long v_now_ring, .int v_now_steps, .int v_now_seed]), (h2, xO 2 [.ref h3, .ref h4, .int v_now_laws_count]), (h3, xI X 6 v_now_laws_kinds), (h4, xI X 6 v_now_laws_tunes), (h5, xI X 5 u8.2)]) (x_runV (q0 := 0) (rest := []) (As := [.int (-5 : Int32)]) hC mw_100 md_X6_refuse (c_X6_refuse (X := X) hf8) hH [0, 5] rfl (by decide) rfl rfl rfl hl.1 rfl rfl (Nat.le_of_ble_eq_true rfl) dX6_loudest_42 ⟨Nat.le_of_ble_eq_true rfl, Nat.le_of_ble_eq_true rfl⟩ ⟨rfl, rfl⟩ ⟨Nat.le_refl _, Nat.le_refl _⟩) hH [0, 5] rfl rfl rfl rfl rfl (fun hz8 H locs hH => ?_)
        exact x_retiw (φ := fun _ => True) (f := fun u : Int32 × (Nat → Int32) => u.1) (wf := fun u : Int32 × (Nat → Int32) => [(h0, xO 6 [.ref h1, .ref g0, .ref g1, .ref g2, .ref h5, .int v_isKept]), (h1, xO 0 [.ref h2, .ref g3, .int v_now_inForce, .int v_now_depth, .int v_now_miss, .long v_now_ring, .int v_now_steps, .int v_now_seed]), (h2, xO 2 [.ref h3, .ref h4, .int v_now_laws_count]), (h3, xI X 6 v_now_laws_kinds), (h4, xI X 6 v_now_laws_tunes), (h5, xI X 5 u.2)]) hC hr hlk trivial hf hH rfl rfl dX6_loudest_45
    · have hf := xt c5 hf
      refine lv_aload_n hx hb dX6_loudest_19 rfl (lv_at hl 0 rfl) ?_
      refine lv_bipush (v := (-2 : Int32)) hx hb dX6_loudest_20 (by decide) ?_
      obtain ⟨u9, hf9, hf⟩ := xb hf
      refine x_ranw (ws' := [(h0, xO 6 [.ref h1, .ref g0, .ref g1, .ref g2, .ref h5, .int v_isKept]), (h1, xO 0 [.ref h2, .ref g3, .int v_now_inForce, .int v_now_depth, .int v_now_miss, .long v_now_ring, .int v_now_steps, .int v_now_seed]), (h2, xO 2 [.ref h3, .ref h4, .int v_now_laws_count]), (h3, xI X 6 v_now_laws_kinds), (h4, xI X 6 v_now_laws_tunes), (h5, xI X 5 u9.2)]) (x_runV (q0 := 0) (rest := []) (As := [.int (-2 : Int32)]) hC mw_100 md_X6_refuse (c_X6_refuse (X := X) hf9) hH [0, 5] rfl (by decide) rfl rfl rfl hl.1 rfl rfl (Nat.le_of_ble_eq_true rfl) dX6_loudest_22 ⟨Nat.le_of_ble_eq_true rfl, Nat.le_of_ble_eq_true rfl⟩ ⟨rfl, rfl⟩ ⟨Nat.le_refl _, Nat.le_refl _⟩) hH [0, 5] rfl rfl rfl rfl rfl (fun hz9 H locs hH => ?_)
      exact x_retiw (φ := fun _ => True) (f := fun u : Int32 × (Nat → Int32) => u.1) (wf := fun u : Int32 × (Nat → Int32) => [(h0, xO 6 [.ref h1, .ref g0, .ref g1, .ref g2, .ref h5, .int v_isKept]), (h1, xO 0 [.ref h2, .ref g3, .int v_now_inForce, .int v_now_depth, .int v_now_miss, .long v_now_ring, .int v_now_steps, .int v_now_seed]), (h2, xO 2 [.ref h3, .ref h4, .int v_now_laws_count]), (h3, xI X 6 v_now_laws_kinds), (h4, xI X 6 v_now_laws_tunes), (h5, xI X 5 u.2)]) hC hr hlk trivial hf hH rfl rfl dX6_loudest_25
def f_X6_plan (v_now_inForce : Int32) (v_now_laws_count : Int32) (v_now_laws_kinds : (Nat → Int32)) (v_now_laws_tunes : (Nat → Int32)) (v_refusals : (Nat → Int32)) (p1 : Int32) (p2 : Int32) : Option (Int32 × (Nat → Int32)) :=
  (f_X6_areTriedSteps p1 p2).bind fun u1 =>
  if u1 = (nI 0) then
    (f_X6_refuse v_refusals (-2 : Int32)).bind fun u6 =>
    some (u6.1, u6.2)
  else
  if v_now_laws_count = (nI 0) then
    (f_X6_refuse v_refusals (-5 : Int32)).bind fun u5 =>
    some (u5.1, u5.2)
  else
  (f_X2_leastRingStruckAt v_now_laws_count v_now_laws_kinds v_now_laws_tunes v_now_inForce p1 p2).bind fun u4 =>
  some (u4, v_refusals)
set_option maxHeartbeats 4000000 in
set_option maxRecDepth 100000 in
theorem c_X6_plan {l : Launch} {X : xG} {h0 h1 h2 h3 h4 h5 g0 g1 g2 g3 : Nat} {v_isKept : Int32} {v_now_inForce : Int32} {v_now_depth : Int32} {v_now_miss : Int32} {v_now_ring : Int64} {v_now_steps : Int32} {v_now_seed : Int32} {v_now_laws_count : Int32} {v_now_laws_kinds : (Nat → Int32)} {v_now_laws_tunes : (Nat → Int32)} {v_refusals : (Nat → Int32)} {p1 : Int32} {p2 : Int32} {u : Int32 × (Nat → Int32)} (hf : f_X6_plan v_now_inForce v_now_laws_count v_now_laws_kinds v_now_laws_tunes v_refusals p1 p2 = some u) : Met l yX6_plan (xw yX6_plan cX6_plan 3 (some .int)) (xrm 5 127) (xPc [.ref h0, .int p1, .int p2] X [(h0, xO 6 [.ref h1, .ref g0, .ref g1, .ref g2, .ref h5, .int v_isKept]), (h1, xO 0 [.ref h2, .ref g3, .int v_now_inForce, .int v_now_depth, .int v_now_miss, .long v_now_ring, .int v_now_steps, .int v_now_seed]), (h2, xO 2 [.ref h3, .ref h4, .int v_now_laws_count]), (h3, xI X 6 v_now_laws_kinds), (h4, xI X 6 v_now_laws_tunes), (h5, xI X 5 v_refusals)]) (xQw True (.returned (some (.int u.1))) X [(h0, xO 6 [.ref h1, .ref g0, .ref g1, .ref g2, .ref h5, .int v_isKept]), (h1, xO 0 [.ref h2, .ref g3, .int v_now_inForce, .int v_now_depth, .int v_now_miss, .long v_now_ring, .int v_now_steps, .int v_now_seed]), (h2, xO 2 [.ref h3, .ref h4, .int v_now_laws_count]), (h3, xI X 6 v_now_laws_kinds), (h4, xI X 6 v_now_laws_tunes), (h5, xI X 5 u.2)] (xAs [(h0, xO 6 [.ref h1, .ref g0, .ref g1, .ref g2, .ref h5, .int v_isKept]), (h1, xO 0 [.ref h2, .ref g3, .int v_now_inForce, .int v_now_depth, .int v_now_miss, .long v_now_ring, .int v_now_steps, .int v_now_seed]), (h2, xO 2 [.ref h3, .ref h4, .int v_now_laws_count]), (h3, xI X 6 v_now_laws_kinds), (h4, xI X 6 v_now_laws_tunes), (h5, xI X 5 v_refusals)])) 0 0 (xAs [(h0, xO 6 [.ref h1, .ref g0, .ref g1, .ref g2, .ref h5, .int v_isKept]), (h1, xO 0 [.ref h2, .ref g3, .int v_now_inForce, .int v_now_depth, .int v_now_miss, .long v_now_ring, .int v_now_steps, .int v_now_seed]), (h2, xO 2 [.ref h3, .ref h4, .int v_now_laws_count]), (h3, xI X 6 v_now_laws_kinds), (h4, xI X 6 v_now_laws_tunes), (h5, xI X 5 v_refusals)]) := by
  refine xMetw (Qc := fun A => xQw True (.returned (some (.int u.1))) X [(h0, xO 6 [.ref h1, .ref g0, .ref g1, .ref g2, .ref h5, .int v_isKept]), (h1, xO 0 [.ref h2, .ref g3, .int v_now_inForce, .int v_now_depth, .int v_now_miss, .long v_now_ring, .int v_now_steps, .int v_now_seed]), (h2, xO 2 [.ref h3, .ref h4, .int v_now_laws_count]), (h3, xI X 6 v_now_laws_kinds), (h4, xI X 6 v_now_laws_tunes), (h5, xI X 5 u.2)] A) (n := 2) md_X6_plan.1 (Nat.le_of_ble_eq_true rfl) ?_
  intro p e s m args below meth c ls A hC hr hlk hH hl
  have hl : lv_has ls 3 [(0, .ref h0), (1, .int p1), (2, .int p2)] := hl
  have hx := hC.1
  have hb := hC.2.1
  refine lv_iload_n hx hb dX6_plan_0 rfl (lv_at hl 1 rfl) ?_
  refine lv_iload_n hx hb dX6_plan_1 rfl (lv_at hl 2 rfl) ?_
  obtain ⟨u1, hf1, hf⟩ := xb hf
  refine x_ran (x_runS (rest := []) (As := [.int p1, .int p2]) hC mw_942 md_X6_areTriedSteps (c_X6_areTriedSteps (X := X) hf1) hH [] rfl (by decide) hl.1 rfl rfl (Nat.le_of_ble_eq_true rfl) dX6_plan_2 ⟨Nat.le_of_ble_eq_true rfl, Nat.le_of_ble_eq_true rfl⟩ ⟨rfl, rfl⟩ ⟨Nat.le_refl _, Nat.le_refl _⟩) rfl (fun hz1 => ?_)
  refine lv_if_ne (tgt := 15) hx hb dX6_plan_5 (by decide) (fun c2 => ?_) (fun c2 => ?_)
  · have hf := xe c2 hf
    refine lv_aload_n hx hb dX6_plan_15 rfl (lv_at hl 0 rfl) ?_
    refine x_get hC fd_RX6_10 hH.1 0 rfl rfl dX6_plan_16 ?_
    refine x_getN hC fd_RX6_81 hH.1 1 rfl rfl dX6_plan_19 ?_
    refine x_getN hC fd_RX6_194 hH.1 2 rfl rfl dX6_plan_22 ?_
    refine lv_if_ne (tgt := 35) hx hb dX6_plan_25 (by decide) (fun c3 => ?_) (fun c3 => ?_)
    · have hf := xe c3 hf
      refine lv_aload_n hx hb dX6_plan_35 rfl (lv_at hl 0 rfl) ?_
      refine x_get hC fd_RX6_10 hH.1 0 rfl rfl dX6_plan_36 ?_
      refine x_getN hC fd_RX6_81 hH.1 1 rfl rfl dX6_plan_39 ?_
      refine lv_aload_n hx hb dX6_plan_42 rfl (lv_at hl 0 rfl) ?_
      refine x_get hC fd_RX6_10 hH.1 0 rfl rfl dX6_plan_43 ?_
      refine x_getN hC fd_RX6_135 hH.1 1 rfl rfl dX6_plan_46 ?_
      refine lv_iload_n hx hb dX6_plan_49 rfl (lv_at hl 1 rfl) ?_
      refine lv_iload_n hx hb dX6_plan_50 rfl (lv_at hl 2 rfl) ?_
      obtain ⟨u4, hf4, hf⟩ := xb hf
      refine x_ran (x_runV (q0 := 0) (rest := []) (As := [.int v_now_inForce, .int p1, .int p2]) hC mw_945 md_X2_leastRingStruckAt (c_X2_leastRingStruckAt (X := X) hf4) hH [2, 3, 4] rfl (by decide) rfl rfl rfl hl.1 rfl rfl (Nat.le_of_ble_eq_true rfl) dX6_plan_51 ⟨Nat.le_of_ble_eq_true rfl, Nat.le_of_ble_eq_true rfl⟩ ⟨rfl, rfl⟩ ⟨Nat.le_refl _, Nat.le_refl _⟩) rfl (fun hz4 => ?_)
      exact x_retiw (φ := fun _ => True) (f := fun u : Int32 × (Nat → Int32) => u.1) (wf := fun u : Int32 × (Nat → Int32) => [(h0, xO 6 [.ref h1, .ref g0, .ref g1, .ref g2, .ref h5, .int v_isKept]), (h1, xO 0 [.ref h2, .ref g3, .int v_now_inForce, .int v_now_depth, .int v_now_miss, .long v_now_ring, .int v_now_steps, .int v_now_seed]), (h2, xO 2 [.ref h3, .ref h4, .int v_now_laws_count]), (h3, xI X 6 v_now_laws_kinds), (h4, xI X 6 v_now_laws_tunes), (h5, xI X 5 u.2)]) hC hr hlk trivial hf hH rfl rfl dX6_plan_54
    · have hf := xt c3 hf
      refine lv_aload_n hx hb dX6_plan_28 rfl (lv_at hl 0 rfl) ?_
      refine lv_bipush (v := (-5 : Int32)) hx hb dX6_plan_29 (by decide) ?_
      obtain ⟨u5, hf5, hf⟩ := xb hf
      refine x_ranw (ws' := [(h0, xO 6 [.ref h1, .ref g0, .ref g1, .ref g2, .ref h5, .int v_isKept]), (h1, xO 0 [.ref h2, .ref g3, .int v_now_inForce, .int v_now_depth, .int v_now_miss, .long v_now_ring, .int v_now_steps, .int v_now_seed]), (h2, xO 2 [.ref h3, .ref h4, .int v_now_laws_count]), (h3, xI X 6 v_now_laws_kinds), (h4, xI X 6 v_now_laws_tunes), (h5, xI X 5 u5.2)]) (x_runV (q0 := 0) (rest := []) (As := [.int (-5 : Int32)]) hC mw_100 md_X6_refuse (c_X6_refuse (X := X) hf5) hH [0, 5] rfl (by decide) rfl rfl rfl hl.1 rfl rfl (Nat.le_of_ble_eq_true rfl) dX6_plan_31 ⟨Nat.le_of_ble_eq_true rfl, Nat.le_of_ble_eq_true rfl⟩ ⟨rfl, rfl⟩ ⟨Nat.le_refl _, Nat.le_refl _⟩) hH [0, 5] rfl rfl rfl rfl rfl (fun hz5 H locs hH => ?_)
      exact x_retiw (φ := fun _ => True) (f := fun u : Int32 × (Nat → Int32) => u.1) (wf := fun u : Int32 × (Nat → Int32) => [(h0, xO 6 [.ref h1, .ref g0, .ref g1, .ref g2, .ref h5, .int v_isKept]), (h1, xO 0 [.ref h2, .ref g3, .int v_now_inForce, .int v_now_depth, .int v_now_miss, .long v_now_ring, .int v_now_steps, .int v_now_seed]), (h2, xO 2 [.ref h3, .ref h4, .int v_now_laws_count]), (h3, xI X 6 v_now_laws_kinds), (h4, xI X 6 v_now_laws_tunes), (h5, xI X 5 u.2)]) hC hr hlk trivial hf hH rfl rfl dX6_plan_34
  · have hf := xt c2 hf
    refine lv_aload_n hx hb dX6_plan_8 rfl (lv_at hl 0 rfl) ?_
    refine lv_bipush (v := (-2 : Int32)) hx hb dX6_plan_9 (by decide) ?_
    obtain ⟨u6, hf6, hf⟩ := xb hf
    refine x_ranw (ws' := [(h0, xO 6 [.ref h1, .ref g0, .ref g1, .ref g2, .ref h5, .int v_isKept]), (h1, xO 0 [.ref h2, .ref g3, .int v_now_inForce, .int v_now_depth, .int v_now_miss, .long v_now_ring, .int v_now_steps, .int v_now_seed]), (h2, xO 2 [.ref h3, .ref h4, .int v_now_laws_count]), (h3, xI X 6 v_now_laws_kinds), (h4, xI X 6 v_now_laws_tunes), (h5, xI X 5 u6.2)]) (x_runV (q0 := 0) (rest := []) (As := [.int (-2 : Int32)]) hC mw_100 md_X6_refuse (c_X6_refuse (X := X) hf6) hH [0, 5] rfl (by decide) rfl rfl rfl hl.1 rfl rfl (Nat.le_of_ble_eq_true rfl) dX6_plan_11 ⟨Nat.le_of_ble_eq_true rfl, Nat.le_of_ble_eq_true rfl⟩ ⟨rfl, rfl⟩ ⟨Nat.le_refl _, Nat.le_refl _⟩) hH [0, 5] rfl rfl rfl rfl rfl (fun hz6 H locs hH => ?_)
    exact x_retiw (φ := fun _ => True) (f := fun u : Int32 × (Nat → Int32) => u.1) (wf := fun u : Int32 × (Nat → Int32) => [(h0, xO 6 [.ref h1, .ref g0, .ref g1, .ref g2, .ref h5, .int v_isKept]), (h1, xO 0 [.ref h2, .ref g3, .int v_now_inForce, .int v_now_depth, .int v_now_miss, .long v_now_ring, .int v_now_steps, .int v_now_seed]), (h2, xO 2 [.ref h3, .ref h4, .int v_now_laws_count]), (h3, xI X 6 v_now_laws_kinds), (h4, xI X 6 v_now_laws_tunes), (h5, xI X 5 u.2)]) hC hr hlk trivial hf hH rfl rfl dX6_plan_14
def f_X6_fill (v_now_inForce : Int32) (v_now_depth : Int32) (v_now_laws_count : Int32) (v_now_laws_kinds : (Nat → Int32)) (v_now_laws_tunes : (Nat → Int32)) (v_refusals : (Nat → Int32)) (p1 : Int32) (p2 : Int32) : Option (Int32 × (Nat → Int32)) :=
  (f_X6_areTriedSteps p1 p2).bind fun u1 =>
  if u1 = (nI 0) then
    (f_X6_refuse v_refusals (-2 : Int32)).bind fun u6 =>
    some (u6.1, u6.2)
  else
  if v_now_laws_count = (nI 0) then
    (f_X6_refuse v_refusals (-5 : Int32)).bind fun u5 =>
    some (u5.1, u5.2)
  else
  (f_X0_leastRingHeardAt v_now_inForce v_now_depth v_now_laws_count v_now_laws_kinds v_now_laws_tunes p1 p2).bind fun u4 =>
  some (u4, v_refusals)
set_option maxHeartbeats 4000000 in
set_option maxRecDepth 100000 in
theorem c_X6_fill {l : Launch} {X : xG} {h0 h1 h2 h3 h4 h5 g0 g1 g2 g3 : Nat} {v_isKept : Int32} {v_now_inForce : Int32} {v_now_depth : Int32} {v_now_miss : Int32} {v_now_ring : Int64} {v_now_steps : Int32} {v_now_seed : Int32} {v_now_laws_count : Int32} {v_now_laws_kinds : (Nat → Int32)} {v_now_laws_tunes : (Nat → Int32)} {v_refusals : (Nat → Int32)} {p1 : Int32} {p2 : Int32} {u : Int32 × (Nat → Int32)} (hf : f_X6_fill v_now_inForce v_now_depth v_now_laws_count v_now_laws_kinds v_now_laws_tunes v_refusals p1 p2 = some u) : Met l yX6_fill (xw yX6_fill cX6_fill 3 (some .int)) (xrm 6 154) (xPc [.ref h0, .int p1, .int p2] X [(h0, xO 6 [.ref h1, .ref g0, .ref g1, .ref g2, .ref h5, .int v_isKept]), (h1, xO 0 [.ref h2, .ref g3, .int v_now_inForce, .int v_now_depth, .int v_now_miss, .long v_now_ring, .int v_now_steps, .int v_now_seed]), (h2, xO 2 [.ref h3, .ref h4, .int v_now_laws_count]), (h3, xI X 6 v_now_laws_kinds), (h4, xI X 6 v_now_laws_tunes), (h5, xI X 5 v_refusals)]) (xQw True (.returned (some (.int u.1))) X [(h0, xO 6 [.ref h1, .ref g0, .ref g1, .ref g2, .ref h5, .int v_isKept]), (h1, xO 0 [.ref h2, .ref g3, .int v_now_inForce, .int v_now_depth, .int v_now_miss, .long v_now_ring, .int v_now_steps, .int v_now_seed]), (h2, xO 2 [.ref h3, .ref h4, .int v_now_laws_count]), (h3, xI X 6 v_now_laws_kinds), (h4, xI X 6 v_now_laws_tunes), (h5, xI X 5 u.2)] (xAs [(h0, xO 6 [.ref h1, .ref g0, .ref g1, .ref g2, .ref h5, .int v_isKept]), (h1, xO 0 [.ref h2, .ref g3, .int v_now_inForce, .int v_now_depth, .int v_now_miss, .long v_now_ring, .int v_now_steps, .int v_now_seed]), (h2, xO 2 [.ref h3, .ref h4, .int v_now_laws_count]), (h3, xI X 6 v_now_laws_kinds), (h4, xI X 6 v_now_laws_tunes), (h5, xI X 5 v_refusals)])) 0 0 (xAs [(h0, xO 6 [.ref h1, .ref g0, .ref g1, .ref g2, .ref h5, .int v_isKept]), (h1, xO 0 [.ref h2, .ref g3, .int v_now_inForce, .int v_now_depth, .int v_now_miss, .long v_now_ring, .int v_now_steps, .int v_now_seed]), (h2, xO 2 [.ref h3, .ref h4, .int v_now_laws_count]), (h3, xI X 6 v_now_laws_kinds), (h4, xI X 6 v_now_laws_tunes), (h5, xI X 5 v_refusals)]) := by
  refine xMetw (Qc := fun A => xQw True (.returned (some (.int u.1))) X [(h0, xO 6 [.ref h1, .ref g0, .ref g1, .ref g2, .ref h5, .int v_isKept]), (h1, xO 0 [.ref h2, .ref g3, .int v_now_inForce, .int v_now_depth, .int v_now_miss, .long v_now_ring, .int v_now_steps, .int v_now_seed]), (h2, xO 2 [.ref h3, .ref h4, .int v_now_laws_count]), (h3, xI X 6 v_now_laws_kinds), (h4, xI X 6 v_now_laws_tunes), (h5, xI X 5 u.2)] A) (n := 2) md_X6_fill.1 (Nat.le_of_ble_eq_true rfl) ?_
  intro p e s m args below meth c ls A hC hr hlk hH hl
  have hl : lv_has ls 3 [(0, .ref h0), (1, .int p1), (2, .int p2)] := hl
  have hx := hC.1
  have hb := hC.2.1
  refine lv_iload_n hx hb dX6_fill_0 rfl (lv_at hl 1 rfl) ?_
  refine lv_iload_n hx hb dX6_fill_1 rfl (lv_at hl 2 rfl) ?_
  obtain ⟨u1, hf1, hf⟩ := xb hf
  refine x_ran (x_runS (rest := []) (As := [.int p1, .int p2]) hC mw_942 md_X6_areTriedSteps (c_X6_areTriedSteps (X := X) hf1) hH [] rfl (by decide) hl.1 rfl rfl (Nat.le_of_ble_eq_true rfl) dX6_fill_2 ⟨Nat.le_of_ble_eq_true rfl, Nat.le_of_ble_eq_true rfl⟩ ⟨rfl, rfl⟩ ⟨Nat.le_refl _, Nat.le_refl _⟩) rfl (fun hz1 => ?_)
  refine lv_if_ne (tgt := 15) hx hb dX6_fill_5 (by decide) (fun c2 => ?_) (fun c2 => ?_)
  · have hf := xe c2 hf
    refine lv_aload_n hx hb dX6_fill_15 rfl (lv_at hl 0 rfl) ?_
    refine x_get hC fd_RX6_10 hH.1 0 rfl rfl dX6_fill_16 ?_
    refine x_getN hC fd_RX6_81 hH.1 1 rfl rfl dX6_fill_19 ?_
    refine x_getN hC fd_RX6_194 hH.1 2 rfl rfl dX6_fill_22 ?_
    refine lv_if_ne (tgt := 35) hx hb dX6_fill_25 (by decide) (fun c3 => ?_) (fun c3 => ?_)
    · have hf := xe c3 hf
      refine lv_aload_n hx hb dX6_fill_35 rfl (lv_at hl 0 rfl) ?_
      refine x_get hC fd_RX6_10 hH.1 0 rfl rfl dX6_fill_36 ?_
      refine lv_iload_n hx hb dX6_fill_39 rfl (lv_at hl 1 rfl) ?_
      refine lv_iload_n hx hb dX6_fill_40 rfl (lv_at hl 2 rfl) ?_
      obtain ⟨u4, hf4, hf⟩ := xb hf
      refine x_ran (x_runV (q0 := 0) (rest := []) (As := [.int p1, .int p2]) hC mw_1087 md_X0_leastRingHeardAt (c_X0_leastRingHeardAt (X := X) hf4) hH [1, 2, 3, 4] rfl (by decide) rfl rfl rfl hl.1 rfl rfl (Nat.le_of_ble_eq_true rfl) dX6_fill_41 ⟨Nat.le_of_ble_eq_true rfl, Nat.le_of_ble_eq_true rfl⟩ ⟨rfl, rfl⟩ ⟨Nat.le_refl _, Nat.le_refl _⟩) rfl (fun hz4 => ?_)
      exact x_retiw (φ := fun _ => True) (f := fun u : Int32 × (Nat → Int32) => u.1) (wf := fun u : Int32 × (Nat → Int32) => [(h0, xO 6 [.ref h1, .ref g0, .ref g1, .ref g2, .ref h5, .int v_isKept]), (h1, xO 0 [.ref h2, .ref g3, .int v_now_inForce, .int v_now_depth, .int v_now_miss, .long v_now_ring, .int v_now_steps, .int v_now_seed]), (h2, xO 2 [.ref h3, .ref h4, .int v_now_laws_count]), (h3, xI X 6 v_now_laws_kinds), (h4, xI X 6 v_now_laws_tunes), (h5, xI X 5 u.2)]) hC hr hlk trivial hf hH rfl rfl dX6_fill_44
    · have hf := xt c3 hf
      refine lv_aload_n hx hb dX6_fill_28 rfl (lv_at hl 0 rfl) ?_
      refine lv_bipush (v := (-5 : Int32)) hx hb dX6_fill_29 (by decide) ?_
      obtain ⟨u5, hf5, hf⟩ := xb hf
      refine x_ranw (ws' := [(h0, xO 6 [.ref h1, .ref g0, .ref g1, .ref g2, .ref h5, .int v_isKept]), (h1, xO 0 [.ref h2, .ref g3, .int v_now_inForce, .int v_now_depth, .int v_now_miss, .long v_now_ring, .int v_now_steps, .int v_now_seed]), (h2, xO 2 [.ref h3, .ref h4, .int v_now_laws_count]), (h3, xI X 6 v_now_laws_kinds), (h4, xI X 6 v_now_laws_tunes), (h5, xI X 5 u5.2)]) (x_runV (q0 := 0) (rest := []) (As := [.int (-5 : Int32)]) hC mw_100 md_X6_refuse (c_X6_refuse (X := X) hf5) hH [0, 5] rfl (by decide) rfl rfl rfl hl.1 rfl rfl (Nat.le_of_ble_eq_true rfl) dX6_fill_31 ⟨Nat.le_of_ble_eq_true rfl, Nat.le_of_ble_eq_true rfl⟩ ⟨rfl, rfl⟩ ⟨Nat.le_refl _, Nat.le_refl _⟩) hH [0, 5] rfl rfl rfl rfl rfl (fun hz5 H locs hH => ?_)
      exact x_retiw (φ := fun _ => True) (f := fun u : Int32 × (Nat → Int32) => u.1) (wf := fun u : Int32 × (Nat → Int32) => [(h0, xO 6 [.ref h1, .ref g0, .ref g1, .ref g2, .ref h5, .int v_isKept]), (h1, xO 0 [.ref h2, .ref g3, .int v_now_inForce, .int v_now_depth, .int v_now_miss, .long v_now_ring, .int v_now_steps, .int v_now_seed]), (h2, xO 2 [.ref h3, .ref h4, .int v_now_laws_count]), (h3, xI X 6 v_now_laws_kinds), (h4, xI X 6 v_now_laws_tunes), (h5, xI X 5 u.2)]) hC hr hlk trivial hf hH rfl rfl dX6_fill_34
  · have hf := xt c2 hf
    refine lv_aload_n hx hb dX6_fill_8 rfl (lv_at hl 0 rfl) ?_
    refine lv_bipush (v := (-2 : Int32)) hx hb dX6_fill_9 (by decide) ?_
    obtain ⟨u6, hf6, hf⟩ := xb hf
    refine x_ranw (ws' := [(h0, xO 6 [.ref h1, .ref g0, .ref g1, .ref g2, .ref h5, .int v_isKept]), (h1, xO 0 [.ref h2, .ref g3, .int v_now_inForce, .int v_now_depth, .int v_now_miss, .long v_now_ring, .int v_now_steps, .int v_now_seed]), (h2, xO 2 [.ref h3, .ref h4, .int v_now_laws_count]), (h3, xI X 6 v_now_laws_kinds), (h4, xI X 6 v_now_laws_tunes), (h5, xI X 5 u6.2)]) (x_runV (q0 := 0) (rest := []) (As := [.int (-2 : Int32)]) hC mw_100 md_X6_refuse (c_X6_refuse (X := X) hf6) hH [0, 5] rfl (by decide) rfl rfl rfl hl.1 rfl rfl (Nat.le_of_ble_eq_true rfl) dX6_fill_11 ⟨Nat.le_of_ble_eq_true rfl, Nat.le_of_ble_eq_true rfl⟩ ⟨rfl, rfl⟩ ⟨Nat.le_refl _, Nat.le_refl _⟩) hH [0, 5] rfl rfl rfl rfl rfl (fun hz6 H locs hH => ?_)
    exact x_retiw (φ := fun _ => True) (f := fun u : Int32 × (Nat → Int32) => u.1) (wf := fun u : Int32 × (Nat → Int32) => [(h0, xO 6 [.ref h1, .ref g0, .ref g1, .ref g2, .ref h5, .int v_isKept]), (h1, xO 0 [.ref h2, .ref g3, .int v_now_inForce, .int v_now_depth, .int v_now_miss, .long v_now_ring, .int v_now_steps, .int v_now_seed]), (h2, xO 2 [.ref h3, .ref h4, .int v_now_laws_count]), (h3, xI X 6 v_now_laws_kinds), (h4, xI X 6 v_now_laws_tunes), (h5, xI X 5 u.2)]) hC hr hlk trivial hf hH rfl rfl dX6_fill_14
def f_X6_round_L41 (v_now_inForce : Int32) (v_now_ring : Int64) (v_now_steps : Int32) (v_now_laws_count : Int32) (v_now_laws_kinds : (Nat → Int32)) (v_now_laws_tunes : (Nat → Int32)) (v_refusals : (Nat → Int32)) (s41 : Int64 × Int32) : Option ((Int32 × (Nat → Int32)) ⊕ (Int64 × Int32)) :=
  if (nI 60) < s41.2 then
    some (.inl ((-1 : Int32), v_refusals))
  else
  (f_X0_struckInRepetition v_now_inForce v_now_ring v_now_steps v_now_laws_count v_now_laws_kinds v_now_laws_tunes s41.2).bind fun u6 =>
  if (xcmp u6 s41.1) = (nI 0) then
    some (.inl (s41.2, v_refusals))
  else
  some (.inr (u6, s41.2 + (nI 1)))
def f_X6_round (v_now_inForce : Int32) (v_now_ring : Int64) (v_now_steps : Int32) (v_now_laws_count : Int32) (v_now_laws_kinds : (Nat → Int32)) (v_now_laws_tunes : (Nat → Int32)) (v_refusals : (Nat → Int32)) : Option (Int32 × (Nat → Int32)) :=
  if v_now_laws_count = (nI 0) then
    (f_X6_refuse v_refusals (-5 : Int32)).bind fun u2 =>
    some (u2.1, u2.2)
  else
  if v_now_steps = (nI 0) then
    (f_X6_refuse v_refusals (-5 : Int32)).bind fun u8 =>
    some (u8.1, u8.2)
  else
  (f_X0_struckInRepetition v_now_inForce v_now_ring v_now_steps v_now_laws_count v_now_laws_kinds v_now_laws_tunes (nI 0)).bind fun u4 =>
  xloop (f_X6_round_L41 v_now_inForce v_now_ring v_now_steps v_now_laws_count v_now_laws_kinds v_now_laws_tunes v_refusals) xN (u4, (nI 1))
set_option maxHeartbeats 4000000 in
set_option maxRecDepth 100000 in
theorem c_X6_round {l : Launch} {X : xG} {h0 h1 h2 h3 h4 h5 g0 g1 g2 g3 : Nat} {v_isKept : Int32} {v_now_inForce : Int32} {v_now_depth : Int32} {v_now_miss : Int32} {v_now_ring : Int64} {v_now_steps : Int32} {v_now_seed : Int32} {v_now_laws_count : Int32} {v_now_laws_kinds : (Nat → Int32)} {v_now_laws_tunes : (Nat → Int32)} {v_refusals : (Nat → Int32)} {u : Int32 × (Nat → Int32)} (hf : f_X6_round v_now_inForce v_now_ring v_now_steps v_now_laws_count v_now_laws_kinds v_now_laws_tunes v_refusals = some u) : Met l yX6_round (xw yX6_round cX6_round 6 (some .int)) (xrm 5 123) (xPc [.ref h0] X [(h0, xO 6 [.ref h1, .ref g0, .ref g1, .ref g2, .ref h5, .int v_isKept]), (h1, xO 0 [.ref h2, .ref g3, .int v_now_inForce, .int v_now_depth, .int v_now_miss, .long v_now_ring, .int v_now_steps, .int v_now_seed]), (h2, xO 2 [.ref h3, .ref h4, .int v_now_laws_count]), (h3, xI X 6 v_now_laws_kinds), (h4, xI X 6 v_now_laws_tunes), (h5, xI X 5 v_refusals)]) (xQw True (.returned (some (.int u.1))) X [(h0, xO 6 [.ref h1, .ref g0, .ref g1, .ref g2, .ref h5, .int v_isKept]), (h1, xO 0 [.ref h2, .ref g3, .int v_now_inForce, .int v_now_depth, .int v_now_miss, .long v_now_ring, .int v_now_steps, .int v_now_seed]), (h2, xO 2 [.ref h3, .ref h4, .int v_now_laws_count]), (h3, xI X 6 v_now_laws_kinds), (h4, xI X 6 v_now_laws_tunes), (h5, xI X 5 u.2)] (xAs [(h0, xO 6 [.ref h1, .ref g0, .ref g1, .ref g2, .ref h5, .int v_isKept]), (h1, xO 0 [.ref h2, .ref g3, .int v_now_inForce, .int v_now_depth, .int v_now_miss, .long v_now_ring, .int v_now_steps, .int v_now_seed]), (h2, xO 2 [.ref h3, .ref h4, .int v_now_laws_count]), (h3, xI X 6 v_now_laws_kinds), (h4, xI X 6 v_now_laws_tunes), (h5, xI X 5 v_refusals)])) 0 0 (xAs [(h0, xO 6 [.ref h1, .ref g0, .ref g1, .ref g2, .ref h5, .int v_isKept]), (h1, xO 0 [.ref h2, .ref g3, .int v_now_inForce, .int v_now_depth, .int v_now_miss, .long v_now_ring, .int v_now_steps, .int v_now_seed]), (h2, xO 2 [.ref h3, .ref h4, .int v_now_laws_count]), (h3, xI X 6 v_now_laws_kinds), (h4, xI X 6 v_now_laws_tunes), (h5, xI X 5 v_refusals)]) := by
  refine xMetw (Qc := fun A => xQw True (.returned (some (.int u.1))) X [(h0, xO 6 [.ref h1, .ref g0, .ref g1, .ref g2, .ref h5, .int v_isKept]), (h1, xO 0 [.ref h2, .ref g3, .int v_now_inForce, .int v_now_depth, .int v_now_miss, .long v_now_ring, .int v_now_steps, .int v_now_seed]), (h2, xO 2 [.ref h3, .ref h4, .int v_now_laws_count]), (h3, xI X 6 v_now_laws_kinds), (h4, xI X 6 v_now_laws_tunes), (h5, xI X 5 u.2)] A) (n := 0) md_X6_round.1 (Nat.le_of_ble_eq_true rfl) ?_
  intro p e s m args below meth c ls A hC hr hlk hH hl
  have hl : lv_has ls 6 [(0, .ref h0)] := hl
  have hx := hC.1
  have hb := hC.2.1
  have L41 : ∀ (n : Nat) (s41 : Int64 × Int32), xloop (f_X6_round_L41 v_now_inForce v_now_ring v_now_steps v_now_laws_count v_now_laws_kinds v_now_laws_tunes v_refusals) n s41 = some u → ∀ (H : Heap) (locs : List Loc), xH X A [(h0, xO 6 [.ref h1, .ref g0, .ref g1, .ref g2, .ref h5, .int v_isKept]), (h1, xO 0 [.ref h2, .ref g3, .int v_now_inForce, .int v_now_depth, .int v_now_miss, .long v_now_ring, .int v_now_steps, .int v_now_seed]), (h2, xO 2 [.ref h3, .ref h4, .int v_now_laws_count]), (h3, xI X 6 v_now_laws_kinds), (h4, xI X 6 v_now_laws_tunes), (h5, xI X 5 v_refusals)] s.heap H locs → ∀ (ls : Array Slot), lv_has ls 6 [(0, .ref h0), (1, .long s41.1), (3, .int s41.2)] → W p l e (xrm 5 123) s m args below meth c H locs 0 0 (MQ below (xQw True (.returned (some (.int u.1))) X [(h0, xO 6 [.ref h1, .ref g0, .ref g1, .ref g2, .ref h5, .int v_isKept]), (h1, xO 0 [.ref h2, .ref g3, .int v_now_inForce, .int v_now_depth, .int v_now_miss, .long v_now_ring, .int v_now_steps, .int v_now_seed]), (h2, xO 2 [.ref h3, .ref h4, .int v_now_laws_count]), (h3, xI X 6 v_now_laws_kinds), (h4, xI X 6 v_now_laws_tunes), (h5, xI X 5 u.2)] A) args s 0 0 A) (F0 m 41 ls []) := by
    intro  n
    induction n with
    | zero => intro s41 hf; exact xloop_0 hf
    | succ n ih41 =>
      intro s41 hf H locs hH ls hl
      obtain ⟨o41, hf, ho41⟩ := xloop_s hf
      refine lv_iload_n hx hb dX6_round_41 rfl (lv_at hl 2 rfl) ?_
      refine lv_bipush (v := (nI 60)) hx hb dX6_round_42 (by decide) ?_
      refine lv_icmp_gt (tgt := 75) hx hb dX6_round_44 (by decide) (fun c5 => ?_) (fun c5 => ?_)
      · have hf := xt c5 hf
        refine lv_iconst (v := (-1 : Int32)) hx hb dX6_round_75 (by decide) ?_
        have hf := xo_ret hf ho41
        exact x_retiw (φ := fun _ => True) (f := fun u : Int32 × (Nat → Int32) => u.1) (wf := fun u : Int32 × (Nat → Int32) => [(h0, xO 6 [.ref h1, .ref g0, .ref g1, .ref g2, .ref h5, .int v_isKept]), (h1, xO 0 [.ref h2, .ref g3, .int v_now_inForce, .int v_now_depth, .int v_now_miss, .long v_now_ring, .int v_now_steps, .int v_now_seed]), (h2, xO 2 [.ref h3, .ref h4, .int v_now_laws_count]), (h3, xI X 6 v_now_laws_kinds), (h4, xI X 6 v_now_laws_tunes), (h5, xI X 5 u.2)]) hC hr hlk trivial hf hH rfl rfl dX6_round_76
      · have hf := xe c5 hf
        refine lv_aload_n hx hb dX6_round_47 rfl (lv_at hl 0 rfl) ?_
        refine x_get hC fd_RX6_10 hH.1 0 rfl rfl dX6_round_48 ?_
        refine lv_iload_n hx hb dX6_round_51 rfl (lv_at hl 2 rfl) ?_
        obtain ⟨u6, hf6, hf⟩ := xb hf
        refine x_ran (x_runV (q0 := 0) (rest := []) (As := [.int s41.2]) hC mw_784 md_X0_struckInRepetition (c_X0_struckInRepetition (X := X) hf6) hH [1, 2, 3, 4] rfl (by decide) rfl rfl rfl hl.1 rfl rfl (Nat.le_of_ble_eq_true rfl) dX6_round_52 ⟨Nat.le_of_ble_eq_true rfl, Nat.le_of_ble_eq_true rfl⟩ ⟨rfl, rfl⟩ ⟨Nat.le_refl _, Nat.le_refl _⟩) rfl (fun hz6 => ?_)
        refine lv_lstore (lv' := [(4, .long u6), (0, .ref h0), (1, .long s41.1), (3, .int s41.2)]) hx hb dX6_round_55 hl (by decide) rfl (fun ls hl => ?_)
        refine lv_lload hx hb dX6_round_57 (lv_at hl 0 rfl) ?_
        refine lv_lload_n hx hb dX6_round_59 rfl (lv_at hl 2 rfl) ?_
        refine x_lcmp hx hb dX6_round_60 ?_
        refine lv_if_ne (tgt := 66) hx hb dX6_round_61 (by decide) (fun c7 => ?_) (fun c7 => ?_)
        · have hf := xe c7 hf
          refine lv_lload hx hb dX6_round_66 (lv_at hl 0 rfl) ?_
          refine lv_lstore_n (lv' := [(1, .long u6), (4, .long u6), (0, .ref h0), (3, .int s41.2)]) hx hb dX6_round_68 rfl hl (by decide) rfl (fun ls hl => ?_)
          refine lv_iinc (v := s41.2 + (nI 1)) (lv' := [(3, .int (s41.2 + (nI 1))), (1, .long u6), (4, .long u6), (0, .ref h0)]) hx hb dX6_round_69 hl (k := 3) rfl rfl (by decide) rfl (fun ls hl => ?_)
          refine lv_goto (tgt := 41) hx hb dX6_round_72 (by decide) ?_
          have hf := xo_go hf ho41
          exact ih41 (u6, s41.2 + (nI 1)) hf _ _ hH ls (lv_sub hl [3, 1, 0] rfl)
        · have hf := xt c7 hf
          refine lv_iload_n hx hb dX6_round_64 rfl (lv_at hl 3 rfl) ?_
          have hf := xo_ret hf ho41
          exact x_retiw (φ := fun _ => True) (f := fun u : Int32 × (Nat → Int32) => u.1) (wf := fun u : Int32 × (Nat → Int32) => [(h0, xO 6 [.ref h1, .ref g0, .ref g1, .ref g2, .ref h5, .int v_isKept]), (h1, xO 0 [.ref h2, .ref g3, .int v_now_inForce, .int v_now_depth, .int v_now_miss, .long v_now_ring, .int v_now_steps, .int v_now_seed]), (h2, xO 2 [.ref h3, .ref h4, .int v_now_laws_count]), (h3, xI X 6 v_now_laws_kinds), (h4, xI X 6 v_now_laws_tunes), (h5, xI X 5 u.2)]) hC hr hlk trivial hf hH rfl rfl dX6_round_65
  refine lv_aload_n hx hb dX6_round_0 rfl (lv_at hl 0 rfl) ?_
  refine x_get hC fd_RX6_10 hH.1 0 rfl rfl dX6_round_1 ?_
  refine x_getN hC fd_RX6_81 hH.1 1 rfl rfl dX6_round_4 ?_
  refine x_getN hC fd_RX6_194 hH.1 2 rfl rfl dX6_round_7 ?_
  refine lv_if_eq (tgt := 23) hx hb dX6_round_10 (by decide) (fun c1 => ?_) (fun c1 => ?_)
  · have hf := xt c1 hf
    refine lv_aload_n hx hb dX6_round_23 rfl (lv_at hl 0 rfl) ?_
    refine lv_bipush (v := (-5 : Int32)) hx hb dX6_round_24 (by decide) ?_
    obtain ⟨u2, hf2, hf⟩ := xb hf
    refine x_ranw (ws' := [(h0, xO 6 [.ref h1, .ref g0, .ref g1, .ref g2, .ref h5, .int v_isKept]), (h1, xO 0 [.ref h2, .ref g3, .int v_now_inForce, .int v_now_depth, .int v_now_miss, .long v_now_ring, .int v_now_steps, .int v_now_seed]), (h2, xO 2 [.ref h3, .ref h4, .int v_now_laws_count]), (h3, xI X 6 v_now_laws_kinds), (h4, xI X 6 v_now_laws_tunes), (h5, xI X 5 u2.2)]) (x_runV (q0 := 0) (rest := []) (As := [.int (-5 : Int32)]) hC mw_100 md_X6_refuse (c_X6_refuse (X := X) hf2) hH [0, 5] rfl (by decide) rfl rfl rfl hl.1 rfl rfl (Nat.le_of_ble_eq_true rfl) dX6_round_26 ⟨Nat.le_of_ble_eq_true rfl, Nat.le_of_ble_eq_true rfl⟩ ⟨rfl, rfl⟩ ⟨Nat.le_refl _, Nat.le_refl _⟩) hH [0, 5] rfl rfl rfl rfl rfl (fun hz2 H locs hH => ?_)
    exact x_retiw (φ := fun _ => True) (f := fun u : Int32 × (Nat → Int32) => u.1) (wf := fun u : Int32 × (Nat → Int32) => [(h0, xO 6 [.ref h1, .ref g0, .ref g1, .ref g2, .ref h5, .int v_isKept]), (h1, xO 0 [.ref h2, .ref g3, .int v_now_inForce, .int v_now_depth, .int v_now_miss, .long v_now_ring, .int v_now_steps, .int v_now_seed]), (h2, xO 2 [.ref h3, .ref h4, .int v_now_laws_count]), (h3, xI X 6 v_now_laws_kinds), (h4, xI X 6 v_now_laws_tunes), (h5, xI X 5 u.2)]) hC hr hlk trivial hf hH rfl rfl dX6_round_29
  · have hf := xe c1 hf
    refine lv_aload_n hx hb dX6_round_13 rfl (lv_at hl 0 rfl) ?_
    refine x_get hC fd_RX6_10 hH.1 0 rfl rfl dX6_round_14 ?_
    refine x_getN hC fd_RX6_200 hH.1 1 rfl rfl dX6_round_17 ?_
    refine lv_if_ne (tgt := 30) hx hb dX6_round_20 (by decide) (fun c3 => ?_) (fun c3 => ?_)
    · have hf := xe c3 hf
      refine lv_aload_n hx hb dX6_round_30 rfl (lv_at hl 0 rfl) ?_
      refine x_get hC fd_RX6_10 hH.1 0 rfl rfl dX6_round_31 ?_
      refine lv_iconst (v := (nI 0)) hx hb dX6_round_34 (by decide) ?_
      obtain ⟨u4, hf4, hf⟩ := xb hf
      refine x_ran (x_runV (q0 := 0) (rest := []) (As := [.int (nI 0)]) hC mw_784 md_X0_struckInRepetition (c_X0_struckInRepetition (X := X) hf4) hH [1, 2, 3, 4] rfl (by decide) rfl rfl rfl hl.1 rfl rfl (Nat.le_of_ble_eq_true rfl) dX6_round_35 ⟨Nat.le_of_ble_eq_true rfl, Nat.le_of_ble_eq_true rfl⟩ ⟨rfl, rfl⟩ ⟨Nat.le_refl _, Nat.le_refl _⟩) rfl (fun hz4 => ?_)
      refine lv_lstore_n (lv' := [(1, .long u4), (0, .ref h0)]) hx hb dX6_round_38 rfl hl (by decide) rfl (fun ls hl => ?_)
      refine lv_iconst (v := (nI 1)) hx hb dX6_round_39 (by decide) ?_
      refine lv_istore_n (lv' := [(3, .int (nI 1)), (1, .long u4), (0, .ref h0)]) hx hb dX6_round_40 rfl hl (by decide) rfl (fun ls hl => ?_)
      exact L41 xN (u4, (nI 1)) hf _ _ hH ls (lv_sub hl [2, 1, 0] rfl)
    · have hf := xt c3 hf
      refine lv_aload_n hx hb dX6_round_23 rfl (lv_at hl 0 rfl) ?_
      refine lv_bipush (v := (-5 : Int32)) hx hb dX6_round_24 (by decide) ?_
      obtain ⟨u8, hf8, hf⟩ := xb hf
      refine x_ranw (ws' := [(h0, xO 6 [.ref h1, .ref g0, .ref g1, .ref g2, .ref h5, .int v_isKept]), (h1, xO 0 [.ref h2, .ref g3, .int v_now_inForce, .int v_now_depth, .int v_now_miss, .long v_now_ring, .int v_now_steps, .int v_now_seed]), (h2, xO 2 [.ref h3, .ref h4, .int v_now_laws_count]), (h3, xI X 6 v_now_laws_kinds), (h4, xI X 6 v_now_laws_tunes), (h5, xI X 5 u8.2)]) (x_runV (q0 := 0) (rest := []) (As := [.int (-5 : Int32)]) hC mw_100 md_X6_refuse (c_X6_refuse (X := X) hf8) hH [0, 5] rfl (by decide) rfl rfl rfl hl.1 rfl rfl (Nat.le_of_ble_eq_true rfl) dX6_round_26 ⟨Nat.le_of_ble_eq_true rfl, Nat.le_of_ble_eq_true rfl⟩ ⟨rfl, rfl⟩ ⟨Nat.le_refl _, Nat.le_refl _⟩) hH [0, 5] rfl rfl rfl rfl rfl (fun hz8 H locs hH => ?_)
      exact x_retiw (φ := fun _ => True) (f := fun u : Int32 × (Nat → Int32) => u.1) (wf := fun u : Int32 × (Nat → Int32) => [(h0, xO 6 [.ref h1, .ref g0, .ref g1, .ref g2, .ref h5, .int v_isKept]), (h1, xO 0 [.ref h2, .ref g3, .int v_now_inForce, .int v_now_depth, .int v_now_miss, .long v_now_ring, .int v_now_steps, .int v_now_seed]), (h2, xO 2 [.ref h3, .ref h4, .int v_now_laws_count]), (h3, xI X 6 v_now_laws_kinds), (h4, xI X 6 v_now_laws_tunes), (h5, xI X 5 u.2)]) hC hr hlk trivial hf hH rfl rfl dX6_round_29
def f_X6_areDivisors (p0 : Int32) (p1 : Int32) : Option (Int32) :=
  (f_X6_isWithin p0 (nI 1) (nI 99)).bind fun u1 =>
  if u1 = (nI 0) then
    some (nI 0)
  else
  (f_X6_isWithin p1 (nI 1) (nI 99)).bind fun u3 =>
  if u3 = (nI 0) then
    some (nI 0)
  else
  some (nI 1)
set_option maxHeartbeats 4000000 in
set_option maxRecDepth 100000 in
theorem c_X6_areDivisors {l : Launch} {X : xG} {p0 : Int32} {p1 : Int32} {u : Int32} (hf : f_X6_areDivisors p0 p1 = some u) : Met l yX6_areDivisors (xw yX6_areDivisors cX6_areDivisors 2 (some .boolean)) (xrm 1 22) (xPc [.int p0, .int p1] X []) (xQ (u = 0 ∨ u = 1) (.returned (some (.int u)))) 0 0 xNo := by
  refine xMet (n := 2) md_X6_areDivisors.1 (Nat.le_of_ble_eq_true rfl) ?_
  intro p e s m args below meth c ls A hC hr hlk hH hl
  have hl : lv_has ls 2 [(0, .int p0), (1, .int p1)] := hl
  have hx := hC.1
  have hb := hC.2.1
  refine lv_iload_n hx hb dX6_areDivisors_0 rfl (lv_at hl 0 rfl) ?_
  refine lv_iconst (v := (nI 1)) hx hb dX6_areDivisors_1 (by decide) ?_
  refine lv_bipush (v := (nI 99)) hx hb dX6_areDivisors_2 (by decide) ?_
  obtain ⟨u1, hf1, hf⟩ := xb hf
  refine x_ran (x_runS (rest := []) (As := [.int p0, .int (nI 1), .int (nI 99)]) hC mw_99 md_X6_isWithin (c_X6_isWithin (X := X) hf1) hH [] rfl (by decide) hl.1 rfl rfl (Nat.le_of_ble_eq_true rfl) dX6_areDivisors_4 ⟨Nat.le_of_ble_eq_true rfl, Nat.le_of_ble_eq_true rfl⟩ ⟨rfl, rfl⟩ ⟨Nat.le_refl _, Nat.le_refl _⟩) rfl (fun hz1 => ?_)
  refine lv_if_eq (tgt := 24) hx hb dX6_areDivisors_7 (by decide) (fun c2 => ?_) (fun c2 => ?_)
  · have hf := xt c2 hf
    refine lv_iconst (v := (nI 0)) hx hb dX6_areDivisors_24 (by decide) ?_
    exact x_retz hC hr hlk (Or.inl rfl) hf dX6_areDivisors_25
  · have hf := xe c2 hf
    refine lv_iload_n hx hb dX6_areDivisors_10 rfl (lv_at hl 1 rfl) ?_
    refine lv_iconst (v := (nI 1)) hx hb dX6_areDivisors_11 (by decide) ?_
    refine lv_bipush (v := (nI 99)) hx hb dX6_areDivisors_12 (by decide) ?_
    obtain ⟨u3, hf3, hf⟩ := xb hf
    refine x_ran (x_runS (rest := []) (As := [.int p1, .int (nI 1), .int (nI 99)]) hC mw_99 md_X6_isWithin (c_X6_isWithin (X := X) hf3) hH [] rfl (by decide) hl.1 rfl rfl (Nat.le_of_ble_eq_true rfl) dX6_areDivisors_14 ⟨Nat.le_of_ble_eq_true rfl, Nat.le_of_ble_eq_true rfl⟩ ⟨rfl, rfl⟩ ⟨Nat.le_refl _, Nat.le_refl _⟩) rfl (fun hz3 => ?_)
    refine lv_if_eq (tgt := 24) hx hb dX6_areDivisors_17 (by decide) (fun c4 => ?_) (fun c4 => ?_)
    · have hf := xt c4 hf
      refine lv_iconst (v := (nI 0)) hx hb dX6_areDivisors_24 (by decide) ?_
      exact x_retz hC hr hlk (Or.inl rfl) hf dX6_areDivisors_25
    · have hf := xe c4 hf
      refine lv_iconst (v := (nI 1)) hx hb dX6_areDivisors_20 (by decide) ?_
      refine lv_goto (tgt := 25) hx hb dX6_areDivisors_21 (by decide) ?_
      exact x_retz hC hr hlk (Or.inr rfl) hf dX6_areDivisors_25
def f_X6_leaves (p0 : Int32) (p1 : Int32) (p2 : Int32) : Option (Int32) :=
  if p1 ≤ (nI 0) then
    some (nI 0)
  else
  if p1 = nI 0 then none else
  if (xrem p0 p1) = p2 then
    some (nI 1)
  else
  some (nI 0)
set_option maxHeartbeats 4000000 in
set_option maxRecDepth 100000 in
theorem c_X6_leaves {l : Launch} {X : xG} {p0 : Int32} {p1 : Int32} {p2 : Int32} {u : Int32} (hf : f_X6_leaves p0 p1 p2 = some u) : Met l yX6_leaves (xw yX6_leaves cX6_leaves 3 (some .boolean)) (xrm 0 0) (xPc [.int p0, .int p1, .int p2] X []) (xQ (u = 0 ∨ u = 1) (.returned (some (.int u)))) 0 0 xNo := by
  refine xMet (n := 3) md_X6_leaves.1 (Nat.le_of_ble_eq_true rfl) ?_
  intro p e s m args below meth c ls A hC hr hlk hH hl
  have hl : lv_has ls 3 [(0, .int p0), (1, .int p1), (2, .int p2)] := hl
  have hx := hC.1
  have hb := hC.2.1
  refine lv_iload_n hx hb dX6_leaves_0 rfl (lv_at hl 1 rfl) ?_
  refine lv_if_le (tgt := 15) hx hb dX6_leaves_1 (by decide) (fun c1 => ?_) (fun c1 => ?_)
  · have hf := xt c1 hf
    refine lv_iconst (v := (nI 0)) hx hb dX6_leaves_15 (by decide) ?_
    exact x_retz hC hr hlk (Or.inl rfl) hf dX6_leaves_16
  · have hf := xe c1 hf
    refine lv_iload_n hx hb dX6_leaves_4 rfl (lv_at hl 0 rfl) ?_
    refine lv_iload_n hx hb dX6_leaves_5 rfl (lv_at hl 1 rfl) ?_
    obtain ⟨n2, hf⟩ := xok hf
    refine x_irem hx hb dX6_leaves_6 n2 ?_
    refine lv_iload_n hx hb dX6_leaves_7 rfl (lv_at hl 2 rfl) ?_
    refine lv_icmp_ne (tgt := 15) hx hb dX6_leaves_8 (by decide) (fun c3 => ?_) (fun c3 => ?_)
    · have hf := xe c3 hf
      refine lv_iconst (v := (nI 0)) hx hb dX6_leaves_15 (by decide) ?_
      exact x_retz hC hr hlk (Or.inl rfl) hf dX6_leaves_16
    · have hf := xt c3 hf
      refine lv_iconst (v := (nI 1)) hx hb dX6_leaves_11 (by decide) ?_
      refine lv_goto (tgt := 16) hx hb dX6_leaves_12 (by decide) ?_
      exact x_retz hC hr hlk (Or.inr rfl) hf dX6_leaves_16
def f_X6_firstDay_L3 (p1 : Int32) (p2 : Int32) (p3 : Int32) (p4 : Int32) (s3 : Int32) : Option ((Int32) ⊕ (Int32)) :=
  if (nI 9999) < s3 then
    some (.inl (-1 : Int32))
  else
  (f_X6_leaves s3 p1 p2).bind fun u2 =>
  if u2 = (nI 0) then
    some (.inr (s3 + (nI 1)))
  else
  (f_X6_leaves s3 p3 p4).bind fun u4 =>
  if u4 = (nI 0) then
    some (.inr (s3 + (nI 1)))
  else
  some (.inl s3)
def f_X6_firstDay (p0 : Int32) (p1 : Int32) (p2 : Int32) (p3 : Int32) (p4 : Int32) : Option (Int32) :=
  xloop (f_X6_firstDay_L3 p1 p2 p3 p4) xN p0
set_option maxHeartbeats 4000000 in
set_option maxRecDepth 100000 in
theorem c_X6_firstDay {l : Launch} {X : xG} {p0 : Int32} {p1 : Int32} {p2 : Int32} {p3 : Int32} {p4 : Int32} {u : Int32} (hf : f_X6_firstDay p0 p1 p2 p3 p4 = some u) : Met l yX6_firstDay (xw yX6_firstDay cX6_firstDay 6 (some .int)) (xrm 1 22) (xPc [.int p0, .int p1, .int p2, .int p3, .int p4] X []) (xQ True (.returned (some (.int u)))) 0 0 xNo := by
  refine xMet (n := 5) md_X6_firstDay.1 (Nat.le_of_ble_eq_true rfl) ?_
  intro p e s m args below meth c ls A hC hr hlk hH hl
  have hl : lv_has ls 6 [(0, .int p0), (1, .int p1), (2, .int p2), (3, .int p3), (4, .int p4)] := hl
  have hx := hC.1
  have hb := hC.2.1
  have L3 : ∀ (n : Nat) (s3 : Int32), xloop (f_X6_firstDay_L3 p1 p2 p3 p4) n s3 = some u → ∀ (ls : Array Slot), lv_has ls 6 [(1, .int p1), (2, .int p2), (3, .int p3), (4, .int p4), (5, .int s3)] → W p l e (xrm 1 22) s m args below meth c s.heap [] 0 0 (MQ below (xQ True (.returned (some (.int u)))) args s 0 0 xNo) (F0 m 3 ls []) := by
    intro  n
    induction n with
    | zero => intro s3 hf; exact xloop_0 hf
    | succ n ih3 =>
      intro s3 hf ls hl
      obtain ⟨o3, hf, ho3⟩ := xloop_s hf
      refine lv_iload hx hb dX6_firstDay_3 (lv_at hl 4 rfl) ?_
      refine lv_sipush (v := (nI 9999)) hx hb dX6_firstDay_5 (by decide) ?_
      refine lv_icmp_gt (tgt := 41) hx hb dX6_firstDay_8 (by decide) (fun c1 => ?_) (fun c1 => ?_)
      · have hf := xt c1 hf
        refine lv_iconst (v := (-1 : Int32)) hx hb dX6_firstDay_41 (by decide) ?_
        have hf := xo_ret hf ho3
        exact x_reti hC hr hlk trivial hf dX6_firstDay_42
      · have hf := xe c1 hf
        refine lv_iload hx hb dX6_firstDay_11 (lv_at hl 4 rfl) ?_
        refine lv_iload_n hx hb dX6_firstDay_13 rfl (lv_at hl 0 rfl) ?_
        refine lv_iload_n hx hb dX6_firstDay_14 rfl (lv_at hl 1 rfl) ?_
        obtain ⟨u2, hf2, hf⟩ := xb hf
        refine x_ran (x_runS (rest := []) (As := [.int s3, .int p1, .int p2]) hC mw_1117 md_X6_leaves (c_X6_leaves (X := X) hf2) hH [] rfl (by decide) hl.1 rfl rfl (Nat.le_of_ble_eq_true rfl) dX6_firstDay_15 ⟨Nat.le_of_ble_eq_true rfl, Nat.le_of_ble_eq_true rfl⟩ ⟨rfl, rfl⟩ ⟨Nat.le_refl _, Nat.le_refl _⟩) rfl (fun hz2 => ?_)
        refine lv_if_eq (tgt := 35) hx hb dX6_firstDay_18 (by decide) (fun c3 => ?_) (fun c3 => ?_)
        · have hf := xt c3 hf
          refine lv_iinc (v := s3 + (nI 1)) (lv' := [(5, .int (s3 + (nI 1))), (1, .int p1), (2, .int p2), (3, .int p3), (4, .int p4)]) hx hb dX6_firstDay_35 hl (k := 4) rfl rfl (by decide) rfl (fun ls hl => ?_)
          refine lv_goto (tgt := 3) hx hb dX6_firstDay_38 (by decide) ?_
          have hf := xo_go hf ho3
          exact ih3 (s3 + (nI 1)) hf ls (lv_sub hl [1, 2, 3, 4, 0] rfl)
        · have hf := xe c3 hf
          refine lv_iload hx hb dX6_firstDay_21 (lv_at hl 4 rfl) ?_
          refine lv_iload_n hx hb dX6_firstDay_23 rfl (lv_at hl 2 rfl) ?_
          refine lv_iload hx hb dX6_firstDay_24 (lv_at hl 3 rfl) ?_
          obtain ⟨u4, hf4, hf⟩ := xb hf
          refine x_ran (x_runS (rest := []) (As := [.int s3, .int p3, .int p4]) hC mw_1117 md_X6_leaves (c_X6_leaves (X := X) hf4) hH [] rfl (by decide) hl.1 rfl rfl (Nat.le_of_ble_eq_true rfl) dX6_firstDay_26 ⟨Nat.le_of_ble_eq_true rfl, Nat.le_of_ble_eq_true rfl⟩ ⟨rfl, rfl⟩ ⟨Nat.le_refl _, Nat.le_refl _⟩) rfl (fun hz4 => ?_)
          refine lv_if_eq (tgt := 35) hx hb dX6_firstDay_29 (by decide) (fun c5 => ?_) (fun c5 => ?_)
          · have hf := xt c5 hf
            refine lv_iinc (v := s3 + (nI 1)) (lv' := [(5, .int (s3 + (nI 1))), (1, .int p1), (2, .int p2), (3, .int p3), (4, .int p4)]) hx hb dX6_firstDay_35 hl (k := 4) rfl rfl (by decide) rfl (fun ls hl => ?_)
            refine lv_goto (tgt := 3) hx hb dX6_firstDay_38 (by decide) ?_
            have hf := xo_go hf ho3
            exact ih3 (s3 + (nI 1)) hf ls (lv_sub hl [1, 2, 3, 4, 0] rfl)
          · have hf := xe c5 hf
            refine lv_iload hx hb dX6_firstDay_32 (lv_at hl 4 rfl) ?_
            have hf := xo_ret hf ho3
            exact x_reti hC hr hlk trivial hf dX6_firstDay_34
  refine lv_iload_n hx hb dX6_firstDay_0 rfl (lv_at hl 0 rfl) ?_
  refine lv_istore (lv' := [(5, .int p0), (0, .int p0), (1, .int p1), (2, .int p2), (3, .int p3), (4, .int p4)]) hx hb dX6_firstDay_1 hl (by decide) rfl (fun ls hl => ?_)
  exact L3 xN p0 hf ls (lv_sub hl [2, 3, 4, 5, 0] rfl)
def f_X6_day (v_refusals : (Nat → Int32)) (p1 : Int32) (p2 : Int32) (p3 : Int32) (p4 : Int32) : Option (Int32 × (Nat → Int32)) :=
  (f_X6_areDivisors p1 p3).bind fun u1 =>
  if u1 = (nI 0) then
    (f_X6_refuse v_refusals (-2 : Int32)).bind fun u3 =>
    some (u3.1, u3.2)
  else
  (f_X6_isWithin p2 (nI 0) (p1 - (nI 1))).bind fun u4 =>
  if u4 = (nI 0) then
    (f_X6_refuse v_refusals (-2 : Int32)).bind fun u6 =>
    some (u6.1, u6.2)
  else
  (f_X6_isWithin p4 (nI 0) (p3 - (nI 1))).bind fun u7 =>
  if u7 = (nI 0) then
    (f_X6_refuse v_refusals (-2 : Int32)).bind fun u10 =>
    some (u10.1, u10.2)
  else
  (f_X6_firstDay (nI 0) p1 p2 p3 p4).bind fun u9 =>
  some (u9, v_refusals)
set_option maxHeartbeats 4000000 in
set_option maxRecDepth 100000 in
theorem c_X6_day {l : Launch} {X : xG} {h0 h1 g0 g1 g2 g3 : Nat} {v_isKept : Int32} {v_refusals : (Nat → Int32)} {p1 : Int32} {p2 : Int32} {p3 : Int32} {p4 : Int32} {u : Int32 × (Nat → Int32)} (hf : f_X6_day v_refusals p1 p2 p3 p4 = some u) : Met l yX6_day (xw yX6_day cX6_day 5 (some .int)) (xrm 2 47) (xPc [.ref h0, .int p1, .int p2, .int p3, .int p4] X [(h0, xO 6 [.ref g0, .ref g1, .ref g2, .ref g3, .ref h1, .int v_isKept]), (h1, xI X 5 v_refusals)]) (xQw True (.returned (some (.int u.1))) X [(h0, xO 6 [.ref g0, .ref g1, .ref g2, .ref g3, .ref h1, .int v_isKept]), (h1, xI X 5 u.2)] (xAs [(h0, xO 6 [.ref g0, .ref g1, .ref g2, .ref g3, .ref h1, .int v_isKept]), (h1, xI X 5 v_refusals)])) 0 0 (xAs [(h0, xO 6 [.ref g0, .ref g1, .ref g2, .ref g3, .ref h1, .int v_isKept]), (h1, xI X 5 v_refusals)]) := by
  refine xMetw (Qc := fun A => xQw True (.returned (some (.int u.1))) X [(h0, xO 6 [.ref g0, .ref g1, .ref g2, .ref g3, .ref h1, .int v_isKept]), (h1, xI X 5 u.2)] A) (n := 4) md_X6_day.1 (Nat.le_of_ble_eq_true rfl) ?_
  intro p e s m args below meth c ls A hC hr hlk hH hl
  have hl : lv_has ls 5 [(0, .ref h0), (1, .int p1), (2, .int p2), (3, .int p3), (4, .int p4)] := hl
  have hx := hC.1
  have hb := hC.2.1
  refine lv_iload_n hx hb dX6_day_0 rfl (lv_at hl 1 rfl) ?_
  refine lv_iload_n hx hb dX6_day_1 rfl (lv_at hl 3 rfl) ?_
  obtain ⟨u1, hf1, hf⟩ := xb hf
  refine x_ran (x_runS (rest := []) (As := [.int p1, .int p3]) hC mw_1111 md_X6_areDivisors (c_X6_areDivisors (X := X) hf1) hH [] rfl (by decide) hl.1 rfl rfl (Nat.le_of_ble_eq_true rfl) dX6_day_2 ⟨Nat.le_of_ble_eq_true rfl, Nat.le_of_ble_eq_true rfl⟩ ⟨rfl, rfl⟩ ⟨Nat.le_refl _, Nat.le_refl _⟩) rfl (fun hz1 => ?_)
  refine lv_if_eq (tgt := 31) hx hb dX6_day_5 (by decide) (fun c2 => ?_) (fun c2 => ?_)
  · have hf := xt c2 hf
    refine lv_aload_n hx hb dX6_day_31 rfl (lv_at hl 0 rfl) ?_
    refine lv_bipush (v := (-2 : Int32)) hx hb dX6_day_32 (by decide) ?_
    obtain ⟨u3, hf3, hf⟩ := xb hf
    refine x_ranw (ws' := [(h0, xO 6 [.ref g0, .ref g1, .ref g2, .ref g3, .ref h1, .int v_isKept]), (h1, xI X 5 u3.2)]) (x_runV (q0 := 0) (rest := []) (As := [.int (-2 : Int32)]) hC mw_100 md_X6_refuse (c_X6_refuse (X := X) hf3) hH [0, 1] rfl (by decide) rfl rfl rfl hl.1 rfl rfl (Nat.le_of_ble_eq_true rfl) dX6_day_34 ⟨Nat.le_of_ble_eq_true rfl, Nat.le_of_ble_eq_true rfl⟩ ⟨rfl, rfl⟩ ⟨Nat.le_refl _, Nat.le_refl _⟩) hH [0, 1] rfl rfl rfl rfl rfl (fun hz3 H locs hH => ?_)
    exact x_retiw (φ := fun _ => True) (f := fun u : Int32 × (Nat → Int32) => u.1) (wf := fun u : Int32 × (Nat → Int32) => [(h0, xO 6 [.ref g0, .ref g1, .ref g2, .ref g3, .ref h1, .int v_isKept]), (h1, xI X 5 u.2)]) hC hr hlk trivial hf hH rfl rfl dX6_day_37
  · have hf := xe c2 hf
    refine lv_iload_n hx hb dX6_day_8 rfl (lv_at hl 2 rfl) ?_
    refine lv_iconst (v := (nI 0)) hx hb dX6_day_9 (by decide) ?_
    refine lv_iload_n hx hb dX6_day_10 rfl (lv_at hl 1 rfl) ?_
    refine lv_iconst (v := (nI 1)) hx hb dX6_day_11 (by decide) ?_
    refine lv_isub hx hb dX6_day_12 ?_
    obtain ⟨u4, hf4, hf⟩ := xb hf
    refine x_ran (x_runS (rest := []) (As := [.int p2, .int (nI 0), .int (p1 - (nI 1))]) hC mw_99 md_X6_isWithin (c_X6_isWithin (X := X) hf4) hH [] rfl (by decide) hl.1 rfl rfl (Nat.le_of_ble_eq_true rfl) dX6_day_13 ⟨Nat.le_of_ble_eq_true rfl, Nat.le_of_ble_eq_true rfl⟩ ⟨rfl, rfl⟩ ⟨Nat.le_refl _, Nat.le_refl _⟩) rfl (fun hz4 => ?_)
    refine lv_if_eq (tgt := 31) hx hb dX6_day_16 (by decide) (fun c5 => ?_) (fun c5 => ?_)
    · have hf := xt c5 hf
      refine lv_aload_n hx hb dX6_day_31 rfl (lv_at hl 0 rfl) ?_
      refine lv_bipush (v := (-2 : Int32)) hx hb dX6_day_32 (by decide) ?_
      obtain ⟨u6, hf6, hf⟩ := xb hf
      refine x_ranw (ws' := [(h0, xO 6 [.ref g0, .ref g1, .ref g2, .ref g3, .ref h1, .int v_isKept]), (h1, xI X 5 u6.2)]) (x_runV (q0 := 0) (rest := []) (As := [.int (-2 : Int32)]) hC mw_100 md_X6_refuse (c_X6_refuse (X := X) hf6) hH [0, 1] rfl (by decide) rfl rfl rfl hl.1 rfl rfl (Nat.le_of_ble_eq_true rfl) dX6_day_34 ⟨Nat.le_of_ble_eq_true rfl, Nat.le_of_ble_eq_true rfl⟩ ⟨rfl, rfl⟩ ⟨Nat.le_refl _, Nat.le_refl _⟩) hH [0, 1] rfl rfl rfl rfl rfl (fun hz6 H locs hH => ?_)
      exact x_retiw (φ := fun _ => True) (f := fun u : Int32 × (Nat → Int32) => u.1) (wf := fun u : Int32 × (Nat → Int32) => [(h0, xO 6 [.ref g0, .ref g1, .ref g2, .ref g3, .ref h1, .int v_isKept]), (h1, xI X 5 u.2)]) hC hr hlk trivial hf hH rfl rfl dX6_day_37
    · have hf := xe c5 hf
      refine lv_iload hx hb dX6_day_19 (lv_at hl 4 rfl) ?_
      refine lv_iconst (v := (nI 0)) hx hb dX6_day_21 (by decide) ?_
      refine lv_iload_n hx hb dX6_day_22 rfl (lv_at hl 3 rfl) ?_
      refine lv_iconst (v := (nI 1)) hx hb dX6_day_23 (by decide) ?_
      refine lv_isub hx hb dX6_day_24 ?_
      obtain ⟨u7, hf7, hf⟩ := xb hf
      refine x_ran (x_runS (rest := []) (As := [.int p4, .int (nI 0), .int (p3 - (nI 1))]) hC mw_99 md_X6_isWithin (c_X6_isWithin (X := X) hf7) hH [] rfl (by decide) hl.1 rfl rfl (Nat.le_of_ble_eq_true rfl) dX6_day_25 ⟨Nat.le_of_ble_eq_true rfl, Nat.le_of_ble_eq_true rfl⟩ ⟨rfl, rfl⟩ ⟨Nat.le_refl _, Nat.le_refl _⟩) rfl (fun hz7 => ?_)
      refine lv_if_ne (tgt := 38) hx hb dX6_day_28 (by decide) (fun c8 => ?_) (fun c8 => ?_)
      · have hf := xe c8 hf
        refine lv_iconst (v := (nI 0)) hx hb dX6_day_38 (by decide) ?_
        refine lv_iload_n hx hb dX6_day_39 rfl (lv_at hl 1 rfl) ?_
        refine lv_iload_n hx hb dX6_day_40 rfl (lv_at hl 2 rfl) ?_
        refine lv_iload_n hx hb dX6_day_41 rfl (lv_at hl 3 rfl) ?_
        refine lv_iload hx hb dX6_day_42 (lv_at hl 4 rfl) ?_
        obtain ⟨u9, hf9, hf⟩ := xb hf
        refine x_ran (x_runS (rest := []) (As := [.int (nI 0), .int p1, .int p2, .int p3, .int p4]) hC mw_1114 md_X6_firstDay (c_X6_firstDay (X := X) hf9) hH [] rfl (by decide) hl.1 rfl rfl (Nat.le_of_ble_eq_true rfl) dX6_day_44 ⟨Nat.le_of_ble_eq_true rfl, Nat.le_of_ble_eq_true rfl⟩ ⟨rfl, rfl⟩ ⟨Nat.le_refl _, Nat.le_refl _⟩) rfl (fun hz9 => ?_)
        exact x_retiw (φ := fun _ => True) (f := fun u : Int32 × (Nat → Int32) => u.1) (wf := fun u : Int32 × (Nat → Int32) => [(h0, xO 6 [.ref g0, .ref g1, .ref g2, .ref g3, .ref h1, .int v_isKept]), (h1, xI X 5 u.2)]) hC hr hlk trivial hf hH rfl rfl dX6_day_47
      · have hf := xt c8 hf
        refine lv_aload_n hx hb dX6_day_31 rfl (lv_at hl 0 rfl) ?_
        refine lv_bipush (v := (-2 : Int32)) hx hb dX6_day_32 (by decide) ?_
        obtain ⟨u10, hf10, hf⟩ := xb hf
        refine x_ranw (ws' := [(h0, xO 6 [.ref g0, .ref g1, .ref g2, .ref g3, .ref h1, .int v_isKept]), (h1, xI X 5 u10.2)]) (x_runV (q0 := 0) (rest := []) (As := [.int (-2 : Int32)]) hC mw_100 md_X6_refuse (c_X6_refuse (X := X) hf10) hH [0, 1] rfl (by decide) rfl rfl rfl hl.1 rfl rfl (Nat.le_of_ble_eq_true rfl) dX6_day_34 ⟨Nat.le_of_ble_eq_true rfl, Nat.le_of_ble_eq_true rfl⟩ ⟨rfl, rfl⟩ ⟨Nat.le_refl _, Nat.le_refl _⟩) hH [0, 1] rfl rfl rfl rfl rfl (fun hz10 H locs hH => ?_)
        exact x_retiw (φ := fun _ => True) (f := fun u : Int32 × (Nat → Int32) => u.1) (wf := fun u : Int32 × (Nat → Int32) => [(h0, xO 6 [.ref g0, .ref g1, .ref g2, .ref g3, .ref h1, .int v_isKept]), (h1, xI X 5 u.2)]) hC hr hlk trivial hf hH rfl rfl dX6_day_37
def f_X6_tolls (v_now_people_count : Int32) (v_now_people_ages : (Nat → Int32)) (v_refusals : (Nat → Int32)) (p1 : Int32) (p2 : Int32) : Option (Int32 × (Nat → Int32)) :=
  (f_X6_isWithin p1 (nI 0) (nI 999)).bind fun u1 =>
  if u1 = (nI 0) then
    (f_X6_refuse v_refusals (-2 : Int32)).bind fun u3 =>
    some (u3.1, u3.2)
  else
  (f_X6_isWithin p2 (nI 0) (nI 1)).bind fun u4 =>
  if u4 = (nI 0) then
    (f_X6_refuse v_refusals (-2 : Int32)).bind fun u9 =>
    some (u9.1, u9.2)
  else
  if p2 = (nI 0) then
    (f_X3_howManySets v_now_people_count v_now_people_ages p1).bind fun u8 =>
    some (u8, v_refusals)
  else
  (f_X3_smallestSet v_now_people_count v_now_people_ages p1).bind fun u7 =>
  some (u7, v_refusals)
set_option maxHeartbeats 4000000 in
set_option maxRecDepth 100000 in
theorem c_X6_tolls {l : Launch} {X : xG} {h0 h1 h2 h3 h4 g0 g1 g2 g3 g4 : Nat} {v_isKept : Int32} {v_now_inForce : Int32} {v_now_depth : Int32} {v_now_miss : Int32} {v_now_ring : Int64} {v_now_steps : Int32} {v_now_seed : Int32} {v_now_people_count : Int32} {v_now_people_ages : (Nat → Int32)} {v_refusals : (Nat → Int32)} {p1 : Int32} {p2 : Int32} {u : Int32 × (Nat → Int32)} (hf : f_X6_tolls v_now_people_count v_now_people_ages v_refusals p1 p2 = some u) : Met l yX6_tolls (xw yX6_tolls cX6_tolls 3 (some .int)) (xrm 4 91) (xPc [.ref h0, .int p1, .int p2] X [(h0, xO 6 [.ref h1, .ref g0, .ref g1, .ref g2, .ref h4, .int v_isKept]), (h1, xO 0 [.ref g3, .ref h2, .int v_now_inForce, .int v_now_depth, .int v_now_miss, .long v_now_ring, .int v_now_steps, .int v_now_seed]), (h2, xO 3 [.ref h3, .ref g4, .int v_now_people_count]), (h3, xI X 10 v_now_people_ages), (h4, xI X 5 v_refusals)]) (xQw True (.returned (some (.int u.1))) X [(h0, xO 6 [.ref h1, .ref g0, .ref g1, .ref g2, .ref h4, .int v_isKept]), (h1, xO 0 [.ref g3, .ref h2, .int v_now_inForce, .int v_now_depth, .int v_now_miss, .long v_now_ring, .int v_now_steps, .int v_now_seed]), (h2, xO 3 [.ref h3, .ref g4, .int v_now_people_count]), (h3, xI X 10 v_now_people_ages), (h4, xI X 5 u.2)] (xAs [(h0, xO 6 [.ref h1, .ref g0, .ref g1, .ref g2, .ref h4, .int v_isKept]), (h1, xO 0 [.ref g3, .ref h2, .int v_now_inForce, .int v_now_depth, .int v_now_miss, .long v_now_ring, .int v_now_steps, .int v_now_seed]), (h2, xO 3 [.ref h3, .ref g4, .int v_now_people_count]), (h3, xI X 10 v_now_people_ages), (h4, xI X 5 v_refusals)])) 0 0 (xAs [(h0, xO 6 [.ref h1, .ref g0, .ref g1, .ref g2, .ref h4, .int v_isKept]), (h1, xO 0 [.ref g3, .ref h2, .int v_now_inForce, .int v_now_depth, .int v_now_miss, .long v_now_ring, .int v_now_steps, .int v_now_seed]), (h2, xO 3 [.ref h3, .ref g4, .int v_now_people_count]), (h3, xI X 10 v_now_people_ages), (h4, xI X 5 v_refusals)]) := by
  refine xMetw (Qc := fun A => xQw True (.returned (some (.int u.1))) X [(h0, xO 6 [.ref h1, .ref g0, .ref g1, .ref g2, .ref h4, .int v_isKept]), (h1, xO 0 [.ref g3, .ref h2, .int v_now_inForce, .int v_now_depth, .int v_now_miss, .long v_now_ring, .int v_now_steps, .int v_now_seed]), (h2, xO 3 [.ref h3, .ref g4, .int v_now_people_count]), (h3, xI X 10 v_now_people_ages), (h4, xI X 5 u.2)] A) (n := 2) md_X6_tolls.1 (Nat.le_of_ble_eq_true rfl) ?_
  intro p e s m args below meth c ls A hC hr hlk hH hl
  have hl : lv_has ls 3 [(0, .ref h0), (1, .int p1), (2, .int p2)] := hl
  have hx := hC.1
  have hb := hC.2.1
  refine lv_iload_n hx hb dX6_tolls_0 rfl (lv_at hl 1 rfl) ?_
  refine lv_iconst (v := (nI 0)) hx hb dX6_tolls_1 (by decide) ?_
  refine lv_sipush (v := (nI 999)) hx hb dX6_tolls_2 (by decide) ?_
  obtain ⟨u1, hf1, hf⟩ := xb hf
  refine x_ran (x_runS (rest := []) (As := [.int p1, .int (nI 0), .int (nI 999)]) hC mw_99 md_X6_isWithin (c_X6_isWithin (X := X) hf1) hH [] rfl (by decide) hl.1 rfl rfl (Nat.le_of_ble_eq_true rfl) dX6_tolls_5 ⟨Nat.le_of_ble_eq_true rfl, Nat.le_of_ble_eq_true rfl⟩ ⟨rfl, rfl⟩ ⟨Nat.le_refl _, Nat.le_refl _⟩) rfl (fun hz1 => ?_)
  refine lv_if_eq (tgt := 20) hx hb dX6_tolls_8 (by decide) (fun c2 => ?_) (fun c2 => ?_)
  · have hf := xt c2 hf
    refine lv_aload_n hx hb dX6_tolls_20 rfl (lv_at hl 0 rfl) ?_
    refine lv_bipush (v := (-2 : Int32)) hx hb dX6_tolls_21 (by decide) ?_
    obtain ⟨u3, hf3, hf⟩ := xb hf
    refine x_ranw (ws' := [(h0, xO 6 [.ref h1, .ref g0, .ref g1, .ref g2, .ref h4, .int v_isKept]), (h1, xO 0 [.ref g3, .ref h2, .int v_now_inForce, .int v_now_depth, .int v_now_miss, .long v_now_ring, .int v_now_steps, .int v_now_seed]), (h2, xO 3 [.ref h3, .ref g4, .int v_now_people_count]), (h3, xI X 10 v_now_people_ages), (h4, xI X 5 u3.2)]) (x_runV (q0 := 0) (rest := []) (As := [.int (-2 : Int32)]) hC mw_100 md_X6_refuse (c_X6_refuse (X := X) hf3) hH [0, 4] rfl (by decide) rfl rfl rfl hl.1 rfl rfl (Nat.le_of_ble_eq_true rfl) dX6_tolls_23 ⟨Nat.le_of_ble_eq_true rfl, Nat.le_of_ble_eq_true rfl⟩ ⟨rfl, rfl⟩ ⟨Nat.le_refl _, Nat.le_refl _⟩) hH [0, 4] rfl rfl rfl rfl rfl (fun hz3 H locs hH => ?_)
    exact x_retiw (φ := fun _ => True) (f := fun u : Int32 × (Nat → Int32) => u.1) (wf := fun u : Int32 × (Nat → Int32) => [(h0, xO 6 [.ref h1, .ref g0, .ref g1, .ref g2, .ref h4, .int v_isKept]), (h1, xO 0 [.ref g3, .ref h2, .int v_now_inForce, .int v_now_depth, .int v_now_miss, .long v_now_ring, .int v_now_steps, .int v_now_seed]), (h2, xO 3 [.ref h3, .ref g4, .int v_now_people_count]), (h3, xI X 10 v_now_people_ages), (h4, xI X 5 u.2)]) hC hr hlk trivial hf hH rfl rfl dX6_tolls_26
  · have hf := xe c2 hf
    refine lv_iload_n hx hb dX6_tolls_11 rfl (lv_at hl 2 rfl) ?_
    refine lv_iconst (v := (nI 0)) hx hb dX6_tolls_12 (by decide) ?_
    refine lv_iconst (v := (nI 1)) hx hb dX6_tolls_13 (by decide) ?_
    obtain ⟨u4, hf4, hf⟩ := xb hf
    refine x_ran (x_runS (rest := []) (As := [.int p2, .int (nI 0), .int (nI 1)]) hC mw_99 md_X6_isWithin (c_X6_isWithin (X := X) hf4) hH [] rfl (by decide) hl.1 rfl rfl (Nat.le_of_ble_eq_true rfl) dX6_tolls_14 ⟨Nat.le_of_ble_eq_true rfl, Nat.le_of_ble_eq_true rfl⟩ ⟨rfl, rfl⟩ ⟨Nat.le_refl _, Nat.le_refl _⟩) rfl (fun hz4 => ?_)
    refine lv_if_ne (tgt := 27) hx hb dX6_tolls_17 (by decide) (fun c5 => ?_) (fun c5 => ?_)
    · have hf := xe c5 hf
      refine lv_iload_n hx hb dX6_tolls_27 rfl (lv_at hl 2 rfl) ?_
      refine lv_if_ne (tgt := 45) hx hb dX6_tolls_28 (by decide) (fun c6 => ?_) (fun c6 => ?_)
      · have hf := xe c6 hf
        refine lv_aload_n hx hb dX6_tolls_45 rfl (lv_at hl 0 rfl) ?_
        refine x_get hC fd_RX6_10 hH.1 0 rfl rfl dX6_tolls_46 ?_
        refine x_getN hC fd_RX6_145 hH.1 1 rfl rfl dX6_tolls_49 ?_
        refine lv_iload_n hx hb dX6_tolls_52 rfl (lv_at hl 1 rfl) ?_
        obtain ⟨u7, hf7, hf⟩ := xb hf
        refine x_ran (x_runV (q0 := 0) (rest := []) (As := [.int p1]) hC mw_1136 md_X3_smallestSet (c_X3_smallestSet (X := X) hf7) hH [2, 3] rfl (by decide) rfl rfl rfl hl.1 rfl rfl (Nat.le_of_ble_eq_true rfl) dX6_tolls_53 ⟨Nat.le_of_ble_eq_true rfl, Nat.le_of_ble_eq_true rfl⟩ ⟨rfl, rfl⟩ ⟨Nat.le_refl _, Nat.le_refl _⟩) rfl (fun hz7 => ?_)
        exact x_retiw (φ := fun _ => True) (f := fun u : Int32 × (Nat → Int32) => u.1) (wf := fun u : Int32 × (Nat → Int32) => [(h0, xO 6 [.ref h1, .ref g0, .ref g1, .ref g2, .ref h4, .int v_isKept]), (h1, xO 0 [.ref g3, .ref h2, .int v_now_inForce, .int v_now_depth, .int v_now_miss, .long v_now_ring, .int v_now_steps, .int v_now_seed]), (h2, xO 3 [.ref h3, .ref g4, .int v_now_people_count]), (h3, xI X 10 v_now_people_ages), (h4, xI X 5 u.2)]) hC hr hlk trivial hf hH rfl rfl dX6_tolls_56
      · have hf := xt c6 hf
        refine lv_aload_n hx hb dX6_tolls_31 rfl (lv_at hl 0 rfl) ?_
        refine x_get hC fd_RX6_10 hH.1 0 rfl rfl dX6_tolls_32 ?_
        refine x_getN hC fd_RX6_145 hH.1 1 rfl rfl dX6_tolls_35 ?_
        refine lv_iload_n hx hb dX6_tolls_38 rfl (lv_at hl 1 rfl) ?_
        obtain ⟨u8, hf8, hf⟩ := xb hf
        refine x_ran (x_runV (q0 := 0) (rest := []) (As := [.int p1]) hC mw_1128 md_X3_howManySets (c_X3_howManySets (X := X) hf8) hH [2, 3] rfl (by decide) rfl rfl rfl hl.1 rfl rfl (Nat.le_of_ble_eq_true rfl) dX6_tolls_39 ⟨Nat.le_of_ble_eq_true rfl, Nat.le_of_ble_eq_true rfl⟩ ⟨rfl, rfl⟩ ⟨Nat.le_refl _, Nat.le_refl _⟩) rfl (fun hz8 => ?_)
        refine lv_goto (tgt := 56) hx hb dX6_tolls_42 (by decide) ?_
        exact x_retiw (φ := fun _ => True) (f := fun u : Int32 × (Nat → Int32) => u.1) (wf := fun u : Int32 × (Nat → Int32) => [(h0, xO 6 [.ref h1, .ref g0, .ref g1, .ref g2, .ref h4, .int v_isKept]), (h1, xO 0 [.ref g3, .ref h2, .int v_now_inForce, .int v_now_depth, .int v_now_miss, .long v_now_ring, .int v_now_steps, .int v_now_seed]), (h2, xO 3 [.ref h3, .ref g4, .int v_now_people_count]), (h3, xI X 10 v_now_people_ages), (h4, xI X 5 u.2)]) hC hr hlk trivial hf hH rfl rfl dX6_tolls_56
    · have hf := xt c5 hf
      refine lv_aload_n hx hb dX6_tolls_20 rfl (lv_at hl 0 rfl) ?_
      refine lv_bipush (v := (-2 : Int32)) hx hb dX6_tolls_21 (by decide) ?_
      obtain ⟨u9, hf9, hf⟩ := xb hf
      refine x_ranw (ws' := [(h0, xO 6 [.ref h1, .ref g0, .ref g1, .ref g2, .ref h4, .int v_isKept]), (h1, xO 0 [.ref g3, .ref h2, .int v_now_inForce, .int v_now_depth, .int v_now_miss, .long v_now_ring, .int v_now_steps, .int v_now_seed]), (h2, xO 3 [.ref h3, .ref g4, .int v_now_people_count]), (h3, xI X 10 v_now_people_ages), (h4, xI X 5 u9.2)]) (x_runV (q0 := 0) (rest := []) (As := [.int (-2 : Int32)]) hC mw_100 md_X6_refuse (c_X6_refuse (X := X) hf9) hH [0, 4] rfl (by decide) rfl rfl rfl hl.1 rfl rfl (Nat.le_of_ble_eq_true rfl) dX6_tolls_23 ⟨Nat.le_of_ble_eq_true rfl, Nat.le_of_ble_eq_true rfl⟩ ⟨rfl, rfl⟩ ⟨Nat.le_refl _, Nat.le_refl _⟩) hH [0, 4] rfl rfl rfl rfl rfl (fun hz9 H locs hH => ?_)
      exact x_retiw (φ := fun _ => True) (f := fun u : Int32 × (Nat → Int32) => u.1) (wf := fun u : Int32 × (Nat → Int32) => [(h0, xO 6 [.ref h1, .ref g0, .ref g1, .ref g2, .ref h4, .int v_isKept]), (h1, xO 0 [.ref g3, .ref h2, .int v_now_inForce, .int v_now_depth, .int v_now_miss, .long v_now_ring, .int v_now_steps, .int v_now_seed]), (h2, xO 3 [.ref h3, .ref g4, .int v_now_people_count]), (h3, xI X 10 v_now_people_ages), (h4, xI X 5 u.2)]) hC hr hlk trivial hf hH rfl rfl dX6_tolls_26
def f_X6_meet (v_refusals : (Nat → Int32)) (p1 : Int32) (p2 : Int32) : Option (Int32 × (Nat → Int32)) :=
  (f_X6_areDivisors p1 p2).bind fun u1 =>
  if u1 = (nI 0) then
    (f_X6_refuse v_refusals (-2 : Int32)).bind fun u3 =>
    some (u3.1, u3.2)
  else
  (f_X6_firstDay (nI 1) p1 (nI 0) p2 (nI 0)).bind fun u4 =>
  some (u4, v_refusals)
set_option maxHeartbeats 4000000 in
set_option maxRecDepth 100000 in
theorem c_X6_meet {l : Launch} {X : xG} {h0 h1 g0 g1 g2 g3 : Nat} {v_isKept : Int32} {v_refusals : (Nat → Int32)} {p1 : Int32} {p2 : Int32} {u : Int32 × (Nat → Int32)} (hf : f_X6_meet v_refusals p1 p2 = some u) : Met l yX6_meet (xw yX6_meet cX6_meet 3 (some .int)) (xrm 2 47) (xPc [.ref h0, .int p1, .int p2] X [(h0, xO 6 [.ref g0, .ref g1, .ref g2, .ref g3, .ref h1, .int v_isKept]), (h1, xI X 5 v_refusals)]) (xQw True (.returned (some (.int u.1))) X [(h0, xO 6 [.ref g0, .ref g1, .ref g2, .ref g3, .ref h1, .int v_isKept]), (h1, xI X 5 u.2)] (xAs [(h0, xO 6 [.ref g0, .ref g1, .ref g2, .ref g3, .ref h1, .int v_isKept]), (h1, xI X 5 v_refusals)])) 0 0 (xAs [(h0, xO 6 [.ref g0, .ref g1, .ref g2, .ref g3, .ref h1, .int v_isKept]), (h1, xI X 5 v_refusals)]) := by
  refine xMetw (Qc := fun A => xQw True (.returned (some (.int u.1))) X [(h0, xO 6 [.ref g0, .ref g1, .ref g2, .ref g3, .ref h1, .int v_isKept]), (h1, xI X 5 u.2)] A) (n := 2) md_X6_meet.1 (Nat.le_of_ble_eq_true rfl) ?_
  intro p e s m args below meth c ls A hC hr hlk hH hl
  have hl : lv_has ls 3 [(0, .ref h0), (1, .int p1), (2, .int p2)] := hl
  have hx := hC.1
  have hb := hC.2.1
  refine lv_iload_n hx hb dX6_meet_0 rfl (lv_at hl 1 rfl) ?_
  refine lv_iload_n hx hb dX6_meet_1 rfl (lv_at hl 2 rfl) ?_
  obtain ⟨u1, hf1, hf⟩ := xb hf
  refine x_ran (x_runS (rest := []) (As := [.int p1, .int p2]) hC mw_1111 md_X6_areDivisors (c_X6_areDivisors (X := X) hf1) hH [] rfl (by decide) hl.1 rfl rfl (Nat.le_of_ble_eq_true rfl) dX6_meet_2 ⟨Nat.le_of_ble_eq_true rfl, Nat.le_of_ble_eq_true rfl⟩ ⟨rfl, rfl⟩ ⟨Nat.le_refl _, Nat.le_refl _⟩) rfl (fun hz1 => ?_)
  refine lv_if_eq (tgt := 19) hx hb dX6_meet_5 (by decide) (fun c2 => ?_) (fun c2 => ?_)
  · have hf := xt c2 hf
    refine lv_aload_n hx hb dX6_meet_19 rfl (lv_at hl 0 rfl) ?_
    refine lv_bipush (v := (-2 : Int32)) hx hb dX6_meet_20 (by decide) ?_
    obtain ⟨u3, hf3, hf⟩ := xb hf
    refine x_ranw (ws' := [(h0, xO 6 [.ref g0, .ref g1, .ref g2, .ref g3, .ref h1, .int v_isKept]), (h1, xI X 5 u3.2)]) (x_runV (q0 := 0) (rest := []) (As := [.int (-2 : Int32)]) hC mw_100 md_X6_refuse (c_X6_refuse (X := X) hf3) hH [0, 1] rfl (by decide) rfl rfl rfl hl.1 rfl rfl (Nat.le_of_ble_eq_true rfl) dX6_meet_22 ⟨Nat.le_of_ble_eq_true rfl, Nat.le_of_ble_eq_true rfl⟩ ⟨rfl, rfl⟩ ⟨Nat.le_refl _, Nat.le_refl _⟩) hH [0, 1] rfl rfl rfl rfl rfl (fun hz3 H locs hH => ?_)
    exact x_retiw (φ := fun _ => True) (f := fun u : Int32 × (Nat → Int32) => u.1) (wf := fun u : Int32 × (Nat → Int32) => [(h0, xO 6 [.ref g0, .ref g1, .ref g2, .ref g3, .ref h1, .int v_isKept]), (h1, xI X 5 u.2)]) hC hr hlk trivial hf hH rfl rfl dX6_meet_25
  · have hf := xe c2 hf
    refine lv_iconst (v := (nI 1)) hx hb dX6_meet_8 (by decide) ?_
    refine lv_iload_n hx hb dX6_meet_9 rfl (lv_at hl 1 rfl) ?_
    refine lv_iconst (v := (nI 0)) hx hb dX6_meet_10 (by decide) ?_
    refine lv_iload_n hx hb dX6_meet_11 rfl (lv_at hl 2 rfl) ?_
    refine lv_iconst (v := (nI 0)) hx hb dX6_meet_12 (by decide) ?_
    obtain ⟨u4, hf4, hf⟩ := xb hf
    refine x_ran (x_runS (rest := []) (As := [.int (nI 1), .int p1, .int (nI 0), .int p2, .int (nI 0)]) hC mw_1114 md_X6_firstDay (c_X6_firstDay (X := X) hf4) hH [] rfl (by decide) hl.1 rfl rfl (Nat.le_of_ble_eq_true rfl) dX6_meet_13 ⟨Nat.le_of_ble_eq_true rfl, Nat.le_of_ble_eq_true rfl⟩ ⟨rfl, rfl⟩ ⟨Nat.le_refl _, Nat.le_refl _⟩) rfl (fun hz4 => ?_)
    refine lv_goto (tgt := 25) hx hb dX6_meet_16 (by decide) ?_
    exact x_retiw (φ := fun _ => True) (f := fun u : Int32 × (Nat → Int32) => u.1) (wf := fun u : Int32 × (Nat → Int32) => [(h0, xO 6 [.ref g0, .ref g1, .ref g2, .ref g3, .ref h1, .int v_isKept]), (h1, xI X 5 u.2)]) hC hr hlk trivial hf hH rfl rfl dX6_meet_25
def f_X6_sum (v_now_people_count : Int32) (v_now_people_ages : (Nat → Int32)) (v_refusals : (Nat → Int32)) (p1 : Int32) : Option (Int32 × (Nat → Int32)) :=
  (f_X6_isSetOf p1 v_now_people_count).bind fun u1 =>
  if u1 = (nI 0) then
    (f_X6_refuse v_refusals (-2 : Int32)).bind fun u3 =>
    some (u3.1, u3.2)
  else
  (f_X3_agesOf v_now_people_count v_now_people_ages p1).bind fun u4 =>
  some (u4, v_refusals)
set_option maxHeartbeats 4000000 in
set_option maxRecDepth 100000 in
theorem c_X6_sum {l : Launch} {X : xG} {h0 h1 h2 h3 h4 g0 g1 g2 g3 g4 : Nat} {v_isKept : Int32} {v_now_inForce : Int32} {v_now_depth : Int32} {v_now_miss : Int32} {v_now_ring : Int64} {v_now_steps : Int32} {v_now_seed : Int32} {v_now_people_count : Int32} {v_now_people_ages : (Nat → Int32)} {v_refusals : (Nat → Int32)} {p1 : Int32} {u : Int32 × (Nat → Int32)} (hf : f_X6_sum v_now_people_count v_now_people_ages v_refusals p1 = some u) : Met l yX6_sum (xw yX6_sum cX6_sum 2 (some .int)) (xrm 3 66) (xPc [.ref h0, .int p1] X [(h0, xO 6 [.ref h1, .ref g0, .ref g1, .ref g2, .ref h4, .int v_isKept]), (h1, xO 0 [.ref g3, .ref h2, .int v_now_inForce, .int v_now_depth, .int v_now_miss, .long v_now_ring, .int v_now_steps, .int v_now_seed]), (h2, xO 3 [.ref h3, .ref g4, .int v_now_people_count]), (h3, xI X 10 v_now_people_ages), (h4, xI X 5 v_refusals)]) (xQw True (.returned (some (.int u.1))) X [(h0, xO 6 [.ref h1, .ref g0, .ref g1, .ref g2, .ref h4, .int v_isKept]), (h1, xO 0 [.ref g3, .ref h2, .int v_now_inForce, .int v_now_depth, .int v_now_miss, .long v_now_ring, .int v_now_steps, .int v_now_seed]), (h2, xO 3 [.ref h3, .ref g4, .int v_now_people_count]), (h3, xI X 10 v_now_people_ages), (h4, xI X 5 u.2)] (xAs [(h0, xO 6 [.ref h1, .ref g0, .ref g1, .ref g2, .ref h4, .int v_isKept]), (h1, xO 0 [.ref g3, .ref h2, .int v_now_inForce, .int v_now_depth, .int v_now_miss, .long v_now_ring, .int v_now_steps, .int v_now_seed]), (h2, xO 3 [.ref h3, .ref g4, .int v_now_people_count]), (h3, xI X 10 v_now_people_ages), (h4, xI X 5 v_refusals)])) 0 0 (xAs [(h0, xO 6 [.ref h1, .ref g0, .ref g1, .ref g2, .ref h4, .int v_isKept]), (h1, xO 0 [.ref g3, .ref h2, .int v_now_inForce, .int v_now_depth, .int v_now_miss, .long v_now_ring, .int v_now_steps, .int v_now_seed]), (h2, xO 3 [.ref h3, .ref g4, .int v_now_people_count]), (h3, xI X 10 v_now_people_ages), (h4, xI X 5 v_refusals)]) := by
  refine xMetw (Qc := fun A => xQw True (.returned (some (.int u.1))) X [(h0, xO 6 [.ref h1, .ref g0, .ref g1, .ref g2, .ref h4, .int v_isKept]), (h1, xO 0 [.ref g3, .ref h2, .int v_now_inForce, .int v_now_depth, .int v_now_miss, .long v_now_ring, .int v_now_steps, .int v_now_seed]), (h2, xO 3 [.ref h3, .ref g4, .int v_now_people_count]), (h3, xI X 10 v_now_people_ages), (h4, xI X 5 u.2)] A) (n := 1) md_X6_sum.1 (Nat.le_of_ble_eq_true rfl) ?_
  intro p e s m args below meth c ls A hC hr hlk hH hl
  have hl : lv_has ls 2 [(0, .ref h0), (1, .int p1)] := hl
  have hx := hC.1
  have hb := hC.2.1
  refine lv_iload_n hx hb dX6_sum_0 rfl (lv_at hl 1 rfl) ?_
  refine lv_aload_n hx hb dX6_sum_1 rfl (lv_at hl 0 rfl) ?_
  refine x_get hC fd_RX6_10 hH.1 0 rfl rfl dX6_sum_2 ?_
  refine x_getN hC fd_RX6_145 hH.1 1 rfl rfl dX6_sum_5 ?_
  refine x_getN hC fd_RX6_301 hH.1 2 rfl rfl dX6_sum_8 ?_
  obtain ⟨u1, hf1, hf⟩ := xb hf
  refine x_ran (x_runS (rest := []) (As := [.int p1, .int v_now_people_count]) hC mw_910 md_X6_isSetOf (c_X6_isSetOf (X := X) hf1) hH [] rfl (by decide) hl.1 rfl rfl (Nat.le_of_ble_eq_true rfl) dX6_sum_11 ⟨Nat.le_of_ble_eq_true rfl, Nat.le_of_ble_eq_true rfl⟩ ⟨rfl, rfl⟩ ⟨Nat.le_refl _, Nat.le_refl _⟩) rfl (fun hz1 => ?_)
  refine lv_if_eq (tgt := 31) hx hb dX6_sum_14 (by decide) (fun c2 => ?_) (fun c2 => ?_)
  · have hf := xt c2 hf
    refine lv_aload_n hx hb dX6_sum_31 rfl (lv_at hl 0 rfl) ?_
    refine lv_bipush (v := (-2 : Int32)) hx hb dX6_sum_32 (by decide) ?_
    obtain ⟨u3, hf3, hf⟩ := xb hf
    refine x_ranw (ws' := [(h0, xO 6 [.ref h1, .ref g0, .ref g1, .ref g2, .ref h4, .int v_isKept]), (h1, xO 0 [.ref g3, .ref h2, .int v_now_inForce, .int v_now_depth, .int v_now_miss, .long v_now_ring, .int v_now_steps, .int v_now_seed]), (h2, xO 3 [.ref h3, .ref g4, .int v_now_people_count]), (h3, xI X 10 v_now_people_ages), (h4, xI X 5 u3.2)]) (x_runV (q0 := 0) (rest := []) (As := [.int (-2 : Int32)]) hC mw_100 md_X6_refuse (c_X6_refuse (X := X) hf3) hH [0, 4] rfl (by decide) rfl rfl rfl hl.1 rfl rfl (Nat.le_of_ble_eq_true rfl) dX6_sum_34 ⟨Nat.le_of_ble_eq_true rfl, Nat.le_of_ble_eq_true rfl⟩ ⟨rfl, rfl⟩ ⟨Nat.le_refl _, Nat.le_refl _⟩) hH [0, 4] rfl rfl rfl rfl rfl (fun hz3 H locs hH => ?_)
    exact x_retiw (φ := fun _ => True) (f := fun u : Int32 × (Nat → Int32) => u.1) (wf := fun u : Int32 × (Nat → Int32) => [(h0, xO 6 [.ref h1, .ref g0, .ref g1, .ref g2, .ref h4, .int v_isKept]), (h1, xO 0 [.ref g3, .ref h2, .int v_now_inForce, .int v_now_depth, .int v_now_miss, .long v_now_ring, .int v_now_steps, .int v_now_seed]), (h2, xO 3 [.ref h3, .ref g4, .int v_now_people_count]), (h3, xI X 10 v_now_people_ages), (h4, xI X 5 u.2)]) hC hr hlk trivial hf hH rfl rfl dX6_sum_37
  · have hf := xe c2 hf
    refine lv_aload_n hx hb dX6_sum_17 rfl (lv_at hl 0 rfl) ?_
    refine x_get hC fd_RX6_10 hH.1 0 rfl rfl dX6_sum_18 ?_
    refine x_getN hC fd_RX6_145 hH.1 1 rfl rfl dX6_sum_21 ?_
    refine lv_iload_n hx hb dX6_sum_24 rfl (lv_at hl 1 rfl) ?_
    obtain ⟨u4, hf4, hf⟩ := xb hf
    refine x_ran (x_runV (q0 := 0) (rest := []) (As := [.int p1]) hC mw_1161 md_X3_agesOf (c_X3_agesOf (X := X) hf4) hH [2, 3] rfl (by decide) rfl rfl rfl hl.1 rfl rfl (Nat.le_of_ble_eq_true rfl) dX6_sum_25 ⟨Nat.le_of_ble_eq_true rfl, Nat.le_of_ble_eq_true rfl⟩ ⟨rfl, rfl⟩ ⟨Nat.le_refl _, Nat.le_refl _⟩) rfl (fun hz4 => ?_)
    refine lv_goto (tgt := 37) hx hb dX6_sum_28 (by decide) ?_
    exact x_retiw (φ := fun _ => True) (f := fun u : Int32 × (Nat → Int32) => u.1) (wf := fun u : Int32 × (Nat → Int32) => [(h0, xO 6 [.ref h1, .ref g0, .ref g1, .ref g2, .ref h4, .int v_isKept]), (h1, xO 0 [.ref g3, .ref h2, .int v_now_inForce, .int v_now_depth, .int v_now_miss, .long v_now_ring, .int v_now_steps, .int v_now_seed]), (h2, xO 3 [.ref h3, .ref g4, .int v_now_people_count]), (h3, xI X 10 v_now_people_ages), (h4, xI X 5 u.2)]) hC hr hlk trivial hf hH rfl rfl dX6_sum_37
def f_X6_reached (v_now_people_count : Int32) (v_now_people_ages : (Nat → Int32)) (v_now_people_sums : (Nat → Int64)) (v_refusals : (Nat → Int32)) (p1 : Int32) : Option (Int32 × (Nat → Int64) × (Nat → Int32)) :=
  (f_X6_isWithin p1 (nI 0) (nI 999)).bind fun u1 =>
  if u1 = (nI 0) then
    (f_X6_refuse v_refusals (-2 : Int32)).bind fun u3 =>
    some (u3.1, v_now_people_sums, u3.2)
  else
  (f_X3_howManySums v_now_people_count v_now_people_ages v_now_people_sums p1).bind fun u4 =>
  some (u4.1, u4.2, v_refusals)
set_option maxHeartbeats 4000000 in
set_option maxRecDepth 100000 in
theorem c_X6_reached {l : Launch} {X : xG} {h0 h1 h2 h3 h4 h5 g0 g1 g2 g3 : Nat} {v_isKept : Int32} {v_now_inForce : Int32} {v_now_depth : Int32} {v_now_miss : Int32} {v_now_ring : Int64} {v_now_steps : Int32} {v_now_seed : Int32} {v_now_people_count : Int32} {v_now_people_ages : (Nat → Int32)} {v_now_people_sums : (Nat → Int64)} {v_refusals : (Nat → Int32)} {p1 : Int32} {u : Int32 × (Nat → Int64) × (Nat → Int32)} (hf : f_X6_reached v_now_people_count v_now_people_ages v_now_people_sums v_refusals p1 = some u) : Met l yX6_reached (xw yX6_reached cX6_reached 2 (some .int)) (xrm 4 89) (xPc [.ref h0, .int p1] X [(h0, xO 6 [.ref h1, .ref g0, .ref g1, .ref g2, .ref h5, .int v_isKept]), (h1, xO 0 [.ref g3, .ref h2, .int v_now_inForce, .int v_now_depth, .int v_now_miss, .long v_now_ring, .int v_now_steps, .int v_now_seed]), (h2, xO 3 [.ref h3, .ref h4, .int v_now_people_count]), (h3, xI X 10 v_now_people_ages), (h4, xJ X 16 v_now_people_sums), (h5, xI X 5 v_refusals)]) (xQw True (.returned (some (.int u.1))) X [(h0, xO 6 [.ref h1, .ref g0, .ref g1, .ref g2, .ref h5, .int v_isKept]), (h1, xO 0 [.ref g3, .ref h2, .int v_now_inForce, .int v_now_depth, .int v_now_miss, .long v_now_ring, .int v_now_steps, .int v_now_seed]), (h2, xO 3 [.ref h3, .ref h4, .int v_now_people_count]), (h3, xI X 10 v_now_people_ages), (h4, xJ X 16 u.2.1), (h5, xI X 5 u.2.2)] (xAs [(h0, xO 6 [.ref h1, .ref g0, .ref g1, .ref g2, .ref h5, .int v_isKept]), (h1, xO 0 [.ref g3, .ref h2, .int v_now_inForce, .int v_now_depth, .int v_now_miss, .long v_now_ring, .int v_now_steps, .int v_now_seed]), (h2, xO 3 [.ref h3, .ref h4, .int v_now_people_count]), (h3, xI X 10 v_now_people_ages), (h4, xJ X 16 v_now_people_sums), (h5, xI X 5 v_refusals)])) 0 0 (xAs [(h0, xO 6 [.ref h1, .ref g0, .ref g1, .ref g2, .ref h5, .int v_isKept]), (h1, xO 0 [.ref g3, .ref h2, .int v_now_inForce, .int v_now_depth, .int v_now_miss, .long v_now_ring, .int v_now_steps, .int v_now_seed]), (h2, xO 3 [.ref h3, .ref h4, .int v_now_people_count]), (h3, xI X 10 v_now_people_ages), (h4, xJ X 16 v_now_people_sums), (h5, xI X 5 v_refusals)]) := by
  refine xMetw (Qc := fun A => xQw True (.returned (some (.int u.1))) X [(h0, xO 6 [.ref h1, .ref g0, .ref g1, .ref g2, .ref h5, .int v_isKept]), (h1, xO 0 [.ref g3, .ref h2, .int v_now_inForce, .int v_now_depth, .int v_now_miss, .long v_now_ring, .int v_now_steps, .int v_now_seed]), (h2, xO 3 [.ref h3, .ref h4, .int v_now_people_count]), (h3, xI X 10 v_now_people_ages), (h4, xJ X 16 u.2.1), (h5, xI X 5 u.2.2)] A) (n := 1) md_X6_reached.1 (Nat.le_of_ble_eq_true rfl) ?_
  intro p e s m args below meth c ls A hC hr hlk hH hl
  have hl : lv_has ls 2 [(0, .ref h0), (1, .int p1)] := hl
  have hx := hC.1
  have hb := hC.2.1
  refine lv_iload_n hx hb dX6_reached_0 rfl (lv_at hl 1 rfl) ?_
  refine lv_iconst (v := (nI 0)) hx hb dX6_reached_1 (by decide) ?_
  refine lv_sipush (v := (nI 999)) hx hb dX6_reached_2 (by decide) ?_
  obtain ⟨u1, hf1, hf⟩ := xb hf
  refine x_ran (x_runS (rest := []) (As := [.int p1, .int (nI 0), .int (nI 999)]) hC mw_99 md_X6_isWithin (c_X6_isWithin (X := X) hf1) hH [] rfl (by decide) hl.1 rfl rfl (Nat.le_of_ble_eq_true rfl) dX6_reached_5 ⟨Nat.le_of_ble_eq_true rfl, Nat.le_of_ble_eq_true rfl⟩ ⟨rfl, rfl⟩ ⟨Nat.le_refl _, Nat.le_refl _⟩) rfl (fun hz1 => ?_)
  refine lv_if_eq (tgt := 25) hx hb dX6_reached_8 (by decide) (fun c2 => ?_) (fun c2 => ?_)
  · have hf := xt c2 hf
    refine lv_aload_n hx hb dX6_reached_25 rfl (lv_at hl 0 rfl) ?_
    refine lv_bipush (v := (-2 : Int32)) hx hb dX6_reached_26 (by decide) ?_
    obtain ⟨u3, hf3, hf⟩ := xb hf
    refine x_ranw (ws' := [(h0, xO 6 [.ref h1, .ref g0, .ref g1, .ref g2, .ref h5, .int v_isKept]), (h1, xO 0 [.ref g3, .ref h2, .int v_now_inForce, .int v_now_depth, .int v_now_miss, .long v_now_ring, .int v_now_steps, .int v_now_seed]), (h2, xO 3 [.ref h3, .ref h4, .int v_now_people_count]), (h3, xI X 10 v_now_people_ages), (h4, xJ X 16 v_now_people_sums), (h5, xI X 5 u3.2)]) (x_runV (q0 := 0) (rest := []) (As := [.int (-2 : Int32)]) hC mw_100 md_X6_refuse (c_X6_refuse (X := X) hf3) hH [0, 5] rfl (by decide) rfl rfl rfl hl.1 rfl rfl (Nat.le_of_ble_eq_true rfl) dX6_reached_28 ⟨Nat.le_of_ble_eq_true rfl, Nat.le_of_ble_eq_true rfl⟩ ⟨rfl, rfl⟩ ⟨Nat.le_refl _, Nat.le_refl _⟩) hH [0, 5] rfl rfl rfl rfl rfl (fun hz3 H locs hH => ?_)
    exact x_retiw (φ := fun _ => True) (f := fun u : Int32 × (Nat → Int64) × (Nat → Int32) => u.1) (wf := fun u : Int32 × (Nat → Int64) × (Nat → Int32) => [(h0, xO 6 [.ref h1, .ref g0, .ref g1, .ref g2, .ref h5, .int v_isKept]), (h1, xO 0 [.ref g3, .ref h2, .int v_now_inForce, .int v_now_depth, .int v_now_miss, .long v_now_ring, .int v_now_steps, .int v_now_seed]), (h2, xO 3 [.ref h3, .ref h4, .int v_now_people_count]), (h3, xI X 10 v_now_people_ages), (h4, xJ X 16 u.2.1), (h5, xI X 5 u.2.2)]) hC hr hlk trivial hf hH rfl rfl dX6_reached_31
  · have hf := xe c2 hf
    refine lv_aload_n hx hb dX6_reached_11 rfl (lv_at hl 0 rfl) ?_
    refine x_get hC fd_RX6_10 hH.1 0 rfl rfl dX6_reached_12 ?_
    refine x_getN hC fd_RX6_145 hH.1 1 rfl rfl dX6_reached_15 ?_
    refine lv_iload_n hx hb dX6_reached_18 rfl (lv_at hl 1 rfl) ?_
    obtain ⟨u4, hf4, hf⟩ := xb hf
    refine x_ranw (ws' := [(h0, xO 6 [.ref h1, .ref g0, .ref g1, .ref g2, .ref h5, .int v_isKept]), (h1, xO 0 [.ref g3, .ref h2, .int v_now_inForce, .int v_now_depth, .int v_now_miss, .long v_now_ring, .int v_now_steps, .int v_now_seed]), (h2, xO 3 [.ref h3, .ref h4, .int v_now_people_count]), (h3, xI X 10 v_now_people_ages), (h4, xJ X 16 u4.2), (h5, xI X 5 v_refusals)]) (x_runV (q0 := 0) (rest := []) (As := [.int p1]) hC mw_1170 md_X3_howManySums (c_X3_howManySums (X := X) hf4) hH [2, 3, 4] rfl (by decide) rfl rfl rfl hl.1 rfl rfl (Nat.le_of_ble_eq_true rfl) dX6_reached_19 ⟨Nat.le_of_ble_eq_true rfl, Nat.le_of_ble_eq_true rfl⟩ ⟨rfl, rfl⟩ ⟨Nat.le_refl _, Nat.le_refl _⟩) hH [2, 3, 4] rfl rfl rfl rfl rfl (fun hz4 H locs hH => ?_)
    refine lv_goto (tgt := 31) hx hb dX6_reached_22 (by decide) ?_
    exact x_retiw (φ := fun _ => True) (f := fun u : Int32 × (Nat → Int64) × (Nat → Int32) => u.1) (wf := fun u : Int32 × (Nat → Int64) × (Nat → Int32) => [(h0, xO 6 [.ref h1, .ref g0, .ref g1, .ref g2, .ref h5, .int v_isKept]), (h1, xO 0 [.ref g3, .ref h2, .int v_now_inForce, .int v_now_depth, .int v_now_miss, .long v_now_ring, .int v_now_steps, .int v_now_seed]), (h2, xO 3 [.ref h3, .ref h4, .int v_now_people_count]), (h3, xI X 10 v_now_people_ages), (h4, xJ X 16 u.2.1), (h5, xI X 5 u.2.2)]) hC hr hlk trivial hf hH rfl rfl dX6_reached_31
def f_X6_halves (v_now_people_count : Int32) (v_now_people_ages : (Nat → Int32)) : Option (Int32) :=
  (f_X3_nearestToHalf v_now_people_count v_now_people_ages).bind fun u1 =>
  some u1
set_option maxHeartbeats 4000000 in
set_option maxRecDepth 100000 in
theorem c_X6_halves {l : Launch} {X : xG} {h0 h1 h2 h3 g0 g1 g2 g3 g4 g5 : Nat} {v_isKept : Int32} {v_now_inForce : Int32} {v_now_depth : Int32} {v_now_miss : Int32} {v_now_ring : Int64} {v_now_steps : Int32} {v_now_seed : Int32} {v_now_people_count : Int32} {v_now_people_ages : (Nat → Int32)} {u : Int32} (hf : f_X6_halves v_now_people_count v_now_people_ages = some u) : Met l yX6_halves (xw yX6_halves cX6_halves 1 (some .int)) (xrm 5 111) (xPc [.ref h0] X [(h0, xO 6 [.ref h1, .ref g0, .ref g1, .ref g2, .ref g3, .int v_isKept]), (h1, xO 0 [.ref g4, .ref h2, .int v_now_inForce, .int v_now_depth, .int v_now_miss, .long v_now_ring, .int v_now_steps, .int v_now_seed]), (h2, xO 3 [.ref h3, .ref g5, .int v_now_people_count]), (h3, xI X 10 v_now_people_ages)]) (xQ True (.returned (some (.int u)))) 0 0 xNo := by
  refine xMet (n := 0) md_X6_halves.1 (Nat.le_of_ble_eq_true rfl) ?_
  intro p e s m args below meth c ls A hC hr hlk hH hl
  have hl : lv_has ls 1 [(0, .ref h0)] := hl
  have hx := hC.1
  have hb := hC.2.1
  refine lv_aload_n hx hb dX6_halves_0 rfl (lv_at hl 0 rfl) ?_
  refine x_get hC fd_RX6_10 hH.1 0 rfl rfl dX6_halves_1 ?_
  refine x_getN hC fd_RX6_145 hH.1 1 rfl rfl dX6_halves_4 ?_
  obtain ⟨u1, hf1, hf⟩ := xb hf
  refine x_ran (x_runV (q0 := 0) (rest := []) (As := []) hC mw_1187 md_X3_nearestToHalf (c_X3_nearestToHalf (X := X) hf1) hH [2, 3] rfl (by decide) rfl rfl rfl hl.1 rfl rfl (Nat.le_of_ble_eq_true rfl) dX6_halves_7 ⟨Nat.le_of_ble_eq_true rfl, Nat.le_of_ble_eq_true rfl⟩ ⟨rfl, rfl⟩ ⟨Nat.le_refl _, Nat.le_refl _⟩) rfl (fun hz1 => ?_)
  exact x_reti hC hr hlk trivial hf dX6_halves_10
def f_X6_ranked (v_now_people_count : Int32) (v_now_people_ages : (Nat → Int32)) (v_refusals : (Nat → Int32)) (p1 : Int32) : Option (Int32 × (Nat → Int32)) :=
  (f_X3_isThere v_now_people_count p1).bind fun u1 =>
  if u1 = (nI 0) then
    (f_X6_refuse v_refusals (-2 : Int32)).bind fun u3 =>
    some (u3.1, u3.2)
  else
  (f_X3_withRank v_now_people_count v_now_people_ages p1).bind fun u4 =>
  some (u4, v_refusals)
set_option maxHeartbeats 4000000 in
set_option maxRecDepth 100000 in
theorem c_X6_ranked {l : Launch} {X : xG} {h0 h1 h2 h3 h4 g0 g1 g2 g3 g4 : Nat} {v_isKept : Int32} {v_now_inForce : Int32} {v_now_depth : Int32} {v_now_miss : Int32} {v_now_ring : Int64} {v_now_steps : Int32} {v_now_seed : Int32} {v_now_people_count : Int32} {v_now_people_ages : (Nat → Int32)} {v_refusals : (Nat → Int32)} {p1 : Int32} {u : Int32 × (Nat → Int32)} (hf : f_X6_ranked v_now_people_count v_now_people_ages v_refusals p1 = some u) : Met l yX6_ranked (xw yX6_ranked cX6_ranked 2 (some .int)) (xrm 4 88) (xPc [.ref h0, .int p1] X [(h0, xO 6 [.ref h1, .ref g0, .ref g1, .ref g2, .ref h4, .int v_isKept]), (h1, xO 0 [.ref g3, .ref h2, .int v_now_inForce, .int v_now_depth, .int v_now_miss, .long v_now_ring, .int v_now_steps, .int v_now_seed]), (h2, xO 3 [.ref h3, .ref g4, .int v_now_people_count]), (h3, xI X 10 v_now_people_ages), (h4, xI X 5 v_refusals)]) (xQw True (.returned (some (.int u.1))) X [(h0, xO 6 [.ref h1, .ref g0, .ref g1, .ref g2, .ref h4, .int v_isKept]), (h1, xO 0 [.ref g3, .ref h2, .int v_now_inForce, .int v_now_depth, .int v_now_miss, .long v_now_ring, .int v_now_steps, .int v_now_seed]), (h2, xO 3 [.ref h3, .ref g4, .int v_now_people_count]), (h3, xI X 10 v_now_people_ages), (h4, xI X 5 u.2)] (xAs [(h0, xO 6 [.ref h1, .ref g0, .ref g1, .ref g2, .ref h4, .int v_isKept]), (h1, xO 0 [.ref g3, .ref h2, .int v_now_inForce, .int v_now_depth, .int v_now_miss, .long v_now_ring, .int v_now_steps, .int v_now_seed]), (h2, xO 3 [.ref h3, .ref g4, .int v_now_people_count]), (h3, xI X 10 v_now_people_ages), (h4, xI X 5 v_refusals)])) 0 0 (xAs [(h0, xO 6 [.ref h1, .ref g0, .ref g1, .ref g2, .ref h4, .int v_isKept]), (h1, xO 0 [.ref g3, .ref h2, .int v_now_inForce, .int v_now_depth, .int v_now_miss, .long v_now_ring, .int v_now_steps, .int v_now_seed]), (h2, xO 3 [.ref h3, .ref g4, .int v_now_people_count]), (h3, xI X 10 v_now_people_ages), (h4, xI X 5 v_refusals)]) := by
  refine xMetw (Qc := fun A => xQw True (.returned (some (.int u.1))) X [(h0, xO 6 [.ref h1, .ref g0, .ref g1, .ref g2, .ref h4, .int v_isKept]), (h1, xO 0 [.ref g3, .ref h2, .int v_now_inForce, .int v_now_depth, .int v_now_miss, .long v_now_ring, .int v_now_steps, .int v_now_seed]), (h2, xO 3 [.ref h3, .ref g4, .int v_now_people_count]), (h3, xI X 10 v_now_people_ages), (h4, xI X 5 u.2)] A) (n := 1) md_X6_ranked.1 (Nat.le_of_ble_eq_true rfl) ?_
  intro p e s m args below meth c ls A hC hr hlk hH hl
  have hl : lv_has ls 2 [(0, .ref h0), (1, .int p1)] := hl
  have hx := hC.1
  have hb := hC.2.1
  refine lv_aload_n hx hb dX6_ranked_0 rfl (lv_at hl 0 rfl) ?_
  refine x_get hC fd_RX6_10 hH.1 0 rfl rfl dX6_ranked_1 ?_
  refine x_getN hC fd_RX6_145 hH.1 1 rfl rfl dX6_ranked_4 ?_
  refine lv_iload_n hx hb dX6_ranked_7 rfl (lv_at hl 1 rfl) ?_
  obtain ⟨u1, hf1, hf⟩ := xb hf
  refine x_ran (x_runV (q0 := 0) (rest := []) (As := [.int p1]) hC mw_656 md_X3_isThere (c_X3_isThere (X := X) hf1) hH [2] rfl (by decide) rfl rfl rfl hl.1 rfl rfl (Nat.le_of_ble_eq_true rfl) dX6_ranked_8 ⟨Nat.le_of_ble_eq_true rfl, Nat.le_of_ble_eq_true rfl⟩ ⟨rfl, rfl⟩ ⟨Nat.le_refl _, Nat.le_refl _⟩) rfl (fun hz1 => ?_)
  refine lv_if_eq (tgt := 28) hx hb dX6_ranked_11 (by decide) (fun c2 => ?_) (fun c2 => ?_)
  · have hf := xt c2 hf
    refine lv_aload_n hx hb dX6_ranked_28 rfl (lv_at hl 0 rfl) ?_
    refine lv_bipush (v := (-2 : Int32)) hx hb dX6_ranked_29 (by decide) ?_
    obtain ⟨u3, hf3, hf⟩ := xb hf
    refine x_ranw (ws' := [(h0, xO 6 [.ref h1, .ref g0, .ref g1, .ref g2, .ref h4, .int v_isKept]), (h1, xO 0 [.ref g3, .ref h2, .int v_now_inForce, .int v_now_depth, .int v_now_miss, .long v_now_ring, .int v_now_steps, .int v_now_seed]), (h2, xO 3 [.ref h3, .ref g4, .int v_now_people_count]), (h3, xI X 10 v_now_people_ages), (h4, xI X 5 u3.2)]) (x_runV (q0 := 0) (rest := []) (As := [.int (-2 : Int32)]) hC mw_100 md_X6_refuse (c_X6_refuse (X := X) hf3) hH [0, 4] rfl (by decide) rfl rfl rfl hl.1 rfl rfl (Nat.le_of_ble_eq_true rfl) dX6_ranked_31 ⟨Nat.le_of_ble_eq_true rfl, Nat.le_of_ble_eq_true rfl⟩ ⟨rfl, rfl⟩ ⟨Nat.le_refl _, Nat.le_refl _⟩) hH [0, 4] rfl rfl rfl rfl rfl (fun hz3 H locs hH => ?_)
    exact x_retiw (φ := fun _ => True) (f := fun u : Int32 × (Nat → Int32) => u.1) (wf := fun u : Int32 × (Nat → Int32) => [(h0, xO 6 [.ref h1, .ref g0, .ref g1, .ref g2, .ref h4, .int v_isKept]), (h1, xO 0 [.ref g3, .ref h2, .int v_now_inForce, .int v_now_depth, .int v_now_miss, .long v_now_ring, .int v_now_steps, .int v_now_seed]), (h2, xO 3 [.ref h3, .ref g4, .int v_now_people_count]), (h3, xI X 10 v_now_people_ages), (h4, xI X 5 u.2)]) hC hr hlk trivial hf hH rfl rfl dX6_ranked_34
  · have hf := xe c2 hf
    refine lv_aload_n hx hb dX6_ranked_14 rfl (lv_at hl 0 rfl) ?_
    refine x_get hC fd_RX6_10 hH.1 0 rfl rfl dX6_ranked_15 ?_
    refine x_getN hC fd_RX6_145 hH.1 1 rfl rfl dX6_ranked_18 ?_
    refine lv_iload_n hx hb dX6_ranked_21 rfl (lv_at hl 1 rfl) ?_
    obtain ⟨u4, hf4, hf⟩ := xb hf
    refine x_ran (x_runV (q0 := 0) (rest := []) (As := [.int p1]) hC mw_1207 md_X3_withRank (c_X3_withRank (X := X) hf4) hH [2, 3] rfl (by decide) rfl rfl rfl hl.1 rfl rfl (Nat.le_of_ble_eq_true rfl) dX6_ranked_22 ⟨Nat.le_of_ble_eq_true rfl, Nat.le_of_ble_eq_true rfl⟩ ⟨rfl, rfl⟩ ⟨Nat.le_refl _, Nat.le_refl _⟩) rfl (fun hz4 => ?_)
    refine lv_goto (tgt := 34) hx hb dX6_ranked_25 (by decide) ?_
    exact x_retiw (φ := fun _ => True) (f := fun u : Int32 × (Nat → Int32) => u.1) (wf := fun u : Int32 × (Nat → Int32) => [(h0, xO 6 [.ref h1, .ref g0, .ref g1, .ref g2, .ref h4, .int v_isKept]), (h1, xO 0 [.ref g3, .ref h2, .int v_now_inForce, .int v_now_depth, .int v_now_miss, .long v_now_ring, .int v_now_steps, .int v_now_seed]), (h2, xO 3 [.ref h3, .ref g4, .int v_now_people_count]), (h3, xI X 10 v_now_people_ages), (h4, xI X 5 u.2)]) hC hr hlk trivial hf hH rfl rfl dX6_ranked_34
def f_X6_oldest (v_now_people_count : Int32) (v_now_people_ages : (Nat → Int32)) (v_refusals : (Nat → Int32)) : Option (Int32 × (Nat → Int32)) :=
  if v_now_people_count ≤ (nI 0) then
    (f_X6_refuse v_refusals (-5 : Int32)).bind fun u2 =>
    some (u2.1, u2.2)
  else
  (f_X3_firstOldest v_now_people_count v_now_people_ages).bind fun u3 =>
  some (u3, v_refusals)
set_option maxHeartbeats 4000000 in
set_option maxRecDepth 100000 in
theorem c_X6_oldest {l : Launch} {X : xG} {h0 h1 h2 h3 h4 g0 g1 g2 g3 g4 : Nat} {v_isKept : Int32} {v_now_inForce : Int32} {v_now_depth : Int32} {v_now_miss : Int32} {v_now_ring : Int64} {v_now_steps : Int32} {v_now_seed : Int32} {v_now_people_count : Int32} {v_now_people_ages : (Nat → Int32)} {v_refusals : (Nat → Int32)} {u : Int32 × (Nat → Int32)} (hf : f_X6_oldest v_now_people_count v_now_people_ages v_refusals = some u) : Met l yX6_oldest (xw yX6_oldest cX6_oldest 1 (some .int)) (xrm 3 65) (xPc [.ref h0] X [(h0, xO 6 [.ref h1, .ref g0, .ref g1, .ref g2, .ref h4, .int v_isKept]), (h1, xO 0 [.ref g3, .ref h2, .int v_now_inForce, .int v_now_depth, .int v_now_miss, .long v_now_ring, .int v_now_steps, .int v_now_seed]), (h2, xO 3 [.ref h3, .ref g4, .int v_now_people_count]), (h3, xI X 10 v_now_people_ages), (h4, xI X 5 v_refusals)]) (xQw True (.returned (some (.int u.1))) X [(h0, xO 6 [.ref h1, .ref g0, .ref g1, .ref g2, .ref h4, .int v_isKept]), (h1, xO 0 [.ref g3, .ref h2, .int v_now_inForce, .int v_now_depth, .int v_now_miss, .long v_now_ring, .int v_now_steps, .int v_now_seed]), (h2, xO 3 [.ref h3, .ref g4, .int v_now_people_count]), (h3, xI X 10 v_now_people_ages), (h4, xI X 5 u.2)] (xAs [(h0, xO 6 [.ref h1, .ref g0, .ref g1, .ref g2, .ref h4, .int v_isKept]), (h1, xO 0 [.ref g3, .ref h2, .int v_now_inForce, .int v_now_depth, .int v_now_miss, .long v_now_ring, .int v_now_steps, .int v_now_seed]), (h2, xO 3 [.ref h3, .ref g4, .int v_now_people_count]), (h3, xI X 10 v_now_people_ages), (h4, xI X 5 v_refusals)])) 0 0 (xAs [(h0, xO 6 [.ref h1, .ref g0, .ref g1, .ref g2, .ref h4, .int v_isKept]), (h1, xO 0 [.ref g3, .ref h2, .int v_now_inForce, .int v_now_depth, .int v_now_miss, .long v_now_ring, .int v_now_steps, .int v_now_seed]), (h2, xO 3 [.ref h3, .ref g4, .int v_now_people_count]), (h3, xI X 10 v_now_people_ages), (h4, xI X 5 v_refusals)]) := by
  refine xMetw (Qc := fun A => xQw True (.returned (some (.int u.1))) X [(h0, xO 6 [.ref h1, .ref g0, .ref g1, .ref g2, .ref h4, .int v_isKept]), (h1, xO 0 [.ref g3, .ref h2, .int v_now_inForce, .int v_now_depth, .int v_now_miss, .long v_now_ring, .int v_now_steps, .int v_now_seed]), (h2, xO 3 [.ref h3, .ref g4, .int v_now_people_count]), (h3, xI X 10 v_now_people_ages), (h4, xI X 5 u.2)] A) (n := 0) md_X6_oldest.1 (Nat.le_of_ble_eq_true rfl) ?_
  intro p e s m args below meth c ls A hC hr hlk hH hl
  have hl : lv_has ls 1 [(0, .ref h0)] := hl
  have hx := hC.1
  have hb := hC.2.1
  refine lv_aload_n hx hb dX6_oldest_0 rfl (lv_at hl 0 rfl) ?_
  refine x_get hC fd_RX6_10 hH.1 0 rfl rfl dX6_oldest_1 ?_
  refine x_getN hC fd_RX6_145 hH.1 1 rfl rfl dX6_oldest_4 ?_
  refine x_getN hC fd_RX6_301 hH.1 2 rfl rfl dX6_oldest_7 ?_
  refine lv_if_le (tgt := 26) hx hb dX6_oldest_10 (by decide) (fun c1 => ?_) (fun c1 => ?_)
  · have hf := xt c1 hf
    refine lv_aload_n hx hb dX6_oldest_26 rfl (lv_at hl 0 rfl) ?_
    refine lv_bipush (v := (-5 : Int32)) hx hb dX6_oldest_27 (by decide) ?_
    obtain ⟨u2, hf2, hf⟩ := xb hf
    refine x_ranw (ws' := [(h0, xO 6 [.ref h1, .ref g0, .ref g1, .ref g2, .ref h4, .int v_isKept]), (h1, xO 0 [.ref g3, .ref h2, .int v_now_inForce, .int v_now_depth, .int v_now_miss, .long v_now_ring, .int v_now_steps, .int v_now_seed]), (h2, xO 3 [.ref h3, .ref g4, .int v_now_people_count]), (h3, xI X 10 v_now_people_ages), (h4, xI X 5 u2.2)]) (x_runV (q0 := 0) (rest := []) (As := [.int (-5 : Int32)]) hC mw_100 md_X6_refuse (c_X6_refuse (X := X) hf2) hH [0, 4] rfl (by decide) rfl rfl rfl hl.1 rfl rfl (Nat.le_of_ble_eq_true rfl) dX6_oldest_29 ⟨Nat.le_of_ble_eq_true rfl, Nat.le_of_ble_eq_true rfl⟩ ⟨rfl, rfl⟩ ⟨Nat.le_refl _, Nat.le_refl _⟩) hH [0, 4] rfl rfl rfl rfl rfl (fun hz2 H locs hH => ?_)
    exact x_retiw (φ := fun _ => True) (f := fun u : Int32 × (Nat → Int32) => u.1) (wf := fun u : Int32 × (Nat → Int32) => [(h0, xO 6 [.ref h1, .ref g0, .ref g1, .ref g2, .ref h4, .int v_isKept]), (h1, xO 0 [.ref g3, .ref h2, .int v_now_inForce, .int v_now_depth, .int v_now_miss, .long v_now_ring, .int v_now_steps, .int v_now_seed]), (h2, xO 3 [.ref h3, .ref g4, .int v_now_people_count]), (h3, xI X 10 v_now_people_ages), (h4, xI X 5 u.2)]) hC hr hlk trivial hf hH rfl rfl dX6_oldest_32
  · have hf := xe c1 hf
    refine lv_aload_n hx hb dX6_oldest_13 rfl (lv_at hl 0 rfl) ?_
    refine x_get hC fd_RX6_10 hH.1 0 rfl rfl dX6_oldest_14 ?_
    refine x_getN hC fd_RX6_145 hH.1 1 rfl rfl dX6_oldest_17 ?_
    obtain ⟨u3, hf3, hf⟩ := xb hf
    refine x_ran (x_runV (q0 := 0) (rest := []) (As := []) hC mw_1223 md_X3_firstOldest (c_X3_firstOldest (X := X) hf3) hH [2, 3] rfl (by decide) rfl rfl rfl hl.1 rfl rfl (Nat.le_of_ble_eq_true rfl) dX6_oldest_20 ⟨Nat.le_of_ble_eq_true rfl, Nat.le_of_ble_eq_true rfl⟩ ⟨rfl, rfl⟩ ⟨Nat.le_refl _, Nat.le_refl _⟩) rfl (fun hz3 => ?_)
    refine lv_goto (tgt := 32) hx hb dX6_oldest_23 (by decide) ?_
    exact x_retiw (φ := fun _ => True) (f := fun u : Int32 × (Nat → Int32) => u.1) (wf := fun u : Int32 × (Nat → Int32) => [(h0, xO 6 [.ref h1, .ref g0, .ref g1, .ref g2, .ref h4, .int v_isKept]), (h1, xO 0 [.ref g3, .ref h2, .int v_now_inForce, .int v_now_depth, .int v_now_miss, .long v_now_ring, .int v_now_steps, .int v_now_seed]), (h2, xO 3 [.ref h3, .ref g4, .int v_now_people_count]), (h3, xI X 10 v_now_people_ages), (h4, xI X 5 u.2)]) hC hr hlk trivial hf hH rfl rfl dX6_oldest_32
def f_X6_refusalOfToldRow (v_shelves_held : (Nat → Int32)) (v_shelves_sizes : (Nat → Int32)) (p1 : Int32) (p2 : Int32) : Option (Int32) :=
  (f_X6_isWithin p2 (nI 0) (nI 40)).bind fun u1 =>
  if u1 = (nI 0) then
    some (-2 : Int32)
  else
  (f_X6_refusalOfRow v_shelves_held p1).bind fun u3 =>
  if u3 = (nI 0) then
    (f_X4_sizeOf v_shelves_sizes p1).bind fun u5 =>
    if p2 ≤ u5 then
      some u3
    else
    some (-2 : Int32)
  else
  some u3
set_option maxHeartbeats 4000000 in
set_option maxRecDepth 100000 in
theorem c_X6_refusalOfToldRow {l : Launch} {X : xG} {h0 h1 h2 h3 g0 g1 g2 g3 g4 : Nat} {v_isKept : Int32} {v_shelves_held : (Nat → Int32)} {v_shelves_sizes : (Nat → Int32)} {p1 : Int32} {p2 : Int32} {u : Int32} (hf : f_X6_refusalOfToldRow v_shelves_held v_shelves_sizes p1 p2 = some u) : Met l yX6_refusalOfToldRow (xw yX6_refusalOfToldRow cX6_refusalOfToldRow 4 (some .int)) (xrm 4 85) (xPc [.ref h0, .int p1, .int p2] X [(h0, xO 6 [.ref g0, .ref g1, .ref g2, .ref h1, .ref g3, .int v_isKept]), (h1, xO 4 [.ref h2, .ref h3, .ref g4]), (h2, xI X 8 v_shelves_held), (h3, xI X 8 v_shelves_sizes)]) (xQ True (.returned (some (.int u)))) 0 0 xNo := by
  refine xMet (n := 2) md_X6_refusalOfToldRow.1 (Nat.le_of_ble_eq_true rfl) ?_
  intro p e s m args below meth c ls A hC hr hlk hH hl
  have hl : lv_has ls 4 [(0, .ref h0), (1, .int p1), (2, .int p2)] := hl
  have hx := hC.1
  have hb := hC.2.1
  refine lv_iload_n hx hb dX6_refusalOfToldRow_0 rfl (lv_at hl 2 rfl) ?_
  refine lv_iconst (v := (nI 0)) hx hb dX6_refusalOfToldRow_1 (by decide) ?_
  refine lv_bipush (v := (nI 40)) hx hb dX6_refusalOfToldRow_2 (by decide) ?_
  obtain ⟨u1, hf1, hf⟩ := xb hf
  refine x_ran (x_runS (rest := []) (As := [.int p2, .int (nI 0), .int (nI 40)]) hC mw_99 md_X6_isWithin (c_X6_isWithin (X := X) hf1) hH [] rfl (by decide) hl.1 rfl rfl (Nat.le_of_ble_eq_true rfl) dX6_refusalOfToldRow_4 ⟨Nat.le_of_ble_eq_true rfl, Nat.le_of_ble_eq_true rfl⟩ ⟨rfl, rfl⟩ ⟨Nat.le_refl _, Nat.le_refl _⟩) rfl (fun hz1 => ?_)
  refine lv_if_ne (tgt := 13) hx hb dX6_refusalOfToldRow_7 (by decide) (fun c2 => ?_) (fun c2 => ?_)
  · have hf := xe c2 hf
    refine lv_aload_n hx hb dX6_refusalOfToldRow_13 rfl (lv_at hl 0 rfl) ?_
    refine lv_iload_n hx hb dX6_refusalOfToldRow_14 rfl (lv_at hl 1 rfl) ?_
    obtain ⟨u3, hf3, hf⟩ := xb hf
    refine x_ran (x_runV (q0 := 0) (rest := []) (As := [.int p1]) hC mw_151 md_X6_refusalOfRow (c_X6_refusalOfRow (X := X) hf3) hH [0, 1, 2] rfl (by decide) rfl rfl rfl hl.1 rfl rfl (Nat.le_of_ble_eq_true rfl) dX6_refusalOfToldRow_15 ⟨Nat.le_of_ble_eq_true rfl, Nat.le_of_ble_eq_true rfl⟩ ⟨rfl, rfl⟩ ⟨Nat.le_refl _, Nat.le_refl _⟩) rfl (fun hz3 => ?_)
    refine lv_istore_n (lv' := [(3, .int u3), (0, .ref h0), (1, .int p1), (2, .int p2)]) hx hb dX6_refusalOfToldRow_18 rfl hl (by decide) rfl (fun ls hl => ?_)
    refine lv_iload_n hx hb dX6_refusalOfToldRow_19 rfl (lv_at hl 0 rfl) ?_
    refine lv_if_ne (tgt := 40) hx hb dX6_refusalOfToldRow_20 (by decide) (fun c4 => ?_) (fun c4 => ?_)
    · have hf := xe c4 hf
      refine lv_iload_n hx hb dX6_refusalOfToldRow_40 rfl (lv_at hl 0 rfl) ?_
      exact x_reti hC hr hlk trivial hf dX6_refusalOfToldRow_41
    · have hf := xt c4 hf
      refine lv_aload_n hx hb dX6_refusalOfToldRow_23 rfl (lv_at hl 1 rfl) ?_
      refine x_get hC fd_RX6_29 hH.1 0 rfl rfl dX6_refusalOfToldRow_24 ?_
      refine lv_iload_n hx hb dX6_refusalOfToldRow_27 rfl (lv_at hl 2 rfl) ?_
      obtain ⟨u5, hf5, hf⟩ := xb hf
      refine x_ran (x_runV (q0 := 0) (rest := []) (As := [.int p1]) hC mw_163 md_X4_sizeOf (c_X4_sizeOf (X := X) hf5) hH [1, 3] rfl (by decide) rfl rfl rfl hl.1 rfl rfl (Nat.le_of_ble_eq_true rfl) dX6_refusalOfToldRow_28 ⟨Nat.le_of_ble_eq_true rfl, Nat.le_of_ble_eq_true rfl⟩ ⟨rfl, rfl⟩ ⟨Nat.le_refl _, Nat.le_refl _⟩) rfl (fun hz5 => ?_)
      refine lv_iload_n hx hb dX6_refusalOfToldRow_31 rfl (lv_at hl 3 rfl) ?_
      refine lv_icmp_ge (tgt := 40) hx hb dX6_refusalOfToldRow_32 (by decide) (fun c6 => ?_) (fun c6 => ?_)
      · have hf := xt c6 hf
        refine lv_iload_n hx hb dX6_refusalOfToldRow_40 rfl (lv_at hl 0 rfl) ?_
        exact x_reti hC hr hlk trivial hf dX6_refusalOfToldRow_41
      · have hf := xe c6 hf
        refine lv_bipush (v := (-2 : Int32)) hx hb dX6_refusalOfToldRow_35 (by decide) ?_
        refine lv_goto (tgt := 41) hx hb dX6_refusalOfToldRow_37 (by decide) ?_
        exact x_reti hC hr hlk trivial hf dX6_refusalOfToldRow_41
  · have hf := xt c2 hf
    refine lv_bipush (v := (-2 : Int32)) hx hb dX6_refusalOfToldRow_10 (by decide) ?_
    exact x_reti hC hr hlk trivial hf dX6_refusalOfToldRow_12
def f_X6_judge (v_refusals : (Nat → Int32)) (v_shelves_elements : (Nat → Int64)) (v_shelves_held : (Nat → Int32)) (v_shelves_sizes : (Nat → Int32)) (p1 : Int32) (p2 : Int32) : Option (Int32 × (Nat → Int32)) :=
  (f_X6_refusalOfToldRow v_shelves_held v_shelves_sizes p1 p2).bind fun u1 =>
  if u1 = (nI 0) then
    (f_X4_firstWrong v_shelves_elements v_shelves_sizes p1 p2).bind fun u4 =>
    some (u4, v_refusals)
  else
  (f_X6_refuse v_refusals u1).bind fun u3 =>
  some (u3.1, u3.2)
set_option maxHeartbeats 4000000 in
set_option maxRecDepth 100000 in
theorem c_X6_judge {l : Launch} {X : xG} {h0 h1 h2 h3 h4 h5 g0 g1 g2 : Nat} {v_isKept : Int32} {v_refusals : (Nat → Int32)} {v_shelves_elements : (Nat → Int64)} {v_shelves_held : (Nat → Int32)} {v_shelves_sizes : (Nat → Int32)} {p1 : Int32} {p2 : Int32} {u : Int32 × (Nat → Int32)} (hf : f_X6_judge v_refusals v_shelves_elements v_shelves_held v_shelves_sizes p1 p2 = some u) : Met l yX6_judge (xw yX6_judge cX6_judge 4 (some .int)) (xrm 5 111) (xPc [.ref h0, .int p1, .int p2] X [(h0, xO 6 [.ref g0, .ref g1, .ref g2, .ref h2, .ref h1, .int v_isKept]), (h1, xI X 5 v_refusals), (h2, xO 4 [.ref h4, .ref h5, .ref h3]), (h3, xJ X 320 v_shelves_elements), (h4, xI X 8 v_shelves_held), (h5, xI X 8 v_shelves_sizes)]) (xQw True (.returned (some (.int u.1))) X [(h0, xO 6 [.ref g0, .ref g1, .ref g2, .ref h2, .ref h1, .int v_isKept]), (h1, xI X 5 u.2), (h2, xO 4 [.ref h4, .ref h5, .ref h3]), (h3, xJ X 320 v_shelves_elements), (h4, xI X 8 v_shelves_held), (h5, xI X 8 v_shelves_sizes)] (xAs [(h0, xO 6 [.ref g0, .ref g1, .ref g2, .ref h2, .ref h1, .int v_isKept]), (h1, xI X 5 v_refusals), (h2, xO 4 [.ref h4, .ref h5, .ref h3]), (h3, xJ X 320 v_shelves_elements), (h4, xI X 8 v_shelves_held), (h5, xI X 8 v_shelves_sizes)])) 0 0 (xAs [(h0, xO 6 [.ref g0, .ref g1, .ref g2, .ref h2, .ref h1, .int v_isKept]), (h1, xI X 5 v_refusals), (h2, xO 4 [.ref h4, .ref h5, .ref h3]), (h3, xJ X 320 v_shelves_elements), (h4, xI X 8 v_shelves_held), (h5, xI X 8 v_shelves_sizes)]) := by
  refine xMetw (Qc := fun A => xQw True (.returned (some (.int u.1))) X [(h0, xO 6 [.ref g0, .ref g1, .ref g2, .ref h2, .ref h1, .int v_isKept]), (h1, xI X 5 u.2), (h2, xO 4 [.ref h4, .ref h5, .ref h3]), (h3, xJ X 320 v_shelves_elements), (h4, xI X 8 v_shelves_held), (h5, xI X 8 v_shelves_sizes)] A) (n := 2) md_X6_judge.1 (Nat.le_of_ble_eq_true rfl) ?_
  intro p e s m args below meth c ls A hC hr hlk hH hl
  have hl : lv_has ls 4 [(0, .ref h0), (1, .int p1), (2, .int p2)] := hl
  have hx := hC.1
  have hb := hC.2.1
  refine lv_aload_n hx hb dX6_judge_0 rfl (lv_at hl 0 rfl) ?_
  refine lv_iload_n hx hb dX6_judge_1 rfl (lv_at hl 1 rfl) ?_
  refine lv_iload_n hx hb dX6_judge_2 rfl (lv_at hl 2 rfl) ?_
  obtain ⟨u1, hf1, hf⟩ := xb hf
  refine x_ran (x_runV (q0 := 0) (rest := []) (As := [.int p1, .int p2]) hC mw_1235 md_X6_refusalOfToldRow (c_X6_refusalOfToldRow (X := X) hf1) hH [0, 2, 4, 5] rfl (by decide) rfl rfl rfl hl.1 rfl rfl (Nat.le_of_ble_eq_true rfl) dX6_judge_3 ⟨Nat.le_of_ble_eq_true rfl, Nat.le_of_ble_eq_true rfl⟩ ⟨rfl, rfl⟩ ⟨Nat.le_refl _, Nat.le_refl _⟩) rfl (fun hz1 => ?_)
  refine lv_istore_n (lv' := [(3, .int u1), (0, .ref h0), (1, .int p1), (2, .int p2)]) hx hb dX6_judge_6 rfl hl (by decide) rfl (fun ls hl => ?_)
  refine lv_iload_n hx hb dX6_judge_7 rfl (lv_at hl 0 rfl) ?_
  refine lv_if_ne (tgt := 23) hx hb dX6_judge_8 (by decide) (fun c2 => ?_) (fun c2 => ?_)
  · have hf := xe c2 hf
    refine lv_aload_n hx hb dX6_judge_23 rfl (lv_at hl 1 rfl) ?_
    refine lv_iload_n hx hb dX6_judge_24 rfl (lv_at hl 0 rfl) ?_
    obtain ⟨u3, hf3, hf⟩ := xb hf
    refine x_ranw (ws' := [(h0, xO 6 [.ref g0, .ref g1, .ref g2, .ref h2, .ref h1, .int v_isKept]), (h1, xI X 5 u3.2), (h2, xO 4 [.ref h4, .ref h5, .ref h3]), (h3, xJ X 320 v_shelves_elements), (h4, xI X 8 v_shelves_held), (h5, xI X 8 v_shelves_sizes)]) (x_runV (q0 := 0) (rest := []) (As := [.int u1]) hC mw_100 md_X6_refuse (c_X6_refuse (X := X) hf3) hH [0, 1] rfl (by decide) rfl rfl rfl hl.1 rfl rfl (Nat.le_of_ble_eq_true rfl) dX6_judge_25 ⟨Nat.le_of_ble_eq_true rfl, Nat.le_of_ble_eq_true rfl⟩ ⟨rfl, rfl⟩ ⟨Nat.le_refl _, Nat.le_refl _⟩) hH [0, 1] rfl rfl rfl rfl rfl (fun hz3 H locs hH => ?_)
    exact x_retiw (φ := fun _ => True) (f := fun u : Int32 × (Nat → Int32) => u.1) (wf := fun u : Int32 × (Nat → Int32) => [(h0, xO 6 [.ref g0, .ref g1, .ref g2, .ref h2, .ref h1, .int v_isKept]), (h1, xI X 5 u.2), (h2, xO 4 [.ref h4, .ref h5, .ref h3]), (h3, xJ X 320 v_shelves_elements), (h4, xI X 8 v_shelves_held), (h5, xI X 8 v_shelves_sizes)]) hC hr hlk trivial hf hH rfl rfl dX6_judge_28
  · have hf := xt c2 hf
    refine lv_aload_n hx hb dX6_judge_11 rfl (lv_at hl 1 rfl) ?_
    refine x_get hC fd_RX6_29 hH.1 0 rfl rfl dX6_judge_12 ?_
    refine lv_iload_n hx hb dX6_judge_15 rfl (lv_at hl 2 rfl) ?_
    refine lv_iload_n hx hb dX6_judge_16 rfl (lv_at hl 3 rfl) ?_
    obtain ⟨u4, hf4, hf⟩ := xb hf
    refine x_ran (x_runV (q0 := 0) (rest := []) (As := [.int p1, .int p2]) hC mw_1239 md_X4_firstWrong (c_X4_firstWrong (X := X) hf4) hH [2, 3, 5] rfl (by decide) rfl rfl rfl hl.1 rfl rfl (Nat.le_of_ble_eq_true rfl) dX6_judge_17 ⟨Nat.le_of_ble_eq_true rfl, Nat.le_of_ble_eq_true rfl⟩ ⟨rfl, rfl⟩ ⟨Nat.le_refl _, Nat.le_refl _⟩) rfl (fun hz4 => ?_)
    refine lv_goto (tgt := 28) hx hb dX6_judge_20 (by decide) ?_
    exact x_retiw (φ := fun _ => True) (f := fun u : Int32 × (Nat → Int32) => u.1) (wf := fun u : Int32 × (Nat → Int32) => [(h0, xO 6 [.ref g0, .ref g1, .ref g2, .ref h2, .ref h1, .int v_isKept]), (h1, xI X 5 u.2), (h2, xO 4 [.ref h4, .ref h5, .ref h3]), (h3, xJ X 320 v_shelves_elements), (h4, xI X 8 v_shelves_held), (h5, xI X 8 v_shelves_sizes)]) hC hr hlk trivial hf hH rfl rfl dX6_judge_28
def f_X6_refusalOfToldRing (v_shelves_elements : (Nat → Int64)) (v_shelves_held : (Nat → Int32)) (v_shelves_sizes : (Nat → Int32)) (p1 : Int32) (p2 : Int32) : Option (Int32) :=
  (f_X6_refusalOfToldRow v_shelves_held v_shelves_sizes p1 p2).bind fun u1 =>
  if u1 = (nI 0) then
    (f_X4_firstWrong v_shelves_elements v_shelves_sizes p1 p2).bind fun u3 =>
    if u3 = (-1 : Int32) then
      some u1
    else
    some (-5 : Int32)
  else
  some u1
set_option maxHeartbeats 4000000 in
set_option maxRecDepth 100000 in
theorem c_X6_refusalOfToldRing {l : Launch} {X : xG} {h0 h1 h2 h3 h4 g0 g1 g2 g3 : Nat} {v_isKept : Int32} {v_shelves_elements : (Nat → Int64)} {v_shelves_held : (Nat → Int32)} {v_shelves_sizes : (Nat → Int32)} {p1 : Int32} {p2 : Int32} {u : Int32} (hf : f_X6_refusalOfToldRing v_shelves_elements v_shelves_held v_shelves_sizes p1 p2 = some u) : Met l yX6_refusalOfToldRing (xw yX6_refusalOfToldRing cX6_refusalOfToldRing 4 (some .int)) (xrm 5 111) (xPc [.ref h0, .int p1, .int p2] X [(h0, xO 6 [.ref g0, .ref g1, .ref g2, .ref h1, .ref g3, .int v_isKept]), (h1, xO 4 [.ref h3, .ref h4, .ref h2]), (h2, xJ X 320 v_shelves_elements), (h3, xI X 8 v_shelves_held), (h4, xI X 8 v_shelves_sizes)]) (xQ True (.returned (some (.int u)))) 0 0 xNo := by
  refine xMet (n := 2) md_X6_refusalOfToldRing.1 (Nat.le_of_ble_eq_true rfl) ?_
  intro p e s m args below meth c ls A hC hr hlk hH hl
  have hl : lv_has ls 4 [(0, .ref h0), (1, .int p1), (2, .int p2)] := hl
  have hx := hC.1
  have hb := hC.2.1
  refine lv_aload_n hx hb dX6_refusalOfToldRing_0 rfl (lv_at hl 0 rfl) ?_
  refine lv_iload_n hx hb dX6_refusalOfToldRing_1 rfl (lv_at hl 1 rfl) ?_
  refine lv_iload_n hx hb dX6_refusalOfToldRing_2 rfl (lv_at hl 2 rfl) ?_
  obtain ⟨u1, hf1, hf⟩ := xb hf
  refine x_ran (x_runV (q0 := 0) (rest := []) (As := [.int p1, .int p2]) hC mw_1235 md_X6_refusalOfToldRow (c_X6_refusalOfToldRow (X := X) hf1) hH [0, 1, 3, 4] rfl (by decide) rfl rfl rfl hl.1 rfl rfl (Nat.le_of_ble_eq_true rfl) dX6_refusalOfToldRing_3 ⟨Nat.le_of_ble_eq_true rfl, Nat.le_of_ble_eq_true rfl⟩ ⟨rfl, rfl⟩ ⟨Nat.le_refl _, Nat.le_refl _⟩) rfl (fun hz1 => ?_)
  refine lv_istore_n (lv' := [(3, .int u1), (0, .ref h0), (1, .int p1), (2, .int p2)]) hx hb dX6_refusalOfToldRing_6 rfl hl (by decide) rfl (fun ls hl => ?_)
  refine lv_iload_n hx hb dX6_refusalOfToldRing_7 rfl (lv_at hl 0 rfl) ?_
  refine lv_if_ne (tgt := 29) hx hb dX6_refusalOfToldRing_8 (by decide) (fun c2 => ?_) (fun c2 => ?_)
  · have hf := xe c2 hf
    refine lv_iload_n hx hb dX6_refusalOfToldRing_29 rfl (lv_at hl 0 rfl) ?_
    exact x_reti hC hr hlk trivial hf dX6_refusalOfToldRing_30
  · have hf := xt c2 hf
    refine lv_aload_n hx hb dX6_refusalOfToldRing_11 rfl (lv_at hl 1 rfl) ?_
    refine x_get hC fd_RX6_29 hH.1 0 rfl rfl dX6_refusalOfToldRing_12 ?_
    refine lv_iload_n hx hb dX6_refusalOfToldRing_15 rfl (lv_at hl 2 rfl) ?_
    refine lv_iload_n hx hb dX6_refusalOfToldRing_16 rfl (lv_at hl 3 rfl) ?_
    obtain ⟨u3, hf3, hf⟩ := xb hf
    refine x_ran (x_runV (q0 := 0) (rest := []) (As := [.int p1, .int p2]) hC mw_1239 md_X4_firstWrong (c_X4_firstWrong (X := X) hf3) hH [1, 2, 4] rfl (by decide) rfl rfl rfl hl.1 rfl rfl (Nat.le_of_ble_eq_true rfl) dX6_refusalOfToldRing_17 ⟨Nat.le_of_ble_eq_true rfl, Nat.le_of_ble_eq_true rfl⟩ ⟨rfl, rfl⟩ ⟨Nat.le_refl _, Nat.le_refl _⟩) rfl (fun hz3 => ?_)
    refine lv_iconst (v := (-1 : Int32)) hx hb dX6_refusalOfToldRing_20 (by decide) ?_
    refine lv_icmp_eq (tgt := 29) hx hb dX6_refusalOfToldRing_21 (by decide) (fun c4 => ?_) (fun c4 => ?_)
    · have hf := xt c4 hf
      refine lv_iload_n hx hb dX6_refusalOfToldRing_29 rfl (lv_at hl 0 rfl) ?_
      exact x_reti hC hr hlk trivial hf dX6_refusalOfToldRing_30
    · have hf := xe c4 hf
      refine lv_bipush (v := (-5 : Int32)) hx hb dX6_refusalOfToldRing_24 (by decide) ?_
      refine lv_goto (tgt := 30) hx hb dX6_refusalOfToldRing_26 (by decide) ?_
      exact x_reti hC hr hlk trivial hf dX6_refusalOfToldRing_30
def f_X6_answers_J20 (v_now_inForce : Int32) (v_now_depth : Int32) (v_now_laws_count : Int32) (v_now_laws_kinds : (Nat → Int32)) (v_now_laws_tunes : (Nat → Int32)) (v_refusals : (Nat → Int32)) (v_shelves_elements : (Nat → Int64)) (v_shelves_sizes : (Nat → Int32)) (p1 : Int32) (p2 : Int32) (p3 : Int32) (j20_s0 : Int32) : Option (Int32 × (Nat → Int32)) :=
  if j20_s0 = (nI 0) then
    (f_X4_elementsAsBits v_shelves_elements v_shelves_sizes p1 p2).bind fun u4 =>
    if p3 = (nI 0) then
      (f_X2_struck v_now_laws_count v_now_laws_kinds v_now_laws_tunes v_now_inForce u4 p2 (nI 0)).bind fun u8 =>
      (f_J13_bitCount_95d88 u8).bind fun u9 =>
      some (u9, v_refusals)
    else
    (f_X0_sounds v_now_inForce v_now_depth v_now_laws_count v_now_laws_kinds v_now_laws_tunes u4 p2 p3).bind fun u6 =>
    (f_J13_bitCount_95d88 u6).bind fun u7 =>
    some (u7, v_refusals)
  else
  (f_X6_refuse v_refusals j20_s0).bind fun u10 =>
  some (u10.1, u10.2)
def f_X6_answers (v_now_inForce : Int32) (v_now_depth : Int32) (v_now_laws_count : Int32) (v_now_laws_kinds : (Nat → Int32)) (v_now_laws_tunes : (Nat → Int32)) (v_refusals : (Nat → Int32)) (v_shelves_elements : (Nat → Int64)) (v_shelves_held : (Nat → Int32)) (v_shelves_sizes : (Nat → Int32)) (p1 : Int32) (p2 : Int32) (p3 : Int32) : Option (Int32 × (Nat → Int32)) :=
  (f_X6_isWithin p3 (nI 0) (nI 2)).bind fun u1 =>
  if u1 = (nI 0) then
    f_X6_answers_J20 v_now_inForce v_now_depth v_now_laws_count v_now_laws_kinds v_now_laws_tunes v_refusals v_shelves_elements v_shelves_sizes p1 p2 p3 (-2 : Int32)
  else
  (f_X6_refusalOfToldRing v_shelves_elements v_shelves_held v_shelves_sizes p1 p2).bind fun u11 =>
  f_X6_answers_J20 v_now_inForce v_now_depth v_now_laws_count v_now_laws_kinds v_now_laws_tunes v_refusals v_shelves_elements v_shelves_sizes p1 p2 p3 u11
set_option maxHeartbeats 4000000 in
set_option maxRecDepth 100000 in
theorem c_X6_answers {l : Launch} {X : xG} {h0 h1 h2 h3 h4 h5 h6 h7 h8 h9 g0 g1 g2 : Nat} {v_isKept : Int32} {v_now_inForce : Int32} {v_now_depth : Int32} {v_now_miss : Int32} {v_now_ring : Int64} {v_now_steps : Int32} {v_now_seed : Int32} {v_now_laws_count : Int32} {v_now_laws_kinds : (Nat → Int32)} {v_now_laws_tunes : (Nat → Int32)} {v_refusals : (Nat → Int32)} {v_shelves_elements : (Nat → Int64)} {v_shelves_held : (Nat → Int32)} {v_shelves_sizes : (Nat → Int32)} {p1 : Int32} {p2 : Int32} {p3 : Int32} {u : Int32 × (Nat → Int32)} (hf : f_X6_answers v_now_inForce v_now_depth v_now_laws_count v_now_laws_kinds v_now_laws_tunes v_refusals v_shelves_elements v_shelves_held v_shelves_sizes p1 p2 p3 = some u) : Met l yX6_answers (xw yX6_answers cX6_answers 7 (some .int)) (xrm 6 134) (xPc [.ref h0, .int p1, .int p2, .int p3] X [(h0, xO 6 [.ref h1, .ref g0, .ref g1, .ref h6, .ref h5, .int v_isKept]), (h1, xO 0 [.ref h2, .ref g2, .int v_now_inForce, .int v_now_depth, .int v_now_miss, .long v_now_ring, .int v_now_steps, .int v_now_seed]), (h2, xO 2 [.ref h3, .ref h4, .int v_now_laws_count]), (h3, xI X 6 v_now_laws_kinds), (h4, xI X 6 v_now_laws_tunes), (h5, xI X 5 v_refusals), (h6, xO 4 [.ref h8, .ref h9, .ref h7]), (h7, xJ X 320 v_shelves_elements), (h8, xI X 8 v_shelves_held), (h9, xI X 8 v_shelves_sizes)]) (xQw True (.returned (some (.int u.1))) X [(h0, xO 6 [.ref h1, .ref g0, .ref g1, .ref h6, .ref h5, .int v_isKept]), (h1, xO 0 [.ref h2, .ref g2, .int v_now_inForce, .int v_now_depth, .int v_now_miss, .long v_now_ring, .int v_now_steps, .int v_now_seed]), (h2, xO 2 [.ref h3, .ref h4, .int v_now_laws_count]), (h3, xI X 6 v_now_laws_kinds), (h4, xI X 6 v_now_laws_tunes), (h5, xI X 5 u.2), (h6, xO 4 [.ref h8, .ref h9, .ref h7]), (h7, xJ X 320 v_shelves_elements), (h8, xI X 8 v_shelves_held), (h9, xI X 8 v_shelves_sizes)] (xAs [(h0, xO 6 [.ref h1, .ref g0, .ref g1, .ref h6, .ref h5, .int v_isKept]), (h1, xO 0 [.ref h2, .ref g2, .int v_now_inForce, .int v_now_depth, .int v_now_miss, .long v_now_ring, .int v_now_steps, .int v_now_seed]), (h2, xO 2 [.ref h3, .ref h4, .int v_now_laws_count]), (h3, xI X 6 v_now_laws_kinds), (h4, xI X 6 v_now_laws_tunes), (h5, xI X 5 v_refusals), (h6, xO 4 [.ref h8, .ref h9, .ref h7]), (h7, xJ X 320 v_shelves_elements), (h8, xI X 8 v_shelves_held), (h9, xI X 8 v_shelves_sizes)])) 0 0 (xAs [(h0, xO 6 [.ref h1, .ref g0, .ref g1, .ref h6, .ref h5, .int v_isKept]), (h1, xO 0 [.ref h2, .ref g2, .int v_now_inForce, .int v_now_depth, .int v_now_miss, .long v_now_ring, .int v_now_steps, .int v_now_seed]), (h2, xO 2 [.ref h3, .ref h4, .int v_now_laws_count]), (h3, xI X 6 v_now_laws_kinds), (h4, xI X 6 v_now_laws_tunes), (h5, xI X 5 v_refusals), (h6, xO 4 [.ref h8, .ref h9, .ref h7]), (h7, xJ X 320 v_shelves_elements), (h8, xI X 8 v_shelves_held), (h9, xI X 8 v_shelves_sizes)]) := by
  refine xMetw (Qc := fun A => xQw True (.returned (some (.int u.1))) X [(h0, xO 6 [.ref h1, .ref g0, .ref g1, .ref h6, .ref h5, .int v_isKept]), (h1, xO 0 [.ref h2, .ref g2, .int v_now_inForce, .int v_now_depth, .int v_now_miss, .long v_now_ring, .int v_now_steps, .int v_now_seed]), (h2, xO 2 [.ref h3, .ref h4, .int v_now_laws_count]), (h3, xI X 6 v_now_laws_kinds), (h4, xI X 6 v_now_laws_tunes), (h5, xI X 5 u.2), (h6, xO 4 [.ref h8, .ref h9, .ref h7]), (h7, xJ X 320 v_shelves_elements), (h8, xI X 8 v_shelves_held), (h9, xI X 8 v_shelves_sizes)] A) (n := 3) md_X6_answers.1 (Nat.le_of_ble_eq_true rfl) ?_
  intro p e s m args below meth c ls A hC hr hlk hH hl
  have hl : lv_has ls 7 [(0, .ref h0), (1, .int p1), (2, .int p2), (3, .int p3)] := hl
  have hx := hC.1
  have hb := hC.2.1
  have J20 : ∀ (j20_s0 : Int32), f_X6_answers_J20 v_now_inForce v_now_depth v_now_laws_count v_now_laws_kinds v_now_laws_tunes v_refusals v_shelves_elements v_shelves_sizes p1 p2 p3 j20_s0 = some u → ∀ (H : Heap) (locs : List Loc), xH X A [(h0, xO 6 [.ref h1, .ref g0, .ref g1, .ref h6, .ref h5, .int v_isKept]), (h1, xO 0 [.ref h2, .ref g2, .int v_now_inForce, .int v_now_depth, .int v_now_miss, .long v_now_ring, .int v_now_steps, .int v_now_seed]), (h2, xO 2 [.ref h3, .ref h4, .int v_now_laws_count]), (h3, xI X 6 v_now_laws_kinds), (h4, xI X 6 v_now_laws_tunes), (h5, xI X 5 v_refusals), (h6, xO 4 [.ref h8, .ref h9, .ref h7]), (h7, xJ X 320 v_shelves_elements), (h8, xI X 8 v_shelves_held), (h9, xI X 8 v_shelves_sizes)] s.heap H locs → ∀ (ls : Array Slot), lv_has ls 7 [(0, .ref h0), (1, .int p1), (2, .int p2), (3, .int p3)] → W p l e (xrm 6 134) s m args below meth c H locs 0 0 (MQ below (xQw True (.returned (some (.int u.1))) X [(h0, xO 6 [.ref h1, .ref g0, .ref g1, .ref h6, .ref h5, .int v_isKept]), (h1, xO 0 [.ref h2, .ref g2, .int v_now_inForce, .int v_now_depth, .int v_now_miss, .long v_now_ring, .int v_now_steps, .int v_now_seed]), (h2, xO 2 [.ref h3, .ref h4, .int v_now_laws_count]), (h3, xI X 6 v_now_laws_kinds), (h4, xI X 6 v_now_laws_tunes), (h5, xI X 5 u.2), (h6, xO 4 [.ref h8, .ref h9, .ref h7]), (h7, xJ X 320 v_shelves_elements), (h8, xI X 8 v_shelves_held), (h9, xI X 8 v_shelves_sizes)] A) args s 0 0 A) (F0 m 20 ls [.int j20_s0]) := by
    intro j20_s0 hf H locs hH ls hl
    refine lv_istore (lv' := [(4, .int j20_s0), (0, .ref h0), (1, .int p1), (2, .int p2), (3, .int p3)]) hx hb dX6_answers_20 hl (by decide) rfl (fun ls hl => ?_)
    refine lv_iload hx hb dX6_answers_22 (lv_at hl 0 rfl) ?_
    refine lv_if_eq (tgt := 34) hx hb dX6_answers_24 (by decide) (fun c3 => ?_) (fun c3 => ?_)
    · have hf := xt c3 hf
      refine lv_aload_n hx hb dX6_answers_34 rfl (lv_at hl 1 rfl) ?_
      refine x_get hC fd_RX6_29 hH.1 0 rfl rfl dX6_answers_35 ?_
      refine lv_iload_n hx hb dX6_answers_38 rfl (lv_at hl 2 rfl) ?_
      refine lv_iload_n hx hb dX6_answers_39 rfl (lv_at hl 3 rfl) ?_
      obtain ⟨u4, hf4, hf⟩ := xb hf
      refine x_ran (x_runV (q0 := 0) (rest := []) (As := [.int p1, .int p2]) hC mw_980 md_X4_elementsAsBits (c_X4_elementsAsBits (X := X) hf4) hH [6, 7, 9] rfl (by decide) rfl rfl rfl hl.1 rfl rfl (Nat.le_of_ble_eq_true rfl) dX6_answers_40 ⟨Nat.le_of_ble_eq_true rfl, Nat.le_of_ble_eq_true rfl⟩ ⟨rfl, rfl⟩ ⟨Nat.le_refl _, Nat.le_refl _⟩) rfl (fun hz4 => ?_)
      refine lv_lstore (lv' := [(5, .long u4), (4, .int j20_s0), (0, .ref h0), (1, .int p1), (2, .int p2), (3, .int p3)]) hx hb dX6_answers_43 hl (by decide) rfl (fun ls hl => ?_)
      refine lv_iload_n hx hb dX6_answers_45 rfl (lv_at hl 5 rfl) ?_
      refine lv_if_ne (tgt := 74) hx hb dX6_answers_46 (by decide) (fun c5 => ?_) (fun c5 => ?_)
      · have hf := xe c5 hf
        refine lv_aload_n hx hb dX6_answers_74 rfl (lv_at hl 2 rfl) ?_
        refine x_get hC fd_RX6_10 hH.1 0 rfl rfl dX6_answers_75 ?_
        refine lv_lload hx hb dX6_answers_78 (lv_at hl 0 rfl) ?_
        refine lv_iload_n hx hb dX6_answers_80 rfl (lv_at hl 4 rfl) ?_
        refine lv_iload_n hx hb dX6_answers_81 rfl (lv_at hl 5 rfl) ?_
        obtain ⟨u6, hf6, hf⟩ := xb hf
        refine x_ran (x_runV (q0 := 0) (rest := []) (As := [.long u4, .int p2, .int p3]) hC mw_719 md_X0_sounds (c_X0_sounds (X := X) hf6) hH [1, 2, 3, 4] rfl (by decide) rfl rfl rfl hl.1 rfl rfl (Nat.le_of_ble_eq_true rfl) dX6_answers_82 ⟨Nat.le_of_ble_eq_true rfl, Nat.le_of_ble_eq_true rfl⟩ ⟨rfl, rfl⟩ ⟨Nat.le_refl _, Nat.le_refl _⟩) rfl (fun hz6 => ?_)
        obtain ⟨u7, hf7, hf⟩ := xb hf
        refine x_ran (x_runS (rest := []) (As := [.long u6]) hC mw_744 md_J13_bitCount_95d88 (c_J13_bitCount_95d88 (X := X) hf7) hH [] rfl (by decide) hl.1 rfl rfl (Nat.le_of_ble_eq_true rfl) dX6_answers_85 ⟨Nat.le_of_ble_eq_true rfl, Nat.le_of_ble_eq_true rfl⟩ ⟨rfl, rfl⟩ ⟨Nat.le_refl _, Nat.le_refl _⟩) rfl (fun hz7 => ?_)
        exact x_retiw (φ := fun _ => True) (f := fun u : Int32 × (Nat → Int32) => u.1) (wf := fun u : Int32 × (Nat → Int32) => [(h0, xO 6 [.ref h1, .ref g0, .ref g1, .ref h6, .ref h5, .int v_isKept]), (h1, xO 0 [.ref h2, .ref g2, .int v_now_inForce, .int v_now_depth, .int v_now_miss, .long v_now_ring, .int v_now_steps, .int v_now_seed]), (h2, xO 2 [.ref h3, .ref h4, .int v_now_laws_count]), (h3, xI X 6 v_now_laws_kinds), (h4, xI X 6 v_now_laws_tunes), (h5, xI X 5 u.2), (h6, xO 4 [.ref h8, .ref h9, .ref h7]), (h7, xJ X 320 v_shelves_elements), (h8, xI X 8 v_shelves_held), (h9, xI X 8 v_shelves_sizes)]) hC hr hlk trivial hf hH rfl rfl dX6_answers_88
      · have hf := xt c5 hf
        refine lv_aload_n hx hb dX6_answers_49 rfl (lv_at hl 2 rfl) ?_
        refine x_get hC fd_RX6_10 hH.1 0 rfl rfl dX6_answers_50 ?_
        refine x_getN hC fd_RX6_81 hH.1 1 rfl rfl dX6_answers_53 ?_
        refine lv_aload_n hx hb dX6_answers_56 rfl (lv_at hl 2 rfl) ?_
        refine x_get hC fd_RX6_10 hH.1 0 rfl rfl dX6_answers_57 ?_
        refine x_getN hC fd_RX6_135 hH.1 1 rfl rfl dX6_answers_60 ?_
        refine lv_lload hx hb dX6_answers_63 (lv_at hl 0 rfl) ?_
        refine lv_iload_n hx hb dX6_answers_65 rfl (lv_at hl 4 rfl) ?_
        refine lv_iconst (v := (nI 0)) hx hb dX6_answers_66 (by decide) ?_
        obtain ⟨u8, hf8, hf⟩ := xb hf
        refine x_ran (x_runV (q0 := 0) (rest := []) (As := [.int v_now_inForce, .long u4, .int p2, .int (nI 0)]) hC mw_1267 md_X2_struck (c_X2_struck (X := X) hf8) hH [2, 3, 4] rfl (by decide) rfl rfl rfl hl.1 rfl rfl (Nat.le_of_ble_eq_true rfl) dX6_answers_67 ⟨Nat.le_of_ble_eq_true rfl, Nat.le_of_ble_eq_true rfl⟩ ⟨rfl, rfl⟩ ⟨Nat.le_refl _, Nat.le_refl _⟩) rfl (fun hz8 => ?_)
        obtain ⟨u9, hf9, hf⟩ := xb hf
        refine x_ran (x_runS (rest := []) (As := [.long u8]) hC mw_744 md_J13_bitCount_95d88 (c_J13_bitCount_95d88 (X := X) hf9) hH [] rfl (by decide) hl.1 rfl rfl (Nat.le_of_ble_eq_true rfl) dX6_answers_70 ⟨Nat.le_of_ble_eq_true rfl, Nat.le_of_ble_eq_true rfl⟩ ⟨rfl, rfl⟩ ⟨Nat.le_refl _, Nat.le_refl _⟩) rfl (fun hz9 => ?_)
        exact x_retiw (φ := fun _ => True) (f := fun u : Int32 × (Nat → Int32) => u.1) (wf := fun u : Int32 × (Nat → Int32) => [(h0, xO 6 [.ref h1, .ref g0, .ref g1, .ref h6, .ref h5, .int v_isKept]), (h1, xO 0 [.ref h2, .ref g2, .int v_now_inForce, .int v_now_depth, .int v_now_miss, .long v_now_ring, .int v_now_steps, .int v_now_seed]), (h2, xO 2 [.ref h3, .ref h4, .int v_now_laws_count]), (h3, xI X 6 v_now_laws_kinds), (h4, xI X 6 v_now_laws_tunes), (h5, xI X 5 u.2), (h6, xO 4 [.ref h8, .ref h9, .ref h7]), (h7, xJ X 320 v_shelves_elements), (h8, xI X 8 v_shelves_held), (h9, xI X 8 v_shelves_sizes)]) hC hr hlk trivial hf hH rfl rfl dX6_answers_73
    · have hf := xe c3 hf
      refine lv_aload_n hx hb dX6_answers_27 rfl (lv_at hl 1 rfl) ?_
      refine lv_iload hx hb dX6_answers_28 (lv_at hl 0 rfl) ?_
      obtain ⟨u10, hf10, hf⟩ := xb hf
      refine x_ranw (ws' := [(h0, xO 6 [.ref h1, .ref g0, .ref g1, .ref h6, .ref h5, .int v_isKept]), (h1, xO 0 [.ref h2, .ref g2, .int v_now_inForce, .int v_now_depth, .int v_now_miss, .long v_now_ring, .int v_now_steps, .int v_now_seed]), (h2, xO 2 [.ref h3, .ref h4, .int v_now_laws_count]), (h3, xI X 6 v_now_laws_kinds), (h4, xI X 6 v_now_laws_tunes), (h5, xI X 5 u10.2), (h6, xO 4 [.ref h8, .ref h9, .ref h7]), (h7, xJ X 320 v_shelves_elements), (h8, xI X 8 v_shelves_held), (h9, xI X 8 v_shelves_sizes)]) (x_runV (q0 := 0) (rest := []) (As := [.int j20_s0]) hC mw_100 md_X6_refuse (c_X6_refuse (X := X) hf10) hH [0, 5] rfl (by decide) rfl rfl rfl hl.1 rfl rfl (Nat.le_of_ble_eq_true rfl) dX6_answers_30 ⟨Nat.le_of_ble_eq_true rfl, Nat.le_of_ble_eq_true rfl⟩ ⟨rfl, rfl⟩ ⟨Nat.le_refl _, Nat.le_refl _⟩) hH [0, 5] rfl rfl rfl rfl rfl (fun hz10 H locs hH => ?_)
      exact x_retiw (φ := fun _ => True) (f := fun u : Int32 × (Nat → Int32) => u.1) (wf := fun u : Int32 × (Nat → Int32) => [(h0, xO 6 [.ref h1, .ref g0, .ref g1, .ref h6, .ref h5, .int v_isKept]), (h1, xO 0 [.ref h2, .ref g2, .int v_now_inForce, .int v_now_depth, .int v_now_miss, .long v_now_ring, .int v_now_steps, .int v_now_seed]), (h2, xO 2 [.ref h3, .ref h4, .int v_now_laws_count]), (h3, xI X 6 v_now_laws_kinds), (h4, xI X 6 v_now_laws_tunes), (h5, xI X 5 u.2), (h6, xO 4 [.ref h8, .ref h9, .ref h7]), (h7, xJ X 320 v_shelves_elements), (h8, xI X 8 v_shelves_held), (h9, xI X 8 v_shelves_sizes)]) hC hr hlk trivial hf hH rfl rfl dX6_answers_33
  refine lv_iload_n hx hb dX6_answers_0 rfl (lv_at hl 3 rfl) ?_
  refine lv_iconst (v := (nI 0)) hx hb dX6_answers_1 (by decide) ?_
  refine lv_iconst (v := (nI 2)) hx hb dX6_answers_2 (by decide) ?_
  obtain ⟨u1, hf1, hf⟩ := xb hf
  refine x_ran (x_runS (rest := []) (As := [.int p3, .int (nI 0), .int (nI 2)]) hC mw_99 md_X6_isWithin (c_X6_isWithin (X := X) hf1) hH [] rfl (by decide) hl.1 rfl rfl (Nat.le_of_ble_eq_true rfl) dX6_answers_3 ⟨Nat.le_of_ble_eq_true rfl, Nat.le_of_ble_eq_true rfl⟩ ⟨rfl, rfl⟩ ⟨Nat.le_refl _, Nat.le_refl _⟩) rfl (fun hz1 => ?_)
  refine lv_if_eq (tgt := 18) hx hb dX6_answers_6 (by decide) (fun c2 => ?_) (fun c2 => ?_)
  · have hf := xt c2 hf
    refine lv_bipush (v := (-2 : Int32)) hx hb dX6_answers_18 (by decide) ?_
    exact J20 (-2 : Int32) hf _ _ hH ls (lv_sub hl [0, 1, 2, 3] rfl)
  · have hf := xe c2 hf
    refine lv_aload_n hx hb dX6_answers_9 rfl (lv_at hl 0 rfl) ?_
    refine lv_iload_n hx hb dX6_answers_10 rfl (lv_at hl 1 rfl) ?_
    refine lv_iload_n hx hb dX6_answers_11 rfl (lv_at hl 2 rfl) ?_
    obtain ⟨u11, hf11, hf⟩ := xb hf
    refine x_ran (x_runV (q0 := 0) (rest := []) (As := [.int p1, .int p2]) hC mw_1263 md_X6_refusalOfToldRing (c_X6_refusalOfToldRing (X := X) hf11) hH [0, 6, 7, 8, 9] rfl (by decide) rfl rfl rfl hl.1 rfl rfl (Nat.le_of_ble_eq_true rfl) dX6_answers_12 ⟨Nat.le_of_ble_eq_true rfl, Nat.le_of_ble_eq_true rfl⟩ ⟨rfl, rfl⟩ ⟨Nat.le_refl _, Nat.le_refl _⟩) rfl (fun hz11 => ?_)
    refine lv_goto (tgt := 20) hx hb dX6_answers_15 (by decide) ?_
    exact J20 u11 hf _ _ hH ls (lv_sub hl [0, 1, 2, 3] rfl)
