def f_X7_differsNow_J46 (s4 : Int32 × Int32) (j46_s0 : Int32) (j46_s1 : Int32) : Option ((Int32) ⊕ (Int32 × Int32)) :=
  if j46_s0 = j46_s1 then
    some (.inr (s4.1, s4.2 + (nI 1)))
  else
  some (.inr (s4.1 + (nI 1), s4.2 + (nI 1)))
def f_X7_differsNow_L4 (v_laws : Int32) (v_inForce : Int32) (v_depth : Int32) (v_ring : Int64) (v_size : Int32) (v_kind : (Nat → Int32)) (v_own : (Nat → Int32)) (v_rowOf : (Nat → Int64)) (p1 : Int32) (s4 : Int32 × Int32) : Option ((Int32) ⊕ (Int32 × Int32)) :=
  if v_size ≤ s4.2 then
    some (.inl s4.1)
  else
  (f_X7_isHeard v_laws v_inForce v_depth v_kind v_own v_ring v_size s4.2).bind fun u2 =>
  if xout (((nI 40) * p1) + s4.2) 320 then none else
  if (xcmp (v_rowOf (xat (((nI 40) * p1) + s4.2))) (lN 0)) = (nI 0) then
    f_X7_differsNow_J46 s4 u2 (nI 0)
  else
  f_X7_differsNow_J46 s4 u2 (nI 1)
def f_X7_differsNow (v_laws : Int32) (v_inForce : Int32) (v_depth : Int32) (v_ring : Int64) (v_size : Int32) (v_kind : (Nat → Int32)) (v_own : (Nat → Int32)) (v_rowOf : (Nat → Int64)) (p1 : Int32) : Option (Int32) :=
  xloop (f_X7_differsNow_L4 v_laws v_inForce v_depth v_ring v_size v_kind v_own v_rowOf p1) xN ((nI 0), (nI 0))
set_option maxHeartbeats 4000000 in
set_option maxRecDepth 100000 in
theorem c_X7_differsNow {l : Launch} {X : xG} {h0 h1 h2 h3 g0 g1 g2 g3 g4 g5 g6 g7 : Nat} {v_laws : Int32} {v_inForce : Int32} {v_depth : Int32} {v_miss : Int32} {v_ring : Int64} {v_size : Int32} {v_people : Int32} {v_seed : Int32} {v_taped : Int32} {v_from : Int32} {v_to : Int32} {v_token : Int32} {v_value : Int32} {v_imaged : Int32} {v_oldRing : Int64} {v_aheadRing : Int64} {v_kind : (Nat → Int32)} {v_own : (Nat → Int32)} {v_rowOf : (Nat → Int64)} {p1 : Int32} {u : Int32} (hf : f_X7_differsNow v_laws v_inForce v_depth v_ring v_size v_kind v_own v_rowOf p1 = some u) : Met l yX7_differsNow (xw yX7_differsNow cX7_differsNow 4 (some .int)) (xrm 5 120) (xPc [.ref h0, .int p1] X [(h0, xO 7 [.int v_laws, .ref h1, .ref h2, .int v_inForce, .int v_depth, .int v_miss, .long v_ring, .int v_size, .int v_people, .ref g0, .int v_seed, .int v_taped, .ref g1, .int v_from, .int v_to, .int v_token, .int v_value, .ref g2, .ref g3, .ref h3, .ref g4, .int v_imaged, .ref g5, .long v_oldRing, .ref g6, .long v_aheadRing, .ref g7]), (h1, xI X 6 v_kind), (h2, xI X 6 v_own), (h3, xJ X 320 v_rowOf)]) (xQ True (.returned (some (.int u)))) 0 0 xNo := by
  refine xMet (n := 1) md_X7_differsNow.1 (Nat.le_of_ble_eq_true rfl) ?_
  intro p e s m args below meth c ls A hC hr hlk hH hl
  have hl : lv_has ls 4 [(0, .ref h0), (1, .int p1)] := hl
  have hx := hC.1
  have hb := hC.2.1
  have L4 : ∀ (n : Nat) (s4 : Int32 × Int32), xloop (f_X7_differsNow_L4 v_laws v_inForce v_depth v_ring v_size v_kind v_own v_rowOf p1) n s4 = some u → ∀ (ls : Array Slot), lv_has ls 4 [(0, .ref h0), (1, .int p1), (2, .int s4.1), (3, .int s4.2)] → W p l e (xrm 5 120) s m args below meth c s.heap [] 0 0 (MQ below (xQ True (.returned (some (.int u)))) args s 0 0 xNo) (F0 m 4 ls []) := by
    intro  n
    induction n with
    | zero => intro s4 hf; exact xloop_0 hf
    | succ n ih4 =>
      intro s4 hf ls hl
      obtain ⟨o4, hf, ho4⟩ := xloop_s hf
      have J46 : ∀ (j46_s0 : Int32) (j46_s1 : Int32), f_X7_differsNow_J46 s4 j46_s0 j46_s1 = some o4 → ∀ (ls : Array Slot), lv_has ls 4 [(0, .ref h0), (1, .int p1), (2, .int s4.1), (3, .int s4.2)] → W p l e (xrm 5 120) s m args below meth c s.heap [] 0 0 (MQ below (xQ True (.returned (some (.int u)))) args s 0 0 xNo) (F0 m 46 ls [.int j46_s1, .int j46_s0]) := by
        intro j46_s0 j46_s1 hf ls hl
        refine lv_icmp_eq (tgt := 52) hx hb dX7_differsNow_46 (by decide) (fun c5 => ?_) (fun c5 => ?_)
        · have hf := xt c5 hf
          refine lv_iinc (v := s4.2 + (nI 1)) (lv' := [(3, .int (s4.2 + (nI 1))), (0, .ref h0), (1, .int p1), (2, .int s4.1)]) hx hb dX7_differsNow_52 hl (k := 3) rfl rfl (by decide) rfl (fun ls hl => ?_)
          refine lv_goto (tgt := 4) hx hb dX7_differsNow_55 (by decide) ?_
          have hf := xo_go hf ho4
          exact ih4 (s4.1, s4.2 + (nI 1)) hf ls (lv_sub hl [1, 2, 3, 0] rfl)
        · have hf := xe c5 hf
          refine lv_iinc (v := s4.1 + (nI 1)) (lv' := [(2, .int (s4.1 + (nI 1))), (0, .ref h0), (1, .int p1), (3, .int s4.2)]) hx hb dX7_differsNow_49 hl (k := 2) rfl rfl (by decide) rfl (fun ls hl => ?_)
          refine lv_iinc (v := s4.2 + (nI 1)) (lv' := [(3, .int (s4.2 + (nI 1))), (2, .int (s4.1 + (nI 1))), (0, .ref h0), (1, .int p1)]) hx hb dX7_differsNow_52 hl (k := 3) rfl rfl (by decide) rfl (fun ls hl => ?_)
          refine lv_goto (tgt := 4) hx hb dX7_differsNow_55 (by decide) ?_
          have hf := xo_go hf ho4
          exact ih4 (s4.1 + (nI 1), s4.2 + (nI 1)) hf ls (lv_sub hl [2, 3, 1, 0] rfl)
      refine lv_iload_n hx hb dX7_differsNow_4 rfl (lv_at hl 3 rfl) ?_
      refine lv_aload_n hx hb dX7_differsNow_5 rfl (lv_at hl 0 rfl) ?_
      refine x_get hC fd_RX7_62 hH.1 0 rfl rfl dX7_differsNow_6 ?_
      refine lv_icmp_ge (tgt := 58) hx hb dX7_differsNow_9 (by decide) (fun c1 => ?_) (fun c1 => ?_)
      · have hf := xt c1 hf
        refine lv_iload_n hx hb dX7_differsNow_58 rfl (lv_at hl 2 rfl) ?_
        have hf := xo_ret hf ho4
        exact x_reti hC hr hlk trivial hf dX7_differsNow_59
      · have hf := xe c1 hf
        refine lv_aload_n hx hb dX7_differsNow_12 rfl (lv_at hl 0 rfl) ?_
        refine lv_aload_n hx hb dX7_differsNow_13 rfl (lv_at hl 0 rfl) ?_
        refine x_get hC fd_RX7_90 hH.1 0 rfl rfl dX7_differsNow_14 ?_
        refine lv_aload_n hx hb dX7_differsNow_17 rfl (lv_at hl 0 rfl) ?_
        refine x_get hC fd_RX7_62 hH.1 0 rfl rfl dX7_differsNow_18 ?_
        refine lv_iload_n hx hb dX7_differsNow_21 rfl (lv_at hl 3 rfl) ?_
        obtain ⟨u2, hf2, hf⟩ := xb hf
        refine x_ran (x_runV (q0 := 0) (rest := []) (As := [.long v_ring, .int v_size, .int s4.2]) hC mw_732 md_X7_isHeard (c_X7_isHeard (X := X) hf2) hH [0, 1, 2] rfl (by decide) rfl rfl rfl hl.1 rfl rfl (Nat.le_of_ble_eq_true rfl) dX7_differsNow_22 ⟨Nat.le_of_ble_eq_true rfl, Nat.le_of_ble_eq_true rfl⟩ ⟨rfl, rfl⟩ ⟨Nat.le_refl _, Nat.le_refl _⟩) rfl (fun hz2 => ?_)
        refine lv_aload_n hx hb dX7_differsNow_25 rfl (lv_at hl 0 rfl) ?_
        refine x_get hC fd_RX7_28 hH.1 0 rfl rfl dX7_differsNow_26 ?_
        refine lv_bipush (v := (nI 40)) hx hb dX7_differsNow_29 (by decide) ?_
        refine lv_iload_n hx hb dX7_differsNow_31 rfl (lv_at hl 1 rfl) ?_
        refine lv_imul hx hb dX7_differsNow_32 ?_
        refine lv_iload_n hx hb dX7_differsNow_33 rfl (lv_at hl 3 rfl) ?_
        refine lv_iadd hx hb dX7_differsNow_34 ?_
        obtain ⟨n3, hf⟩ := xok hf
        refine x_lald hC hH.1 3 rfl n3 dX7_differsNow_35 ?_
        refine lv_lconst (v := (lN 0)) hx hb dX7_differsNow_36 (by decide) ?_
        refine x_lcmp hx hb dX7_differsNow_37 ?_
        refine lv_if_eq (tgt := 45) hx hb dX7_differsNow_38 (by decide) (fun c4 => ?_) (fun c4 => ?_)
        · have hf := xt c4 hf
          refine lv_iconst (v := (nI 0)) hx hb dX7_differsNow_45 (by decide) ?_
          exact J46 u2 (nI 0) hf ls (lv_sub hl [0, 1, 2, 3] rfl)
        · have hf := xe c4 hf
          refine lv_iconst (v := (nI 1)) hx hb dX7_differsNow_41 (by decide) ?_
          refine lv_goto (tgt := 46) hx hb dX7_differsNow_42 (by decide) ?_
          exact J46 u2 (nI 1) hf ls (lv_sub hl [0, 1, 2, 3] rfl)
  refine lv_iconst (v := (nI 0)) hx hb dX7_differsNow_0 (by decide) ?_
  refine lv_istore_n (lv' := [(2, .int (nI 0)), (0, .ref h0), (1, .int p1)]) hx hb dX7_differsNow_1 rfl hl (by decide) rfl (fun ls hl => ?_)
  refine lv_iconst (v := (nI 0)) hx hb dX7_differsNow_2 (by decide) ?_
  refine lv_istore_n (lv' := [(3, .int (nI 0)), (2, .int (nI 0)), (0, .ref h0), (1, .int p1)]) hx hb dX7_differsNow_3 rfl hl (by decide) rfl (fun ls hl => ?_)
  exact L4 xN ((nI 0), (nI 0)) hf ls (lv_sub hl [2, 3, 1, 0] rfl)
def f_X7_depths_J57 (s29 : Int32 × Int32) (j57_4 : Int32) : Option ((Int32 × Int32 × (Nat → Int32)) ⊕ (Int32 × Int32)) :=
  some (.inr (j57_4, s29.2 + (nI 1)))
def f_X7_depths_L29 (v_laws : Int32) (v_inForce : Int32) (v_ring : Int64) (v_size : Int32) (v_kind : (Nat → Int32)) (v_own : (Nat → Int32)) (v_refusals : (Nat → Int32)) (v_rowOf : (Nat → Int64)) (p1 : Int32) (x29_3 : Int32) (s29 : Int32 × Int32) : Option ((Int32 × Int32 × (Nat → Int32)) ⊕ (Int32 × Int32)) :=
  if (nI 10) ≤ s29.2 then
    some (.inl (s29.1, x29_3, v_refusals))
  else
  (f_X7_differsNow v_laws v_inForce s29.2 v_ring v_size v_kind v_own v_rowOf p1).bind fun u4 =>
  if u4 = (nI 0) then
    f_X7_depths_J57 s29 (s29.1 ||| (xshl (nI 1) s29.2))
  else
  f_X7_depths_J57 s29 s29.1
def f_X7_depths (v_laws : Int32) (v_inForce : Int32) (v_depth : Int32) (v_ring : Int64) (v_size : Int32) (v_holding : (Nat → Int32)) (v_kind : (Nat → Int32)) (v_own : (Nat → Int32)) (v_refusals : (Nat → Int32)) (v_rowLength : (Nat → Int32)) (v_rowOf : (Nat → Int64)) (p1 : Int32) : Option (Int32 × Int32 × (Nat → Int32)) :=
  (f_X7_noHeard v_size v_holding v_rowLength p1).bind fun u1 =>
  if (nI 0) ≤ u1 then
    xloop (f_X7_depths_L29 v_laws v_inForce v_ring v_size v_kind v_own v_refusals v_rowOf p1 v_depth) xN ((nI 0), (nI 0))
  else
  (f_X7_no v_refusals u1).bind fun u6 =>
  some (u6.1, v_depth, u6.2)
set_option maxHeartbeats 4000000 in
set_option maxRecDepth 100000 in
theorem c_X7_depths {l : Launch} {X : xG} {h0 h1 h2 h3 h4 h5 h6 g0 g1 g2 g3 g4 : Nat} {v_laws : Int32} {v_inForce : Int32} {v_depth : Int32} {v_miss : Int32} {v_ring : Int64} {v_size : Int32} {v_people : Int32} {v_seed : Int32} {v_taped : Int32} {v_from : Int32} {v_to : Int32} {v_token : Int32} {v_value : Int32} {v_imaged : Int32} {v_oldRing : Int64} {v_aheadRing : Int64} {v_holding : (Nat → Int32)} {v_kind : (Nat → Int32)} {v_own : (Nat → Int32)} {v_refusals : (Nat → Int32)} {v_rowLength : (Nat → Int32)} {v_rowOf : (Nat → Int64)} {p1 : Int32} {u : Int32 × Int32 × (Nat → Int32)} (hf : f_X7_depths v_laws v_inForce v_depth v_ring v_size v_holding v_kind v_own v_refusals v_rowLength v_rowOf p1 = some u) : Met l yX7_depths (xw yX7_depths cX7_depths 5 (some .int)) (xrm 6 143) (xPc [.ref h0, .int p1] X [(h0, xO 7 [.int v_laws, .ref h2, .ref h3, .int v_inForce, .int v_depth, .int v_miss, .long v_ring, .int v_size, .int v_people, .ref g0, .int v_seed, .int v_taped, .ref g1, .int v_from, .int v_to, .int v_token, .int v_value, .ref h1, .ref h5, .ref h6, .ref h4, .int v_imaged, .ref g2, .long v_oldRing, .ref g3, .long v_aheadRing, .ref g4]), (h1, xI X 8 v_holding), (h2, xI X 6 v_kind), (h3, xI X 6 v_own), (h4, xI X 7 v_refusals), (h5, xI X 8 v_rowLength), (h6, xJ X 320 v_rowOf)]) (xQw True (.returned (some (.int u.1))) X [(h0, xO 7 [.int v_laws, .ref h2, .ref h3, .int v_inForce, .int u.2.1, .int v_miss, .long v_ring, .int v_size, .int v_people, .ref g0, .int v_seed, .int v_taped, .ref g1, .int v_from, .int v_to, .int v_token, .int v_value, .ref h1, .ref h5, .ref h6, .ref h4, .int v_imaged, .ref g2, .long v_oldRing, .ref g3, .long v_aheadRing, .ref g4]), (h1, xI X 8 v_holding), (h2, xI X 6 v_kind), (h3, xI X 6 v_own), (h4, xI X 7 u.2.2), (h5, xI X 8 v_rowLength), (h6, xJ X 320 v_rowOf)] (xAs [(h0, xO 7 [.int v_laws, .ref h2, .ref h3, .int v_inForce, .int v_depth, .int v_miss, .long v_ring, .int v_size, .int v_people, .ref g0, .int v_seed, .int v_taped, .ref g1, .int v_from, .int v_to, .int v_token, .int v_value, .ref h1, .ref h5, .ref h6, .ref h4, .int v_imaged, .ref g2, .long v_oldRing, .ref g3, .long v_aheadRing, .ref g4]), (h1, xI X 8 v_holding), (h2, xI X 6 v_kind), (h3, xI X 6 v_own), (h4, xI X 7 v_refusals), (h5, xI X 8 v_rowLength), (h6, xJ X 320 v_rowOf)])) 0 0 (xAs [(h0, xO 7 [.int v_laws, .ref h2, .ref h3, .int v_inForce, .int v_depth, .int v_miss, .long v_ring, .int v_size, .int v_people, .ref g0, .int v_seed, .int v_taped, .ref g1, .int v_from, .int v_to, .int v_token, .int v_value, .ref h1, .ref h5, .ref h6, .ref h4, .int v_imaged, .ref g2, .long v_oldRing, .ref g3, .long v_aheadRing, .ref g4]), (h1, xI X 8 v_holding), (h2, xI X 6 v_kind), (h3, xI X 6 v_own), (h4, xI X 7 v_refusals), (h5, xI X 8 v_rowLength), (h6, xJ X 320 v_rowOf)]) := by
  refine xMetw (Qc := fun A => xQw True (.returned (some (.int u.1))) X [(h0, xO 7 [.int v_laws, .ref h2, .ref h3, .int v_inForce, .int u.2.1, .int v_miss, .long v_ring, .int v_size, .int v_people, .ref g0, .int v_seed, .int v_taped, .ref g1, .int v_from, .int v_to, .int v_token, .int v_value, .ref h1, .ref h5, .ref h6, .ref h4, .int v_imaged, .ref g2, .long v_oldRing, .ref g3, .long v_aheadRing, .ref g4]), (h1, xI X 8 v_holding), (h2, xI X 6 v_kind), (h3, xI X 6 v_own), (h4, xI X 7 u.2.2), (h5, xI X 8 v_rowLength), (h6, xJ X 320 v_rowOf)] A) (n := 1) md_X7_depths.1 (Nat.le_of_ble_eq_true rfl) ?_
  intro p e s m args below meth c ls A hC hr hlk hH hl
  have hl : lv_has ls 5 [(0, .ref h0), (1, .int p1)] := hl
  have hx := hC.1
  have hb := hC.2.1
  have L29 : ∀ (x29_3 : Int32) (n : Nat) (s29 : Int32 × Int32), xloop (f_X7_depths_L29 v_laws v_inForce v_ring v_size v_kind v_own v_refusals v_rowOf p1 x29_3) n s29 = some u → ∀ (H : Heap) (locs : List Loc), xH X A [(h0, xO 7 [.int v_laws, .ref h2, .ref h3, .int v_inForce, .int s29.2, .int v_miss, .long v_ring, .int v_size, .int v_people, .ref g0, .int v_seed, .int v_taped, .ref g1, .int v_from, .int v_to, .int v_token, .int v_value, .ref h1, .ref h5, .ref h6, .ref h4, .int v_imaged, .ref g2, .long v_oldRing, .ref g3, .long v_aheadRing, .ref g4]), (h1, xI X 8 v_holding), (h2, xI X 6 v_kind), (h3, xI X 6 v_own), (h4, xI X 7 v_refusals), (h5, xI X 8 v_rowLength), (h6, xJ X 320 v_rowOf)] s.heap H locs → ∀ (ls : Array Slot), lv_has ls 5 [(0, .ref h0), (1, .int p1), (3, .int x29_3), (4, .int s29.1)] → W p l e (xrm 6 143) s m args below meth c H locs 0 0 (MQ below (xQw True (.returned (some (.int u.1))) X [(h0, xO 7 [.int v_laws, .ref h2, .ref h3, .int v_inForce, .int u.2.1, .int v_miss, .long v_ring, .int v_size, .int v_people, .ref g0, .int v_seed, .int v_taped, .ref g1, .int v_from, .int v_to, .int v_token, .int v_value, .ref h1, .ref h5, .ref h6, .ref h4, .int v_imaged, .ref g2, .long v_oldRing, .ref g3, .long v_aheadRing, .ref g4]), (h1, xI X 8 v_holding), (h2, xI X 6 v_kind), (h3, xI X 6 v_own), (h4, xI X 7 u.2.2), (h5, xI X 8 v_rowLength), (h6, xJ X 320 v_rowOf)] A) args s 0 0 A) (F0 m 29 ls []) := by
    intro x29_3 n
    induction n with
    | zero => intro s29 hf; exact xloop_0 hf
    | succ n ih29 =>
      intro s29 hf H locs hH ls hl
      obtain ⟨o29, hf, ho29⟩ := xloop_s hf
      have J57 : ∀ (j57_4 : Int32), f_X7_depths_J57 s29 j57_4 = some o29 → ∀ (H : Heap) (locs : List Loc), xH X A [(h0, xO 7 [.int v_laws, .ref h2, .ref h3, .int v_inForce, .int s29.2, .int v_miss, .long v_ring, .int v_size, .int v_people, .ref g0, .int v_seed, .int v_taped, .ref g1, .int v_from, .int v_to, .int v_token, .int v_value, .ref h1, .ref h5, .ref h6, .ref h4, .int v_imaged, .ref g2, .long v_oldRing, .ref g3, .long v_aheadRing, .ref g4]), (h1, xI X 8 v_holding), (h2, xI X 6 v_kind), (h3, xI X 6 v_own), (h4, xI X 7 v_refusals), (h5, xI X 8 v_rowLength), (h6, xJ X 320 v_rowOf)] s.heap H locs → ∀ (ls : Array Slot), lv_has ls 5 [(0, .ref h0), (1, .int p1), (3, .int x29_3), (4, .int j57_4)] → W p l e (xrm 6 143) s m args below meth c H locs 0 0 (MQ below (xQw True (.returned (some (.int u.1))) X [(h0, xO 7 [.int v_laws, .ref h2, .ref h3, .int v_inForce, .int u.2.1, .int v_miss, .long v_ring, .int v_size, .int v_people, .ref g0, .int v_seed, .int v_taped, .ref g1, .int v_from, .int v_to, .int v_token, .int v_value, .ref h1, .ref h5, .ref h6, .ref h4, .int v_imaged, .ref g2, .long v_oldRing, .ref g3, .long v_aheadRing, .ref g4]), (h1, xI X 8 v_holding), (h2, xI X 6 v_kind), (h3, xI X 6 v_own), (h4, xI X 7 u.2.2), (h5, xI X 8 v_rowLength), (h6, xJ X 320 v_rowOf)] A) args s 0 0 A) (F0 m 57 ls []) := by
        intro j57_4 hf H locs hH ls hl
        refine lv_aload_n hx hb dX7_depths_57 rfl (lv_at hl 0 rfl) ?_
        refine lv_dup hx hb dX7_depths_58 rfl ?_
        refine x_get hC fd_RX7_45 hH.1 0 rfl rfl dX7_depths_59 ?_
        refine lv_iconst (v := (nI 1)) hx hb dX7_depths_62 (by decide) ?_
        refine lv_iadd hx hb dX7_depths_63 ?_
        refine x_put (ws' := [(h0, xO 7 [.int v_laws, .ref h2, .ref h3, .int v_inForce, .int (s29.2 + (nI 1)), .int v_miss, .long v_ring, .int v_size, .int v_people, .ref g0, .int v_seed, .int v_taped, .ref g1, .int v_from, .int v_to, .int v_token, .int v_value, .ref h1, .ref h5, .ref h6, .ref h4, .int v_imaged, .ref g2, .long v_oldRing, .ref g3, .long v_aheadRing, .ref g4]), (h1, xI X 8 v_holding), (h2, xI X 6 v_kind), (h3, xI X 6 v_own), (h4, xI X 7 v_refusals), (h5, xI X 8 v_rowLength), (h6, xJ X 320 v_rowOf)]) hC fd_RX7_45 hH 0 rfl (Nat.le_of_ble_eq_true rfl) rfl rfl dX7_depths_64 rfl (fun H locs hH => ?_)
        refine lv_goto (tgt := 29) hx hb dX7_depths_67 (by decide) ?_
        have hf := xo_go hf ho29
        exact ih29 (j57_4, s29.2 + (nI 1)) hf _ _ hH ls (lv_sub hl [0, 1, 2, 3] rfl)
      refine lv_aload_n hx hb dX7_depths_29 rfl (lv_at hl 0 rfl) ?_
      refine x_get hC fd_RX7_45 hH.1 0 rfl rfl dX7_depths_30 ?_
      refine lv_bipush (v := (nI 10)) hx hb dX7_depths_33 (by decide) ?_
      refine lv_icmp_ge (tgt := 70) hx hb dX7_depths_35 (by decide) (fun c3 => ?_) (fun c3 => ?_)
      · have hf := xt c3 hf
        refine lv_aload_n hx hb dX7_depths_70 rfl (lv_at hl 0 rfl) ?_
        refine lv_iload_n hx hb dX7_depths_71 rfl (lv_at hl 2 rfl) ?_
        refine x_put (ws' := [(h0, xO 7 [.int v_laws, .ref h2, .ref h3, .int v_inForce, .int x29_3, .int v_miss, .long v_ring, .int v_size, .int v_people, .ref g0, .int v_seed, .int v_taped, .ref g1, .int v_from, .int v_to, .int v_token, .int v_value, .ref h1, .ref h5, .ref h6, .ref h4, .int v_imaged, .ref g2, .long v_oldRing, .ref g3, .long v_aheadRing, .ref g4]), (h1, xI X 8 v_holding), (h2, xI X 6 v_kind), (h3, xI X 6 v_own), (h4, xI X 7 v_refusals), (h5, xI X 8 v_rowLength), (h6, xJ X 320 v_rowOf)]) hC fd_RX7_45 hH 0 rfl (Nat.le_of_ble_eq_true rfl) rfl rfl dX7_depths_72 rfl (fun H locs hH => ?_)
        refine lv_iload hx hb dX7_depths_75 (lv_at hl 3 rfl) ?_
        have hf := xo_ret hf ho29
        exact x_retiw (φ := fun _ => True) (f := fun u : Int32 × Int32 × (Nat → Int32) => u.1) (wf := fun u : Int32 × Int32 × (Nat → Int32) => [(h0, xO 7 [.int v_laws, .ref h2, .ref h3, .int v_inForce, .int u.2.1, .int v_miss, .long v_ring, .int v_size, .int v_people, .ref g0, .int v_seed, .int v_taped, .ref g1, .int v_from, .int v_to, .int v_token, .int v_value, .ref h1, .ref h5, .ref h6, .ref h4, .int v_imaged, .ref g2, .long v_oldRing, .ref g3, .long v_aheadRing, .ref g4]), (h1, xI X 8 v_holding), (h2, xI X 6 v_kind), (h3, xI X 6 v_own), (h4, xI X 7 u.2.2), (h5, xI X 8 v_rowLength), (h6, xJ X 320 v_rowOf)]) hC hr hlk trivial hf hH rfl rfl dX7_depths_77
      · have hf := xe c3 hf
        refine lv_aload_n hx hb dX7_depths_38 rfl (lv_at hl 0 rfl) ?_
        refine lv_iload_n hx hb dX7_depths_39 rfl (lv_at hl 1 rfl) ?_
        obtain ⟨u4, hf4, hf⟩ := xb hf
        refine x_ran (x_runV (q0 := 0) (rest := []) (As := [.int p1]) hC mw_996 md_X7_differsNow (c_X7_differsNow (X := X) hf4) hH [0, 2, 3, 6] rfl (by decide) rfl rfl rfl hl.1 rfl rfl (Nat.le_of_ble_eq_true rfl) dX7_depths_40 ⟨Nat.le_of_ble_eq_true rfl, Nat.le_of_ble_eq_true rfl⟩ ⟨rfl, rfl⟩ ⟨Nat.le_refl _, Nat.le_refl _⟩) rfl (fun hz4 => ?_)
        refine lv_if_ne (tgt := 57) hx hb dX7_depths_43 (by decide) (fun c5 => ?_) (fun c5 => ?_)
        · have hf := xe c5 hf
          exact J57 s29.1 hf _ _ hH ls (lv_sub hl [0, 1, 2, 3] rfl)
        · have hf := xt c5 hf
          refine lv_iload hx hb dX7_depths_46 (lv_at hl 3 rfl) ?_
          refine lv_iconst (v := (nI 1)) hx hb dX7_depths_48 (by decide) ?_
          refine lv_aload_n hx hb dX7_depths_49 rfl (lv_at hl 0 rfl) ?_
          refine x_get hC fd_RX7_45 hH.1 0 rfl rfl dX7_depths_50 ?_
          refine x_ishl hx hb dX7_depths_53 ?_
          refine lv_ior hx hb dX7_depths_54 ?_
          refine lv_istore (lv' := [(4, .int (s29.1 ||| (xshl (nI 1) s29.2))), (0, .ref h0), (1, .int p1), (3, .int x29_3)]) hx hb dX7_depths_55 hl (by decide) rfl (fun ls hl => ?_)
          exact J57 (s29.1 ||| (xshl (nI 1) s29.2)) hf _ _ hH ls (lv_sub hl [1, 2, 3, 0] rfl)
  refine lv_aload_n hx hb dX7_depths_0 rfl (lv_at hl 0 rfl) ?_
  refine lv_iload_n hx hb dX7_depths_1 rfl (lv_at hl 1 rfl) ?_
  obtain ⟨u1, hf1, hf⟩ := xb hf
  refine x_ran (x_runV (q0 := 0) (rest := []) (As := [.int p1]) hC mw_992 md_X7_noHeard (c_X7_noHeard (X := X) hf1) hH [0, 1, 5] rfl (by decide) rfl rfl rfl hl.1 rfl rfl (Nat.le_of_ble_eq_true rfl) dX7_depths_2 ⟨Nat.le_of_ble_eq_true rfl, Nat.le_of_ble_eq_true rfl⟩ ⟨rfl, rfl⟩ ⟨Nat.le_refl _, Nat.le_refl _⟩) rfl (fun hz1 => ?_)
  refine lv_istore_n (lv' := [(2, .int u1), (0, .ref h0), (1, .int p1)]) hx hb dX7_depths_5 rfl hl (by decide) rfl (fun ls hl => ?_)
  refine lv_iload_n hx hb dX7_depths_6 rfl (lv_at hl 0 rfl) ?_
  refine lv_if_ge (tgt := 16) hx hb dX7_depths_7 (by decide) (fun c2 => ?_) (fun c2 => ?_)
  · have hf := xt c2 hf
    refine lv_aload_n hx hb dX7_depths_16 rfl (lv_at hl 1 rfl) ?_
    refine x_get hC fd_RX7_45 hH.1 0 rfl rfl dX7_depths_17 ?_
    refine lv_istore_n (lv' := [(3, .int v_depth), (2, .int u1), (0, .ref h0), (1, .int p1)]) hx hb dX7_depths_20 rfl hl (by decide) rfl (fun ls hl => ?_)
    refine lv_iconst (v := (nI 0)) hx hb dX7_depths_21 (by decide) ?_
    refine lv_istore (lv' := [(4, .int (nI 0)), (3, .int v_depth), (2, .int u1), (0, .ref h0), (1, .int p1)]) hx hb dX7_depths_22 hl (by decide) rfl (fun ls hl => ?_)
    refine lv_aload_n hx hb dX7_depths_24 rfl (lv_at hl 3 rfl) ?_
    refine lv_iconst (v := (nI 0)) hx hb dX7_depths_25 (by decide) ?_
    refine x_put (ws' := [(h0, xO 7 [.int v_laws, .ref h2, .ref h3, .int v_inForce, .int (nI 0), .int v_miss, .long v_ring, .int v_size, .int v_people, .ref g0, .int v_seed, .int v_taped, .ref g1, .int v_from, .int v_to, .int v_token, .int v_value, .ref h1, .ref h5, .ref h6, .ref h4, .int v_imaged, .ref g2, .long v_oldRing, .ref g3, .long v_aheadRing, .ref g4]), (h1, xI X 8 v_holding), (h2, xI X 6 v_kind), (h3, xI X 6 v_own), (h4, xI X 7 v_refusals), (h5, xI X 8 v_rowLength), (h6, xJ X 320 v_rowOf)]) hC fd_RX7_45 hH 0 rfl (Nat.le_of_ble_eq_true rfl) rfl rfl dX7_depths_26 rfl (fun H locs hH => ?_)
    exact L29 v_depth xN ((nI 0), (nI 0)) hf _ _ hH ls (lv_sub hl [3, 4, 1, 0] rfl)
  · have hf := xe c2 hf
    refine lv_aload_n hx hb dX7_depths_10 rfl (lv_at hl 1 rfl) ?_
    refine lv_iload_n hx hb dX7_depths_11 rfl (lv_at hl 0 rfl) ?_
    obtain ⟨u6, hf6, hf⟩ := xb hf
    refine x_ranw (ws' := [(h0, xO 7 [.int v_laws, .ref h2, .ref h3, .int v_inForce, .int v_depth, .int v_miss, .long v_ring, .int v_size, .int v_people, .ref g0, .int v_seed, .int v_taped, .ref g1, .int v_from, .int v_to, .int v_token, .int v_value, .ref h1, .ref h5, .ref h6, .ref h4, .int v_imaged, .ref g2, .long v_oldRing, .ref g3, .long v_aheadRing, .ref g4]), (h1, xI X 8 v_holding), (h2, xI X 6 v_kind), (h3, xI X 6 v_own), (h4, xI X 7 u6.2), (h5, xI X 8 v_rowLength), (h6, xJ X 320 v_rowOf)]) (x_runV (q0 := 0) (rest := []) (As := [.int u1]) hC mw_143 md_X7_no (c_X7_no (X := X) hf6) hH [0, 4] rfl (by decide) rfl rfl rfl hl.1 rfl rfl (Nat.le_of_ble_eq_true rfl) dX7_depths_12 ⟨Nat.le_of_ble_eq_true rfl, Nat.le_of_ble_eq_true rfl⟩ ⟨rfl, rfl⟩ ⟨Nat.le_refl _, Nat.le_refl _⟩) hH [0, 4] rfl rfl rfl rfl rfl (fun hz6 H locs hH => ?_)
    exact x_retiw (φ := fun _ => True) (f := fun u : Int32 × Int32 × (Nat → Int32) => u.1) (wf := fun u : Int32 × Int32 × (Nat → Int32) => [(h0, xO 7 [.int v_laws, .ref h2, .ref h3, .int v_inForce, .int u.2.1, .int v_miss, .long v_ring, .int v_size, .int v_people, .ref g0, .int v_seed, .int v_taped, .ref g1, .int v_from, .int v_to, .int v_token, .int v_value, .ref h1, .ref h5, .ref h6, .ref h4, .int v_imaged, .ref g2, .long v_oldRing, .ref g3, .long v_aheadRing, .ref g4]), (h1, xI X 8 v_holding), (h2, xI X 6 v_kind), (h3, xI X 6 v_own), (h4, xI X 7 u.2.2), (h5, xI X 8 v_rowLength), (h6, xJ X 320 v_rowOf)]) hC hr hlk trivial hf hH rfl rfl dX7_depths_15
def f_X7_differs (v_laws : Int32) (v_inForce : Int32) (v_depth : Int32) (v_ring : Int64) (v_size : Int32) (v_holding : (Nat → Int32)) (v_kind : (Nat → Int32)) (v_own : (Nat → Int32)) (v_refusals : (Nat → Int32)) (v_rowLength : (Nat → Int32)) (v_rowOf : (Nat → Int64)) (p1 : Int32) : Option (Int32 × (Nat → Int32)) :=
  (f_X7_noHeard v_size v_holding v_rowLength p1).bind fun u1 =>
  if (nI 0) ≤ u1 then
    (f_X7_differsNow v_laws v_inForce v_depth v_ring v_size v_kind v_own v_rowOf p1).bind fun u3 =>
    some (u3, v_refusals)
  else
  (f_X7_no v_refusals u1).bind fun u4 =>
  some (u4.1, u4.2)
set_option maxHeartbeats 4000000 in
set_option maxRecDepth 100000 in
theorem c_X7_differs {l : Launch} {X : xG} {h0 h1 h2 h3 h4 h5 h6 g0 g1 g2 g3 g4 : Nat} {v_laws : Int32} {v_inForce : Int32} {v_depth : Int32} {v_miss : Int32} {v_ring : Int64} {v_size : Int32} {v_people : Int32} {v_seed : Int32} {v_taped : Int32} {v_from : Int32} {v_to : Int32} {v_token : Int32} {v_value : Int32} {v_imaged : Int32} {v_oldRing : Int64} {v_aheadRing : Int64} {v_holding : (Nat → Int32)} {v_kind : (Nat → Int32)} {v_own : (Nat → Int32)} {v_refusals : (Nat → Int32)} {v_rowLength : (Nat → Int32)} {v_rowOf : (Nat → Int64)} {p1 : Int32} {u : Int32 × (Nat → Int32)} (hf : f_X7_differs v_laws v_inForce v_depth v_ring v_size v_holding v_kind v_own v_refusals v_rowLength v_rowOf p1 = some u) : Met l yX7_differs (xw yX7_differs cX7_differs 3 (some .int)) (xrm 6 143) (xPc [.ref h0, .int p1] X [(h0, xO 7 [.int v_laws, .ref h2, .ref h3, .int v_inForce, .int v_depth, .int v_miss, .long v_ring, .int v_size, .int v_people, .ref g0, .int v_seed, .int v_taped, .ref g1, .int v_from, .int v_to, .int v_token, .int v_value, .ref h1, .ref h5, .ref h6, .ref h4, .int v_imaged, .ref g2, .long v_oldRing, .ref g3, .long v_aheadRing, .ref g4]), (h1, xI X 8 v_holding), (h2, xI X 6 v_kind), (h3, xI X 6 v_own), (h4, xI X 7 v_refusals), (h5, xI X 8 v_rowLength), (h6, xJ X 320 v_rowOf)]) (xQw True (.returned (some (.int u.1))) X [(h0, xO 7 [.int v_laws, .ref h2, .ref h3, .int v_inForce, .int v_depth, .int v_miss, .long v_ring, .int v_size, .int v_people, .ref g0, .int v_seed, .int v_taped, .ref g1, .int v_from, .int v_to, .int v_token, .int v_value, .ref h1, .ref h5, .ref h6, .ref h4, .int v_imaged, .ref g2, .long v_oldRing, .ref g3, .long v_aheadRing, .ref g4]), (h1, xI X 8 v_holding), (h2, xI X 6 v_kind), (h3, xI X 6 v_own), (h4, xI X 7 u.2), (h5, xI X 8 v_rowLength), (h6, xJ X 320 v_rowOf)] (xAs [(h0, xO 7 [.int v_laws, .ref h2, .ref h3, .int v_inForce, .int v_depth, .int v_miss, .long v_ring, .int v_size, .int v_people, .ref g0, .int v_seed, .int v_taped, .ref g1, .int v_from, .int v_to, .int v_token, .int v_value, .ref h1, .ref h5, .ref h6, .ref h4, .int v_imaged, .ref g2, .long v_oldRing, .ref g3, .long v_aheadRing, .ref g4]), (h1, xI X 8 v_holding), (h2, xI X 6 v_kind), (h3, xI X 6 v_own), (h4, xI X 7 v_refusals), (h5, xI X 8 v_rowLength), (h6, xJ X 320 v_rowOf)])) 0 0 (xAs [(h0, xO 7 [.int v_laws, .ref h2, .ref h3, .int v_inForce, .int v_depth, .int v_miss, .long v_ring, .int v_size, .int v_people, .ref g0, .int v_seed, .int v_taped, .ref g1, .int v_from, .int v_to, .int v_token, .int v_value, .ref h1, .ref h5, .ref h6, .ref h4, .int v_imaged, .ref g2, .long v_oldRing, .ref g3, .long v_aheadRing, .ref g4]), (h1, xI X 8 v_holding), (h2, xI X 6 v_kind), (h3, xI X 6 v_own), (h4, xI X 7 v_refusals), (h5, xI X 8 v_rowLength), (h6, xJ X 320 v_rowOf)]) := by
  refine xMetw (Qc := fun A => xQw True (.returned (some (.int u.1))) X [(h0, xO 7 [.int v_laws, .ref h2, .ref h3, .int v_inForce, .int v_depth, .int v_miss, .long v_ring, .int v_size, .int v_people, .ref g0, .int v_seed, .int v_taped, .ref g1, .int v_from, .int v_to, .int v_token, .int v_value, .ref h1, .ref h5, .ref h6, .ref h4, .int v_imaged, .ref g2, .long v_oldRing, .ref g3, .long v_aheadRing, .ref g4]), (h1, xI X 8 v_holding), (h2, xI X 6 v_kind), (h3, xI X 6 v_own), (h4, xI X 7 u.2), (h5, xI X 8 v_rowLength), (h6, xJ X 320 v_rowOf)] A) (n := 1) md_X7_differs.1 (Nat.le_of_ble_eq_true rfl) ?_
  intro p e s m args below meth c ls A hC hr hlk hH hl
  have hl : lv_has ls 3 [(0, .ref h0), (1, .int p1)] := hl
  have hx := hC.1
  have hb := hC.2.1
  refine lv_aload_n hx hb dX7_differs_0 rfl (lv_at hl 0 rfl) ?_
  refine lv_iload_n hx hb dX7_differs_1 rfl (lv_at hl 1 rfl) ?_
  obtain ⟨u1, hf1, hf⟩ := xb hf
  refine x_ran (x_runV (q0 := 0) (rest := []) (As := [.int p1]) hC mw_992 md_X7_noHeard (c_X7_noHeard (X := X) hf1) hH [0, 1, 5] rfl (by decide) rfl rfl rfl hl.1 rfl rfl (Nat.le_of_ble_eq_true rfl) dX7_differs_2 ⟨Nat.le_of_ble_eq_true rfl, Nat.le_of_ble_eq_true rfl⟩ ⟨rfl, rfl⟩ ⟨Nat.le_refl _, Nat.le_refl _⟩) rfl (fun hz1 => ?_)
  refine lv_istore_n (lv' := [(2, .int u1), (0, .ref h0), (1, .int p1)]) hx hb dX7_differs_5 rfl hl (by decide) rfl (fun ls hl => ?_)
  refine lv_iload_n hx hb dX7_differs_6 rfl (lv_at hl 0 rfl) ?_
  refine lv_if_ge (tgt := 18) hx hb dX7_differs_7 (by decide) (fun c2 => ?_) (fun c2 => ?_)
  · have hf := xt c2 hf
    refine lv_aload_n hx hb dX7_differs_18 rfl (lv_at hl 1 rfl) ?_
    refine lv_iload_n hx hb dX7_differs_19 rfl (lv_at hl 2 rfl) ?_
    obtain ⟨u3, hf3, hf⟩ := xb hf
    refine x_ran (x_runV (q0 := 0) (rest := []) (As := [.int p1]) hC mw_996 md_X7_differsNow (c_X7_differsNow (X := X) hf3) hH [0, 2, 3, 6] rfl (by decide) rfl rfl rfl hl.1 rfl rfl (Nat.le_of_ble_eq_true rfl) dX7_differs_20 ⟨Nat.le_of_ble_eq_true rfl, Nat.le_of_ble_eq_true rfl⟩ ⟨rfl, rfl⟩ ⟨Nat.le_refl _, Nat.le_refl _⟩) rfl (fun hz3 => ?_)
    exact x_retiw (φ := fun _ => True) (f := fun u : Int32 × (Nat → Int32) => u.1) (wf := fun u : Int32 × (Nat → Int32) => [(h0, xO 7 [.int v_laws, .ref h2, .ref h3, .int v_inForce, .int v_depth, .int v_miss, .long v_ring, .int v_size, .int v_people, .ref g0, .int v_seed, .int v_taped, .ref g1, .int v_from, .int v_to, .int v_token, .int v_value, .ref h1, .ref h5, .ref h6, .ref h4, .int v_imaged, .ref g2, .long v_oldRing, .ref g3, .long v_aheadRing, .ref g4]), (h1, xI X 8 v_holding), (h2, xI X 6 v_kind), (h3, xI X 6 v_own), (h4, xI X 7 u.2), (h5, xI X 8 v_rowLength), (h6, xJ X 320 v_rowOf)]) hC hr hlk trivial hf hH rfl rfl dX7_differs_23
  · have hf := xe c2 hf
    refine lv_aload_n hx hb dX7_differs_10 rfl (lv_at hl 1 rfl) ?_
    refine lv_iload_n hx hb dX7_differs_11 rfl (lv_at hl 0 rfl) ?_
    obtain ⟨u4, hf4, hf⟩ := xb hf
    refine x_ranw (ws' := [(h0, xO 7 [.int v_laws, .ref h2, .ref h3, .int v_inForce, .int v_depth, .int v_miss, .long v_ring, .int v_size, .int v_people, .ref g0, .int v_seed, .int v_taped, .ref g1, .int v_from, .int v_to, .int v_token, .int v_value, .ref h1, .ref h5, .ref h6, .ref h4, .int v_imaged, .ref g2, .long v_oldRing, .ref g3, .long v_aheadRing, .ref g4]), (h1, xI X 8 v_holding), (h2, xI X 6 v_kind), (h3, xI X 6 v_own), (h4, xI X 7 u4.2), (h5, xI X 8 v_rowLength), (h6, xJ X 320 v_rowOf)]) (x_runV (q0 := 0) (rest := []) (As := [.int u1]) hC mw_143 md_X7_no (c_X7_no (X := X) hf4) hH [0, 4] rfl (by decide) rfl rfl rfl hl.1 rfl rfl (Nat.le_of_ble_eq_true rfl) dX7_differs_12 ⟨Nat.le_of_ble_eq_true rfl, Nat.le_of_ble_eq_true rfl⟩ ⟨rfl, rfl⟩ ⟨Nat.le_refl _, Nat.le_refl _⟩) hH [0, 4] rfl rfl rfl rfl rfl (fun hz4 H locs hH => ?_)
    refine lv_goto (tgt := 23) hx hb dX7_differs_15 (by decide) ?_
    exact x_retiw (φ := fun _ => True) (f := fun u : Int32 × (Nat → Int32) => u.1) (wf := fun u : Int32 × (Nat → Int32) => [(h0, xO 7 [.int v_laws, .ref h2, .ref h3, .int v_inForce, .int v_depth, .int v_miss, .long v_ring, .int v_size, .int v_people, .ref g0, .int v_seed, .int v_taped, .ref g1, .int v_from, .int v_to, .int v_token, .int v_value, .ref h1, .ref h5, .ref h6, .ref h4, .int v_imaged, .ref g2, .long v_oldRing, .ref g3, .long v_aheadRing, .ref g4]), (h1, xI X 8 v_holding), (h2, xI X 6 v_kind), (h3, xI X 6 v_own), (h4, xI X 7 u.2), (h5, xI X 8 v_rowLength), (h6, xJ X 320 v_rowOf)]) hC hr hlk trivial hf hH rfl rfl dX7_differs_23
def f_X7_fits_J59 (s29 : Int32 × Int32) (j59_4 : Int32) : Option ((Int32 × Int32 × (Nat → Int32)) ⊕ (Int32 × Int32)) :=
  some (.inr (j59_4, s29.2 + (nI 1)))
def f_X7_fits_L29 (v_laws : Int32) (v_depth : Int32) (v_ring : Int64) (v_size : Int32) (v_kind : (Nat → Int32)) (v_own : (Nat → Int32)) (v_refusals : (Nat → Int32)) (v_rowOf : (Nat → Int64)) (p1 : Int32) (x29_3 : Int32) (s29 : Int32 × Int32) : Option ((Int32 × Int32 × (Nat → Int32)) ⊕ (Int32 × Int32)) :=
  if v_laws ≤ s29.2 then
    some (.inl (s29.1, x29_3, v_refusals))
  else
  (f_X7_differsNow v_laws s29.2 v_depth v_ring v_size v_kind v_own v_rowOf p1).bind fun u4 =>
  if u4 = (nI 0) then
    f_X7_fits_J59 s29 (s29.1 ||| (xshl (nI 1) s29.2))
  else
  f_X7_fits_J59 s29 s29.1
def f_X7_fits (v_laws : Int32) (v_inForce : Int32) (v_depth : Int32) (v_ring : Int64) (v_size : Int32) (v_holding : (Nat → Int32)) (v_kind : (Nat → Int32)) (v_own : (Nat → Int32)) (v_refusals : (Nat → Int32)) (v_rowLength : (Nat → Int32)) (v_rowOf : (Nat → Int64)) (p1 : Int32) : Option (Int32 × Int32 × (Nat → Int32)) :=
  (f_X7_noHeard v_size v_holding v_rowLength p1).bind fun u1 =>
  if (nI 0) ≤ u1 then
    xloop (f_X7_fits_L29 v_laws v_depth v_ring v_size v_kind v_own v_refusals v_rowOf p1 v_inForce) xN ((nI 0), (nI 0))
  else
  (f_X7_no v_refusals u1).bind fun u6 =>
  some (u6.1, v_inForce, u6.2)
set_option maxHeartbeats 4000000 in
set_option maxRecDepth 100000 in
theorem c_X7_fits {l : Launch} {X : xG} {h0 h1 h2 h3 h4 h5 h6 g0 g1 g2 g3 g4 : Nat} {v_laws : Int32} {v_inForce : Int32} {v_depth : Int32} {v_miss : Int32} {v_ring : Int64} {v_size : Int32} {v_people : Int32} {v_seed : Int32} {v_taped : Int32} {v_from : Int32} {v_to : Int32} {v_token : Int32} {v_value : Int32} {v_imaged : Int32} {v_oldRing : Int64} {v_aheadRing : Int64} {v_holding : (Nat → Int32)} {v_kind : (Nat → Int32)} {v_own : (Nat → Int32)} {v_refusals : (Nat → Int32)} {v_rowLength : (Nat → Int32)} {v_rowOf : (Nat → Int64)} {p1 : Int32} {u : Int32 × Int32 × (Nat → Int32)} (hf : f_X7_fits v_laws v_inForce v_depth v_ring v_size v_holding v_kind v_own v_refusals v_rowLength v_rowOf p1 = some u) : Met l yX7_fits (xw yX7_fits cX7_fits 5 (some .int)) (xrm 6 143) (xPc [.ref h0, .int p1] X [(h0, xO 7 [.int v_laws, .ref h2, .ref h3, .int v_inForce, .int v_depth, .int v_miss, .long v_ring, .int v_size, .int v_people, .ref g0, .int v_seed, .int v_taped, .ref g1, .int v_from, .int v_to, .int v_token, .int v_value, .ref h1, .ref h5, .ref h6, .ref h4, .int v_imaged, .ref g2, .long v_oldRing, .ref g3, .long v_aheadRing, .ref g4]), (h1, xI X 8 v_holding), (h2, xI X 6 v_kind), (h3, xI X 6 v_own), (h4, xI X 7 v_refusals), (h5, xI X 8 v_rowLength), (h6, xJ X 320 v_rowOf)]) (xQw True (.returned (some (.int u.1))) X [(h0, xO 7 [.int v_laws, .ref h2, .ref h3, .int u.2.1, .int v_depth, .int v_miss, .long v_ring, .int v_size, .int v_people, .ref g0, .int v_seed, .int v_taped, .ref g1, .int v_from, .int v_to, .int v_token, .int v_value, .ref h1, .ref h5, .ref h6, .ref h4, .int v_imaged, .ref g2, .long v_oldRing, .ref g3, .long v_aheadRing, .ref g4]), (h1, xI X 8 v_holding), (h2, xI X 6 v_kind), (h3, xI X 6 v_own), (h4, xI X 7 u.2.2), (h5, xI X 8 v_rowLength), (h6, xJ X 320 v_rowOf)] (xAs [(h0, xO 7 [.int v_laws, .ref h2, .ref h3, .int v_inForce, .int v_depth, .int v_miss, .long v_ring, .int v_size, .int v_people, .ref g0, .int v_seed, .int v_taped, .ref g1, .int v_from, .int v_to, .int v_token, .int v_value, .ref h1, .ref h5, .ref h6, .ref h4, .int v_imaged, .ref g2, .long v_oldRing, .ref g3, .long v_aheadRing, .ref g4]), (h1, xI X 8 v_holding), (h2, xI X 6 v_kind), (h3, xI X 6 v_own), (h4, xI X 7 v_refusals), (h5, xI X 8 v_rowLength), (h6, xJ X 320 v_rowOf)])) 0 0 (xAs [(h0, xO 7 [.int v_laws, .ref h2, .ref h3, .int v_inForce, .int v_depth, .int v_miss, .long v_ring, .int v_size, .int v_people, .ref g0, .int v_seed, .int v_taped, .ref g1, .int v_from, .int v_to, .int v_token, .int v_value, .ref h1, .ref h5, .ref h6, .ref h4, .int v_imaged, .ref g2, .long v_oldRing, .ref g3, .long v_aheadRing, .ref g4]), (h1, xI X 8 v_holding), (h2, xI X 6 v_kind), (h3, xI X 6 v_own), (h4, xI X 7 v_refusals), (h5, xI X 8 v_rowLength), (h6, xJ X 320 v_rowOf)]) := by
  refine xMetw (Qc := fun A => xQw True (.returned (some (.int u.1))) X [(h0, xO 7 [.int v_laws, .ref h2, .ref h3, .int u.2.1, .int v_depth, .int v_miss, .long v_ring, .int v_size, .int v_people, .ref g0, .int v_seed, .int v_taped, .ref g1, .int v_from, .int v_to, .int v_token, .int v_value, .ref h1, .ref h5, .ref h6, .ref h4, .int v_imaged, .ref g2, .long v_oldRing, .ref g3, .long v_aheadRing, .ref g4]), (h1, xI X 8 v_holding), (h2, xI X 6 v_kind), (h3, xI X 6 v_own), (h4, xI X 7 u.2.2), (h5, xI X 8 v_rowLength), (h6, xJ X 320 v_rowOf)] A) (n := 1) md_X7_fits.1 (Nat.le_of_ble_eq_true rfl) ?_
  intro p e s m args below meth c ls A hC hr hlk hH hl
  have hl : lv_has ls 5 [(0, .ref h0), (1, .int p1)] := hl
  have hx := hC.1
  have hb := hC.2.1
  have L29 : ∀ (x29_3 : Int32) (n : Nat) (s29 : Int32 × Int32), xloop (f_X7_fits_L29 v_laws v_depth v_ring v_size v_kind v_own v_refusals v_rowOf p1 x29_3) n s29 = some u → ∀ (H : Heap) (locs : List Loc), xH X A [(h0, xO 7 [.int v_laws, .ref h2, .ref h3, .int s29.2, .int v_depth, .int v_miss, .long v_ring, .int v_size, .int v_people, .ref g0, .int v_seed, .int v_taped, .ref g1, .int v_from, .int v_to, .int v_token, .int v_value, .ref h1, .ref h5, .ref h6, .ref h4, .int v_imaged, .ref g2, .long v_oldRing, .ref g3, .long v_aheadRing, .ref g4]), (h1, xI X 8 v_holding), (h2, xI X 6 v_kind), (h3, xI X 6 v_own), (h4, xI X 7 v_refusals), (h5, xI X 8 v_rowLength), (h6, xJ X 320 v_rowOf)] s.heap H locs → ∀ (ls : Array Slot), lv_has ls 5 [(0, .ref h0), (1, .int p1), (3, .int x29_3), (4, .int s29.1)] → W p l e (xrm 6 143) s m args below meth c H locs 0 0 (MQ below (xQw True (.returned (some (.int u.1))) X [(h0, xO 7 [.int v_laws, .ref h2, .ref h3, .int u.2.1, .int v_depth, .int v_miss, .long v_ring, .int v_size, .int v_people, .ref g0, .int v_seed, .int v_taped, .ref g1, .int v_from, .int v_to, .int v_token, .int v_value, .ref h1, .ref h5, .ref h6, .ref h4, .int v_imaged, .ref g2, .long v_oldRing, .ref g3, .long v_aheadRing, .ref g4]), (h1, xI X 8 v_holding), (h2, xI X 6 v_kind), (h3, xI X 6 v_own), (h4, xI X 7 u.2.2), (h5, xI X 8 v_rowLength), (h6, xJ X 320 v_rowOf)] A) args s 0 0 A) (F0 m 29 ls []) := by
    intro x29_3 n
    induction n with
    | zero => intro s29 hf; exact xloop_0 hf
    | succ n ih29 =>
      intro s29 hf H locs hH ls hl
      obtain ⟨o29, hf, ho29⟩ := xloop_s hf
      have J59 : ∀ (j59_4 : Int32), f_X7_fits_J59 s29 j59_4 = some o29 → ∀ (H : Heap) (locs : List Loc), xH X A [(h0, xO 7 [.int v_laws, .ref h2, .ref h3, .int s29.2, .int v_depth, .int v_miss, .long v_ring, .int v_size, .int v_people, .ref g0, .int v_seed, .int v_taped, .ref g1, .int v_from, .int v_to, .int v_token, .int v_value, .ref h1, .ref h5, .ref h6, .ref h4, .int v_imaged, .ref g2, .long v_oldRing, .ref g3, .long v_aheadRing, .ref g4]), (h1, xI X 8 v_holding), (h2, xI X 6 v_kind), (h3, xI X 6 v_own), (h4, xI X 7 v_refusals), (h5, xI X 8 v_rowLength), (h6, xJ X 320 v_rowOf)] s.heap H locs → ∀ (ls : Array Slot), lv_has ls 5 [(0, .ref h0), (1, .int p1), (3, .int x29_3), (4, .int j59_4)] → W p l e (xrm 6 143) s m args below meth c H locs 0 0 (MQ below (xQw True (.returned (some (.int u.1))) X [(h0, xO 7 [.int v_laws, .ref h2, .ref h3, .int u.2.1, .int v_depth, .int v_miss, .long v_ring, .int v_size, .int v_people, .ref g0, .int v_seed, .int v_taped, .ref g1, .int v_from, .int v_to, .int v_token, .int v_value, .ref h1, .ref h5, .ref h6, .ref h4, .int v_imaged, .ref g2, .long v_oldRing, .ref g3, .long v_aheadRing, .ref g4]), (h1, xI X 8 v_holding), (h2, xI X 6 v_kind), (h3, xI X 6 v_own), (h4, xI X 7 u.2.2), (h5, xI X 8 v_rowLength), (h6, xJ X 320 v_rowOf)] A) args s 0 0 A) (F0 m 59 ls []) := by
        intro j59_4 hf H locs hH ls hl
        refine lv_aload_n hx hb dX7_fits_59 rfl (lv_at hl 0 rfl) ?_
        refine lv_dup hx hb dX7_fits_60 rfl ?_
        refine x_get hC fd_RX7_102 hH.1 0 rfl rfl dX7_fits_61 ?_
        refine lv_iconst (v := (nI 1)) hx hb dX7_fits_64 (by decide) ?_
        refine lv_iadd hx hb dX7_fits_65 ?_
        refine x_put (ws' := [(h0, xO 7 [.int v_laws, .ref h2, .ref h3, .int (s29.2 + (nI 1)), .int v_depth, .int v_miss, .long v_ring, .int v_size, .int v_people, .ref g0, .int v_seed, .int v_taped, .ref g1, .int v_from, .int v_to, .int v_token, .int v_value, .ref h1, .ref h5, .ref h6, .ref h4, .int v_imaged, .ref g2, .long v_oldRing, .ref g3, .long v_aheadRing, .ref g4]), (h1, xI X 8 v_holding), (h2, xI X 6 v_kind), (h3, xI X 6 v_own), (h4, xI X 7 v_refusals), (h5, xI X 8 v_rowLength), (h6, xJ X 320 v_rowOf)]) hC fd_RX7_102 hH 0 rfl (Nat.le_of_ble_eq_true rfl) rfl rfl dX7_fits_66 rfl (fun H locs hH => ?_)
        refine lv_goto (tgt := 29) hx hb dX7_fits_69 (by decide) ?_
        have hf := xo_go hf ho29
        exact ih29 (j59_4, s29.2 + (nI 1)) hf _ _ hH ls (lv_sub hl [0, 1, 2, 3] rfl)
      refine lv_aload_n hx hb dX7_fits_29 rfl (lv_at hl 0 rfl) ?_
      refine x_get hC fd_RX7_102 hH.1 0 rfl rfl dX7_fits_30 ?_
      refine lv_aload_n hx hb dX7_fits_33 rfl (lv_at hl 0 rfl) ?_
      refine x_get hC fd_RX7_52 hH.1 0 rfl rfl dX7_fits_34 ?_
      refine lv_icmp_ge (tgt := 72) hx hb dX7_fits_37 (by decide) (fun c3 => ?_) (fun c3 => ?_)
      · have hf := xt c3 hf
        refine lv_aload_n hx hb dX7_fits_72 rfl (lv_at hl 0 rfl) ?_
        refine lv_iload_n hx hb dX7_fits_73 rfl (lv_at hl 2 rfl) ?_
        refine x_put (ws' := [(h0, xO 7 [.int v_laws, .ref h2, .ref h3, .int x29_3, .int v_depth, .int v_miss, .long v_ring, .int v_size, .int v_people, .ref g0, .int v_seed, .int v_taped, .ref g1, .int v_from, .int v_to, .int v_token, .int v_value, .ref h1, .ref h5, .ref h6, .ref h4, .int v_imaged, .ref g2, .long v_oldRing, .ref g3, .long v_aheadRing, .ref g4]), (h1, xI X 8 v_holding), (h2, xI X 6 v_kind), (h3, xI X 6 v_own), (h4, xI X 7 v_refusals), (h5, xI X 8 v_rowLength), (h6, xJ X 320 v_rowOf)]) hC fd_RX7_102 hH 0 rfl (Nat.le_of_ble_eq_true rfl) rfl rfl dX7_fits_74 rfl (fun H locs hH => ?_)
        refine lv_iload hx hb dX7_fits_77 (lv_at hl 3 rfl) ?_
        have hf := xo_ret hf ho29
        exact x_retiw (φ := fun _ => True) (f := fun u : Int32 × Int32 × (Nat → Int32) => u.1) (wf := fun u : Int32 × Int32 × (Nat → Int32) => [(h0, xO 7 [.int v_laws, .ref h2, .ref h3, .int u.2.1, .int v_depth, .int v_miss, .long v_ring, .int v_size, .int v_people, .ref g0, .int v_seed, .int v_taped, .ref g1, .int v_from, .int v_to, .int v_token, .int v_value, .ref h1, .ref h5, .ref h6, .ref h4, .int v_imaged, .ref g2, .long v_oldRing, .ref g3, .long v_aheadRing, .ref g4]), (h1, xI X 8 v_holding), (h2, xI X 6 v_kind), (h3, xI X 6 v_own), (h4, xI X 7 u.2.2), (h5, xI X 8 v_rowLength), (h6, xJ X 320 v_rowOf)]) hC hr hlk trivial hf hH rfl rfl dX7_fits_79
      · have hf := xe c3 hf
        refine lv_aload_n hx hb dX7_fits_40 rfl (lv_at hl 0 rfl) ?_
        refine lv_iload_n hx hb dX7_fits_41 rfl (lv_at hl 1 rfl) ?_
        obtain ⟨u4, hf4, hf⟩ := xb hf
        refine x_ran (x_runV (q0 := 0) (rest := []) (As := [.int p1]) hC mw_996 md_X7_differsNow (c_X7_differsNow (X := X) hf4) hH [0, 2, 3, 6] rfl (by decide) rfl rfl rfl hl.1 rfl rfl (Nat.le_of_ble_eq_true rfl) dX7_fits_42 ⟨Nat.le_of_ble_eq_true rfl, Nat.le_of_ble_eq_true rfl⟩ ⟨rfl, rfl⟩ ⟨Nat.le_refl _, Nat.le_refl _⟩) rfl (fun hz4 => ?_)
        refine lv_if_ne (tgt := 59) hx hb dX7_fits_45 (by decide) (fun c5 => ?_) (fun c5 => ?_)
        · have hf := xe c5 hf
          exact J59 s29.1 hf _ _ hH ls (lv_sub hl [0, 1, 2, 3] rfl)
        · have hf := xt c5 hf
          refine lv_iload hx hb dX7_fits_48 (lv_at hl 3 rfl) ?_
          refine lv_iconst (v := (nI 1)) hx hb dX7_fits_50 (by decide) ?_
          refine lv_aload_n hx hb dX7_fits_51 rfl (lv_at hl 0 rfl) ?_
          refine x_get hC fd_RX7_102 hH.1 0 rfl rfl dX7_fits_52 ?_
          refine x_ishl hx hb dX7_fits_55 ?_
          refine lv_ior hx hb dX7_fits_56 ?_
          refine lv_istore (lv' := [(4, .int (s29.1 ||| (xshl (nI 1) s29.2))), (0, .ref h0), (1, .int p1), (3, .int x29_3)]) hx hb dX7_fits_57 hl (by decide) rfl (fun ls hl => ?_)
          exact J59 (s29.1 ||| (xshl (nI 1) s29.2)) hf _ _ hH ls (lv_sub hl [1, 2, 3, 0] rfl)
  refine lv_aload_n hx hb dX7_fits_0 rfl (lv_at hl 0 rfl) ?_
  refine lv_iload_n hx hb dX7_fits_1 rfl (lv_at hl 1 rfl) ?_
  obtain ⟨u1, hf1, hf⟩ := xb hf
  refine x_ran (x_runV (q0 := 0) (rest := []) (As := [.int p1]) hC mw_992 md_X7_noHeard (c_X7_noHeard (X := X) hf1) hH [0, 1, 5] rfl (by decide) rfl rfl rfl hl.1 rfl rfl (Nat.le_of_ble_eq_true rfl) dX7_fits_2 ⟨Nat.le_of_ble_eq_true rfl, Nat.le_of_ble_eq_true rfl⟩ ⟨rfl, rfl⟩ ⟨Nat.le_refl _, Nat.le_refl _⟩) rfl (fun hz1 => ?_)
  refine lv_istore_n (lv' := [(2, .int u1), (0, .ref h0), (1, .int p1)]) hx hb dX7_fits_5 rfl hl (by decide) rfl (fun ls hl => ?_)
  refine lv_iload_n hx hb dX7_fits_6 rfl (lv_at hl 0 rfl) ?_
  refine lv_if_ge (tgt := 16) hx hb dX7_fits_7 (by decide) (fun c2 => ?_) (fun c2 => ?_)
  · have hf := xt c2 hf
    refine lv_aload_n hx hb dX7_fits_16 rfl (lv_at hl 1 rfl) ?_
    refine x_get hC fd_RX7_102 hH.1 0 rfl rfl dX7_fits_17 ?_
    refine lv_istore_n (lv' := [(3, .int v_inForce), (2, .int u1), (0, .ref h0), (1, .int p1)]) hx hb dX7_fits_20 rfl hl (by decide) rfl (fun ls hl => ?_)
    refine lv_iconst (v := (nI 0)) hx hb dX7_fits_21 (by decide) ?_
    refine lv_istore (lv' := [(4, .int (nI 0)), (3, .int v_inForce), (2, .int u1), (0, .ref h0), (1, .int p1)]) hx hb dX7_fits_22 hl (by decide) rfl (fun ls hl => ?_)
    refine lv_aload_n hx hb dX7_fits_24 rfl (lv_at hl 3 rfl) ?_
    refine lv_iconst (v := (nI 0)) hx hb dX7_fits_25 (by decide) ?_
    refine x_put (ws' := [(h0, xO 7 [.int v_laws, .ref h2, .ref h3, .int (nI 0), .int v_depth, .int v_miss, .long v_ring, .int v_size, .int v_people, .ref g0, .int v_seed, .int v_taped, .ref g1, .int v_from, .int v_to, .int v_token, .int v_value, .ref h1, .ref h5, .ref h6, .ref h4, .int v_imaged, .ref g2, .long v_oldRing, .ref g3, .long v_aheadRing, .ref g4]), (h1, xI X 8 v_holding), (h2, xI X 6 v_kind), (h3, xI X 6 v_own), (h4, xI X 7 v_refusals), (h5, xI X 8 v_rowLength), (h6, xJ X 320 v_rowOf)]) hC fd_RX7_102 hH 0 rfl (Nat.le_of_ble_eq_true rfl) rfl rfl dX7_fits_26 rfl (fun H locs hH => ?_)
    exact L29 v_inForce xN ((nI 0), (nI 0)) hf _ _ hH ls (lv_sub hl [3, 4, 1, 0] rfl)
  · have hf := xe c2 hf
    refine lv_aload_n hx hb dX7_fits_10 rfl (lv_at hl 1 rfl) ?_
    refine lv_iload_n hx hb dX7_fits_11 rfl (lv_at hl 0 rfl) ?_
    obtain ⟨u6, hf6, hf⟩ := xb hf
    refine x_ranw (ws' := [(h0, xO 7 [.int v_laws, .ref h2, .ref h3, .int v_inForce, .int v_depth, .int v_miss, .long v_ring, .int v_size, .int v_people, .ref g0, .int v_seed, .int v_taped, .ref g1, .int v_from, .int v_to, .int v_token, .int v_value, .ref h1, .ref h5, .ref h6, .ref h4, .int v_imaged, .ref g2, .long v_oldRing, .ref g3, .long v_aheadRing, .ref g4]), (h1, xI X 8 v_holding), (h2, xI X 6 v_kind), (h3, xI X 6 v_own), (h4, xI X 7 u6.2), (h5, xI X 8 v_rowLength), (h6, xJ X 320 v_rowOf)]) (x_runV (q0 := 0) (rest := []) (As := [.int u1]) hC mw_143 md_X7_no (c_X7_no (X := X) hf6) hH [0, 4] rfl (by decide) rfl rfl rfl hl.1 rfl rfl (Nat.le_of_ble_eq_true rfl) dX7_fits_12 ⟨Nat.le_of_ble_eq_true rfl, Nat.le_of_ble_eq_true rfl⟩ ⟨rfl, rfl⟩ ⟨Nat.le_refl _, Nat.le_refl _⟩) hH [0, 4] rfl rfl rfl rfl rfl (fun hz6 H locs hH => ?_)
    exact x_retiw (φ := fun _ => True) (f := fun u : Int32 × Int32 × (Nat → Int32) => u.1) (wf := fun u : Int32 × Int32 × (Nat → Int32) => [(h0, xO 7 [.int v_laws, .ref h2, .ref h3, .int u.2.1, .int v_depth, .int v_miss, .long v_ring, .int v_size, .int v_people, .ref g0, .int v_seed, .int v_taped, .ref g1, .int v_from, .int v_to, .int v_token, .int v_value, .ref h1, .ref h5, .ref h6, .ref h4, .int v_imaged, .ref g2, .long v_oldRing, .ref g3, .long v_aheadRing, .ref g4]), (h1, xI X 8 v_holding), (h2, xI X 6 v_kind), (h3, xI X 6 v_own), (h4, xI X 7 u.2.2), (h5, xI X 8 v_rowLength), (h6, xJ X 320 v_rowOf)]) hC hr hlk trivial hf hH rfl rfl dX7_fits_15
def f_X7_together_J55 (s14 : Int32 × Int32 × Int32) (j55_2 : Int32) (j55_3 : Int32) : Option ((Int32 × Int32) ⊕ (Int32 × Int32 × Int32)) :=
  some (.inr (j55_2, j55_3, s14.2.2 + (nI 1)))
def f_X7_together_L14 (v_laws : Int32) (v_inForce : Int32) (v_ring : Int64) (v_size : Int32) (v_kind : (Nat → Int32)) (v_own : (Nat → Int32)) (x14_1 : Int32) (s14 : Int32 × Int32 × Int32) : Option ((Int32 × Int32) ⊕ (Int32 × Int32 × Int32)) :=
  if (nI 10) ≤ s14.2.2 then
    some (.inl (s14.1, x14_1))
  else
  (f_X7_many v_laws v_inForce s14.2.2 v_kind v_own v_ring v_size (nI 1)).bind fun u2 =>
  if s14.2.1 < u2 then
    f_X7_together_J55 s14 s14.2.2 u2
  else
  f_X7_together_J55 s14 s14.1 s14.2.1
def f_X7_together (v_laws : Int32) (v_inForce : Int32) (v_depth : Int32) (v_ring : Int64) (v_size : Int32) (v_kind : (Nat → Int32)) (v_own : (Nat → Int32)) : Option (Int32 × Int32) :=
  xloop (f_X7_together_L14 v_laws v_inForce v_ring v_size v_kind v_own v_depth) xN ((nI 0), (-1 : Int32), (nI 0))
set_option maxHeartbeats 4000000 in
set_option maxRecDepth 100000 in
theorem c_X7_together {l : Launch} {X : xG} {h0 h1 h2 g0 g1 g2 g3 g4 g5 g6 g7 g8 : Nat} {v_laws : Int32} {v_inForce : Int32} {v_depth : Int32} {v_miss : Int32} {v_ring : Int64} {v_size : Int32} {v_people : Int32} {v_seed : Int32} {v_taped : Int32} {v_from : Int32} {v_to : Int32} {v_token : Int32} {v_value : Int32} {v_imaged : Int32} {v_oldRing : Int64} {v_aheadRing : Int64} {v_kind : (Nat → Int32)} {v_own : (Nat → Int32)} {u : Int32 × Int32} (hf : f_X7_together v_laws v_inForce v_depth v_ring v_size v_kind v_own = some u) : Met l yX7_together (xw yX7_together cX7_together 5 (some .int)) (xrm 7 171) (xPc [.ref h0] X [(h0, xO 7 [.int v_laws, .ref h1, .ref h2, .int v_inForce, .int v_depth, .int v_miss, .long v_ring, .int v_size, .int v_people, .ref g0, .int v_seed, .int v_taped, .ref g1, .int v_from, .int v_to, .int v_token, .int v_value, .ref g2, .ref g3, .ref g4, .ref g5, .int v_imaged, .ref g6, .long v_oldRing, .ref g7, .long v_aheadRing, .ref g8]), (h1, xI X 6 v_kind), (h2, xI X 6 v_own)]) (xQw True (.returned (some (.int u.1))) X [(h0, xO 7 [.int v_laws, .ref h1, .ref h2, .int v_inForce, .int u.2, .int v_miss, .long v_ring, .int v_size, .int v_people, .ref g0, .int v_seed, .int v_taped, .ref g1, .int v_from, .int v_to, .int v_token, .int v_value, .ref g2, .ref g3, .ref g4, .ref g5, .int v_imaged, .ref g6, .long v_oldRing, .ref g7, .long v_aheadRing, .ref g8]), (h1, xI X 6 v_kind), (h2, xI X 6 v_own)] (xAs [(h0, xO 7 [.int v_laws, .ref h1, .ref h2, .int v_inForce, .int v_depth, .int v_miss, .long v_ring, .int v_size, .int v_people, .ref g0, .int v_seed, .int v_taped, .ref g1, .int v_from, .int v_to, .int v_token, .int v_value, .ref g2, .ref g3, .ref g4, .ref g5, .int v_imaged, .ref g6, .long v_oldRing, .ref g7, .long v_aheadRing, .ref g8]), (h1, xI X 6 v_kind), (h2, xI X 6 v_own)])) 0 0 (xAs [(h0, xO 7 [.int v_laws, .ref h1, .ref h2, .int v_inForce, .int v_depth, .int v_miss, .long v_ring, .int v_size, .int v_people, .ref g0, .int v_seed, .int v_taped, .ref g1, .int v_from, .int v_to, .int v_token, .int v_value, .ref g2, .ref g3, .ref g4, .ref g5, .int v_imaged, .ref g6, .long v_oldRing, .ref g7, .long v_aheadRing, .ref g8]), (h1, xI X 6 v_kind), (h2, xI X 6 v_own)]) := by
  refine xMetw (Qc := fun A => xQw True (.returned (some (.int u.1))) X [(h0, xO 7 [.int v_laws, .ref h1, .ref h2, .int v_inForce, .int u.2, .int v_miss, .long v_ring, .int v_size, .int v_people, .ref g0, .int v_seed, .int v_taped, .ref g1, .int v_from, .int v_to, .int v_token, .int v_value, .ref g2, .ref g3, .ref g4, .ref g5, .int v_imaged, .ref g6, .long v_oldRing, .ref g7, .long v_aheadRing, .ref g8]), (h1, xI X 6 v_kind), (h2, xI X 6 v_own)] A) (n := 0) md_X7_together.1 (Nat.le_of_ble_eq_true rfl) ?_
  intro p e s m args below meth c ls A hC hr hlk hH hl
  have hl : lv_has ls 5 [(0, .ref h0)] := hl
  have hx := hC.1
  have hb := hC.2.1
  have L14 : ∀ (x14_1 : Int32) (n : Nat) (s14 : Int32 × Int32 × Int32), xloop (f_X7_together_L14 v_laws v_inForce v_ring v_size v_kind v_own x14_1) n s14 = some u → ∀ (H : Heap) (locs : List Loc), xH X A [(h0, xO 7 [.int v_laws, .ref h1, .ref h2, .int v_inForce, .int s14.2.2, .int v_miss, .long v_ring, .int v_size, .int v_people, .ref g0, .int v_seed, .int v_taped, .ref g1, .int v_from, .int v_to, .int v_token, .int v_value, .ref g2, .ref g3, .ref g4, .ref g5, .int v_imaged, .ref g6, .long v_oldRing, .ref g7, .long v_aheadRing, .ref g8]), (h1, xI X 6 v_kind), (h2, xI X 6 v_own)] s.heap H locs → ∀ (ls : Array Slot), lv_has ls 5 [(0, .ref h0), (1, .int x14_1), (2, .int s14.1), (3, .int s14.2.1)] → W p l e (xrm 7 171) s m args below meth c H locs 0 0 (MQ below (xQw True (.returned (some (.int u.1))) X [(h0, xO 7 [.int v_laws, .ref h1, .ref h2, .int v_inForce, .int u.2, .int v_miss, .long v_ring, .int v_size, .int v_people, .ref g0, .int v_seed, .int v_taped, .ref g1, .int v_from, .int v_to, .int v_token, .int v_value, .ref g2, .ref g3, .ref g4, .ref g5, .int v_imaged, .ref g6, .long v_oldRing, .ref g7, .long v_aheadRing, .ref g8]), (h1, xI X 6 v_kind), (h2, xI X 6 v_own)] A) args s 0 0 A) (F0 m 14 ls []) := by
    intro x14_1 n
    induction n with
    | zero => intro s14 hf; exact xloop_0 hf
    | succ n ih14 =>
      intro s14 hf H locs hH ls hl
      obtain ⟨o14, hf, ho14⟩ := xloop_s hf
      have J55 : ∀ (j55_2 : Int32) (j55_3 : Int32), f_X7_together_J55 s14 j55_2 j55_3 = some o14 → ∀ (H : Heap) (locs : List Loc), xH X A [(h0, xO 7 [.int v_laws, .ref h1, .ref h2, .int v_inForce, .int s14.2.2, .int v_miss, .long v_ring, .int v_size, .int v_people, .ref g0, .int v_seed, .int v_taped, .ref g1, .int v_from, .int v_to, .int v_token, .int v_value, .ref g2, .ref g3, .ref g4, .ref g5, .int v_imaged, .ref g6, .long v_oldRing, .ref g7, .long v_aheadRing, .ref g8]), (h1, xI X 6 v_kind), (h2, xI X 6 v_own)] s.heap H locs → ∀ (ls : Array Slot), lv_has ls 5 [(0, .ref h0), (1, .int x14_1), (2, .int j55_2), (3, .int j55_3)] → W p l e (xrm 7 171) s m args below meth c H locs 0 0 (MQ below (xQw True (.returned (some (.int u.1))) X [(h0, xO 7 [.int v_laws, .ref h1, .ref h2, .int v_inForce, .int u.2, .int v_miss, .long v_ring, .int v_size, .int v_people, .ref g0, .int v_seed, .int v_taped, .ref g1, .int v_from, .int v_to, .int v_token, .int v_value, .ref g2, .ref g3, .ref g4, .ref g5, .int v_imaged, .ref g6, .long v_oldRing, .ref g7, .long v_aheadRing, .ref g8]), (h1, xI X 6 v_kind), (h2, xI X 6 v_own)] A) args s 0 0 A) (F0 m 55 ls []) := by
        intro j55_2 j55_3 hf H locs hH ls hl
        refine lv_aload_n hx hb dX7_together_55 rfl (lv_at hl 0 rfl) ?_
        refine lv_dup hx hb dX7_together_56 rfl ?_
        refine x_get hC fd_RX7_45 hH.1 0 rfl rfl dX7_together_57 ?_
        refine lv_iconst (v := (nI 1)) hx hb dX7_together_60 (by decide) ?_
        refine lv_iadd hx hb dX7_together_61 ?_
        refine x_put (ws' := [(h0, xO 7 [.int v_laws, .ref h1, .ref h2, .int v_inForce, .int (s14.2.2 + (nI 1)), .int v_miss, .long v_ring, .int v_size, .int v_people, .ref g0, .int v_seed, .int v_taped, .ref g1, .int v_from, .int v_to, .int v_token, .int v_value, .ref g2, .ref g3, .ref g4, .ref g5, .int v_imaged, .ref g6, .long v_oldRing, .ref g7, .long v_aheadRing, .ref g8]), (h1, xI X 6 v_kind), (h2, xI X 6 v_own)]) hC fd_RX7_45 hH 0 rfl (Nat.le_of_ble_eq_true rfl) rfl rfl dX7_together_62 rfl (fun H locs hH => ?_)
        refine lv_goto (tgt := 14) hx hb dX7_together_65 (by decide) ?_
        have hf := xo_go hf ho14
        exact ih14 (j55_2, j55_3, s14.2.2 + (nI 1)) hf _ _ hH ls (lv_sub hl [0, 1, 2, 3] rfl)
      refine lv_aload_n hx hb dX7_together_14 rfl (lv_at hl 0 rfl) ?_
      refine x_get hC fd_RX7_45 hH.1 0 rfl rfl dX7_together_15 ?_
      refine lv_bipush (v := (nI 10)) hx hb dX7_together_18 (by decide) ?_
      refine lv_icmp_ge (tgt := 68) hx hb dX7_together_20 (by decide) (fun c1 => ?_) (fun c1 => ?_)
      · have hf := xt c1 hf
        refine lv_aload_n hx hb dX7_together_68 rfl (lv_at hl 0 rfl) ?_
        refine lv_iload_n hx hb dX7_together_69 rfl (lv_at hl 1 rfl) ?_
        refine x_put (ws' := [(h0, xO 7 [.int v_laws, .ref h1, .ref h2, .int v_inForce, .int x14_1, .int v_miss, .long v_ring, .int v_size, .int v_people, .ref g0, .int v_seed, .int v_taped, .ref g1, .int v_from, .int v_to, .int v_token, .int v_value, .ref g2, .ref g3, .ref g4, .ref g5, .int v_imaged, .ref g6, .long v_oldRing, .ref g7, .long v_aheadRing, .ref g8]), (h1, xI X 6 v_kind), (h2, xI X 6 v_own)]) hC fd_RX7_45 hH 0 rfl (Nat.le_of_ble_eq_true rfl) rfl rfl dX7_together_70 rfl (fun H locs hH => ?_)
        refine lv_iload_n hx hb dX7_together_73 rfl (lv_at hl 2 rfl) ?_
        have hf := xo_ret hf ho14
        exact x_retiw (φ := fun _ => True) (f := fun u : Int32 × Int32 => u.1) (wf := fun u : Int32 × Int32 => [(h0, xO 7 [.int v_laws, .ref h1, .ref h2, .int v_inForce, .int u.2, .int v_miss, .long v_ring, .int v_size, .int v_people, .ref g0, .int v_seed, .int v_taped, .ref g1, .int v_from, .int v_to, .int v_token, .int v_value, .ref g2, .ref g3, .ref g4, .ref g5, .int v_imaged, .ref g6, .long v_oldRing, .ref g7, .long v_aheadRing, .ref g8]), (h1, xI X 6 v_kind), (h2, xI X 6 v_own)]) hC hr hlk trivial hf hH rfl rfl dX7_together_74
      · have hf := xe c1 hf
        refine lv_aload_n hx hb dX7_together_23 rfl (lv_at hl 0 rfl) ?_
        refine lv_aload_n hx hb dX7_together_24 rfl (lv_at hl 0 rfl) ?_
        refine x_get hC fd_RX7_90 hH.1 0 rfl rfl dX7_together_25 ?_
        refine lv_aload_n hx hb dX7_together_28 rfl (lv_at hl 0 rfl) ?_
        refine x_get hC fd_RX7_62 hH.1 0 rfl rfl dX7_together_29 ?_
        refine lv_iconst (v := (nI 1)) hx hb dX7_together_32 (by decide) ?_
        obtain ⟨u2, hf2, hf⟩ := xb hf
        refine x_ran (x_runV (q0 := 0) (rest := []) (As := [.long v_ring, .int v_size, .int (nI 1)]) hC mw_749 md_X7_many (c_X7_many (X := X) hf2) hH [0, 1, 2] rfl (by decide) rfl rfl rfl hl.1 rfl rfl (Nat.le_of_ble_eq_true rfl) dX7_together_33 ⟨Nat.le_of_ble_eq_true rfl, Nat.le_of_ble_eq_true rfl⟩ ⟨rfl, rfl⟩ ⟨Nat.le_refl _, Nat.le_refl _⟩) rfl (fun hz2 => ?_)
        refine lv_istore (lv' := [(4, .int u2), (0, .ref h0), (1, .int x14_1), (2, .int s14.1), (3, .int s14.2.1)]) hx hb dX7_together_36 hl (by decide) rfl (fun ls hl => ?_)
        refine lv_iload hx hb dX7_together_38 (lv_at hl 0 rfl) ?_
        refine lv_iload_n hx hb dX7_together_40 rfl (lv_at hl 4 rfl) ?_
        refine lv_icmp_gt (tgt := 47) hx hb dX7_together_41 (by decide) (fun c3 => ?_) (fun c3 => ?_)
        · have hf := xt c3 hf
          refine lv_iload hx hb dX7_together_47 (lv_at hl 0 rfl) ?_
          refine lv_istore_n (lv' := [(3, .int u2), (4, .int u2), (0, .ref h0), (1, .int x14_1), (2, .int s14.1)]) hx hb dX7_together_49 rfl hl (by decide) rfl (fun ls hl => ?_)
          refine lv_aload_n hx hb dX7_together_50 rfl (lv_at hl 2 rfl) ?_
          refine x_get hC fd_RX7_45 hH.1 0 rfl rfl dX7_together_51 ?_
          refine lv_istore_n (lv' := [(2, .int s14.2.2), (3, .int u2), (4, .int u2), (0, .ref h0), (1, .int x14_1)]) hx hb dX7_together_54 rfl hl (by decide) rfl (fun ls hl => ?_)
          exact J55 s14.2.2 u2 hf _ _ hH ls (lv_sub hl [3, 4, 0, 1] rfl)
        · have hf := xe c3 hf
          refine lv_goto (tgt := 55) hx hb dX7_together_44 (by decide) ?_
          exact J55 s14.1 s14.2.1 hf _ _ hH ls (lv_sub hl [1, 2, 3, 4] rfl)
  refine lv_aload_n hx hb dX7_together_0 rfl (lv_at hl 0 rfl) ?_
  refine x_get hC fd_RX7_45 hH.1 0 rfl rfl dX7_together_1 ?_
  refine lv_istore_n (lv' := [(1, .int v_depth), (0, .ref h0)]) hx hb dX7_together_4 rfl hl (by decide) rfl (fun ls hl => ?_)
  refine lv_iconst (v := (nI 0)) hx hb dX7_together_5 (by decide) ?_
  refine lv_istore_n (lv' := [(2, .int (nI 0)), (1, .int v_depth), (0, .ref h0)]) hx hb dX7_together_6 rfl hl (by decide) rfl (fun ls hl => ?_)
  refine lv_iconst (v := (-1 : Int32)) hx hb dX7_together_7 (by decide) ?_
  refine lv_istore_n (lv' := [(3, .int (-1 : Int32)), (2, .int (nI 0)), (1, .int v_depth), (0, .ref h0)]) hx hb dX7_together_8 rfl hl (by decide) rfl (fun ls hl => ?_)
  refine lv_aload_n hx hb dX7_together_9 rfl (lv_at hl 3 rfl) ?_
  refine lv_iconst (v := (nI 0)) hx hb dX7_together_10 (by decide) ?_
  refine x_put (ws' := [(h0, xO 7 [.int v_laws, .ref h1, .ref h2, .int v_inForce, .int (nI 0), .int v_miss, .long v_ring, .int v_size, .int v_people, .ref g0, .int v_seed, .int v_taped, .ref g1, .int v_from, .int v_to, .int v_token, .int v_value, .ref g2, .ref g3, .ref g4, .ref g5, .int v_imaged, .ref g6, .long v_oldRing, .ref g7, .long v_aheadRing, .ref g8]), (h1, xI X 6 v_kind), (h2, xI X 6 v_own)]) hC fd_RX7_45 hH 0 rfl (Nat.le_of_ble_eq_true rfl) rfl rfl dX7_together_11 rfl (fun H locs hH => ?_)
  exact L14 v_depth xN ((nI 0), (-1 : Int32), (nI 0)) hf _ _ hH ls (lv_sub hl [3, 2, 1, 0] rfl)
def f_X7_odds_L17 (v_miss : Int32) (s17 : Int32 × Int32) : Option ((Int32) ⊕ (Int32 × Int32)) :=
  if s17.2 ≤ (nI 0) then
    some (.inl s17.1)
  else
  some (.inr ((s17.1 * ((nI 100) - v_miss)) / (nI 100), s17.2 + (-1 : Int32)))
def f_X7_odds (v_laws : Int32) (v_inForce : Int32) (v_miss : Int32) (v_ring : Int64) (v_size : Int32) (v_kind : (Nat → Int32)) (v_own : (Nat → Int32)) : Option (Int32) :=
  (f_X7_struckNow v_laws v_inForce v_kind v_own v_ring v_size).bind fun u1 =>
  xloop (f_X7_odds_L17 v_miss) xN ((nI 1000000), u1)
set_option maxHeartbeats 4000000 in
set_option maxRecDepth 100000 in
theorem c_X7_odds {l : Launch} {X : xG} {h0 h1 h2 g0 g1 g2 g3 g4 g5 g6 g7 g8 : Nat} {v_laws : Int32} {v_inForce : Int32} {v_depth : Int32} {v_miss : Int32} {v_ring : Int64} {v_size : Int32} {v_people : Int32} {v_seed : Int32} {v_taped : Int32} {v_from : Int32} {v_to : Int32} {v_token : Int32} {v_value : Int32} {v_imaged : Int32} {v_oldRing : Int64} {v_aheadRing : Int64} {v_kind : (Nat → Int32)} {v_own : (Nat → Int32)} {u : Int32} (hf : f_X7_odds v_laws v_inForce v_miss v_ring v_size v_kind v_own = some u) : Met l yX7_odds (xw yX7_odds cX7_odds 3 (some .int)) (xrm 5 121) (xPc [.ref h0] X [(h0, xO 7 [.int v_laws, .ref h1, .ref h2, .int v_inForce, .int v_depth, .int v_miss, .long v_ring, .int v_size, .int v_people, .ref g0, .int v_seed, .int v_taped, .ref g1, .int v_from, .int v_to, .int v_token, .int v_value, .ref g2, .ref g3, .ref g4, .ref g5, .int v_imaged, .ref g6, .long v_oldRing, .ref g7, .long v_aheadRing, .ref g8]), (h1, xI X 6 v_kind), (h2, xI X 6 v_own)]) (xQ True (.returned (some (.int u)))) 0 0 xNo := by
  refine xMet (n := 0) md_X7_odds.1 (Nat.le_of_ble_eq_true rfl) ?_
  intro p e s m args below meth c ls A hC hr hlk hH hl
  have hl : lv_has ls 3 [(0, .ref h0)] := hl
  have hx := hC.1
  have hb := hC.2.1
  have L17 : ∀ (n : Nat) (s17 : Int32 × Int32), xloop (f_X7_odds_L17 v_miss) n s17 = some u → ∀ (ls : Array Slot), lv_has ls 3 [(0, .ref h0), (1, .int s17.1), (2, .int s17.2)] → W p l e (xrm 5 121) s m args below meth c s.heap [] 0 0 (MQ below (xQ True (.returned (some (.int u)))) args s 0 0 xNo) (F0 m 17 ls []) := by
    intro  n
    induction n with
    | zero => intro s17 hf; exact xloop_0 hf
    | succ n ih17 =>
      intro s17 hf ls hl
      obtain ⟨o17, hf, ho17⟩ := xloop_s hf
      refine lv_iload_n hx hb dX7_odds_17 rfl (lv_at hl 2 rfl) ?_
      refine lv_if_le (tgt := 40) hx hb dX7_odds_18 (by decide) (fun c2 => ?_) (fun c2 => ?_)
      · have hf := xt c2 hf
        refine lv_iload_n hx hb dX7_odds_40 rfl (lv_at hl 1 rfl) ?_
        have hf := xo_ret hf ho17
        exact x_reti hC hr hlk trivial hf dX7_odds_41
      · have hf := xe c2 hf
        refine lv_iload_n hx hb dX7_odds_21 rfl (lv_at hl 1 rfl) ?_
        refine lv_bipush (v := (nI 100)) hx hb dX7_odds_22 (by decide) ?_
        refine lv_aload_n hx hb dX7_odds_24 rfl (lv_at hl 0 rfl) ?_
        refine x_get hC fd_RX7_105 hH.1 0 rfl rfl dX7_odds_25 ?_
        refine lv_isub hx hb dX7_odds_28 ?_
        refine lv_imul hx hb dX7_odds_29 ?_
        refine lv_bipush (v := (nI 100)) hx hb dX7_odds_30 (by decide) ?_
        refine lv_idiv hx hb dX7_odds_32 (by decide) ?_
        refine lv_istore_n (lv' := [(1, .int ((s17.1 * ((nI 100) - v_miss)) / (nI 100))), (0, .ref h0), (2, .int s17.2)]) hx hb dX7_odds_33 rfl hl (by decide) rfl (fun ls hl => ?_)
        refine lv_iinc (v := s17.2 + (-1 : Int32)) (lv' := [(2, .int (s17.2 + (-1 : Int32))), (1, .int ((s17.1 * ((nI 100) - v_miss)) / (nI 100))), (0, .ref h0)]) hx hb dX7_odds_34 hl (k := 2) rfl rfl (by decide) rfl (fun ls hl => ?_)
        refine lv_goto (tgt := 17) hx hb dX7_odds_37 (by decide) ?_
        have hf := xo_go hf ho17
        exact ih17 ((s17.1 * ((nI 100) - v_miss)) / (nI 100), s17.2 + (-1 : Int32)) hf ls (lv_sub hl [2, 1, 0] rfl)
  refine lv_ldcw (v := (nI 1000000)) hx hb hC.2.2.2.1 (hC.2.2.2.2.1 _ mw_1025) dX7_odds_0 ?_
  refine lv_istore_n (lv' := [(1, .int (nI 1000000)), (0, .ref h0)]) hx hb dX7_odds_3 rfl hl (by decide) rfl (fun ls hl => ?_)
  refine lv_aload_n hx hb dX7_odds_4 rfl (lv_at hl 1 rfl) ?_
  refine lv_aload_n hx hb dX7_odds_5 rfl (lv_at hl 1 rfl) ?_
  refine x_get hC fd_RX7_90 hH.1 0 rfl rfl dX7_odds_6 ?_
  refine lv_aload_n hx hb dX7_odds_9 rfl (lv_at hl 1 rfl) ?_
  refine x_get hC fd_RX7_62 hH.1 0 rfl rfl dX7_odds_10 ?_
  obtain ⟨u1, hf1, hf⟩ := xb hf
  refine x_ran (x_runV (q0 := 0) (rest := []) (As := [.long v_ring, .int v_size]) hC mw_837 md_X7_struckNow (c_X7_struckNow (X := X) hf1) hH [0, 1, 2] rfl (by decide) rfl rfl rfl hl.1 rfl rfl (Nat.le_of_ble_eq_true rfl) dX7_odds_13 ⟨Nat.le_of_ble_eq_true rfl, Nat.le_of_ble_eq_true rfl⟩ ⟨rfl, rfl⟩ ⟨Nat.le_refl _, Nat.le_refl _⟩) rfl (fun hz1 => ?_)
  refine lv_istore_n (lv' := [(2, .int u1), (1, .int (nI 1000000)), (0, .ref h0)]) hx hb dX7_odds_16 rfl hl (by decide) rfl (fun ls hl => ?_)
  exact L17 xN ((nI 1000000), u1) hf ls (lv_sub hl [2, 1, 0] rfl)
def f_X7_expected (v_laws : Int32) (v_inForce : Int32) (v_miss : Int32) (v_ring : Int64) (v_size : Int32) (v_kind : (Nat → Int32)) (v_own : (Nat → Int32)) : Option (Int32) :=
  (f_X7_struckNow v_laws v_inForce v_kind v_own v_ring v_size).bind fun u1 =>
  some ((((nI 1000) * u1) * ((nI 100) - v_miss)) / (nI 100))
set_option maxHeartbeats 4000000 in
set_option maxRecDepth 100000 in
theorem c_X7_expected {l : Launch} {X : xG} {h0 h1 h2 g0 g1 g2 g3 g4 g5 g6 g7 g8 : Nat} {v_laws : Int32} {v_inForce : Int32} {v_depth : Int32} {v_miss : Int32} {v_ring : Int64} {v_size : Int32} {v_people : Int32} {v_seed : Int32} {v_taped : Int32} {v_from : Int32} {v_to : Int32} {v_token : Int32} {v_value : Int32} {v_imaged : Int32} {v_oldRing : Int64} {v_aheadRing : Int64} {v_kind : (Nat → Int32)} {v_own : (Nat → Int32)} {u : Int32} (hf : f_X7_expected v_laws v_inForce v_miss v_ring v_size v_kind v_own = some u) : Met l yX7_expected (xw yX7_expected cX7_expected 1 (some .int)) (xrm 5 121) (xPc [.ref h0] X [(h0, xO 7 [.int v_laws, .ref h1, .ref h2, .int v_inForce, .int v_depth, .int v_miss, .long v_ring, .int v_size, .int v_people, .ref g0, .int v_seed, .int v_taped, .ref g1, .int v_from, .int v_to, .int v_token, .int v_value, .ref g2, .ref g3, .ref g4, .ref g5, .int v_imaged, .ref g6, .long v_oldRing, .ref g7, .long v_aheadRing, .ref g8]), (h1, xI X 6 v_kind), (h2, xI X 6 v_own)]) (xQ True (.returned (some (.int u)))) 0 0 xNo := by
  refine xMet (n := 0) md_X7_expected.1 (Nat.le_of_ble_eq_true rfl) ?_
  intro p e s m args below meth c ls A hC hr hlk hH hl
  have hl : lv_has ls 1 [(0, .ref h0)] := hl
  have hx := hC.1
  have hb := hC.2.1
  refine lv_sipush (v := (nI 1000)) hx hb dX7_expected_0 (by decide) ?_
  refine lv_aload_n hx hb dX7_expected_3 rfl (lv_at hl 0 rfl) ?_
  refine lv_aload_n hx hb dX7_expected_4 rfl (lv_at hl 0 rfl) ?_
  refine x_get hC fd_RX7_90 hH.1 0 rfl rfl dX7_expected_5 ?_
  refine lv_aload_n hx hb dX7_expected_8 rfl (lv_at hl 0 rfl) ?_
  refine x_get hC fd_RX7_62 hH.1 0 rfl rfl dX7_expected_9 ?_
  obtain ⟨u1, hf1, hf⟩ := xb hf
  refine x_ran (x_runV (q0 := 0) (rest := [.int (nI 1000)]) (As := [.long v_ring, .int v_size]) hC mw_837 md_X7_struckNow (c_X7_struckNow (X := X) hf1) hH [0, 1, 2] rfl (by decide) rfl rfl rfl hl.1 rfl rfl (Nat.le_of_ble_eq_true rfl) dX7_expected_12 ⟨Nat.le_of_ble_eq_true rfl, Nat.le_of_ble_eq_true rfl⟩ ⟨rfl, rfl⟩ ⟨Nat.le_refl _, Nat.le_refl _⟩) rfl (fun hz1 => ?_)
  refine lv_imul hx hb dX7_expected_15 ?_
  refine lv_bipush (v := (nI 100)) hx hb dX7_expected_16 (by decide) ?_
  refine lv_aload_n hx hb dX7_expected_18 rfl (lv_at hl 0 rfl) ?_
  refine x_get hC fd_RX7_105 hH.1 0 rfl rfl dX7_expected_19 ?_
  refine lv_isub hx hb dX7_expected_22 ?_
  refine lv_imul hx hb dX7_expected_23 ?_
  refine lv_bipush (v := (nI 100)) hx hb dX7_expected_24 (by decide) ?_
  refine lv_idiv hx hb dX7_expected_26 (by decide) ?_
  exact x_reti hC hr hlk trivial hf dX7_expected_27
def f_X7_parted_L32 (v_laws : Int32) (v_size : Int32) (v_kind : (Nat → Int32)) (v_own : (Nat → Int32)) (p1 : Int32) (x32_3 : Int64) (s32 : Int32 × Int32 × Int32) : Option ((Int32) ⊕ (Int32 × Int32 × Int32)) :=
  if v_laws ≤ s32.2.2 then
    some (.inl (xmin s32.1 s32.2.1))
  else
  (f_X7_has (Int32.toInt64 p1) s32.2.2).bind fun u3 =>
  if u3 = (nI 0) then
    some (.inr (s32.1, s32.2.1, s32.2.2 + (nI 1)))
  else
  (f_X7_strikesAt v_kind v_own s32.2.2 x32_3 (v_size + (nI 1)) v_size).bind fun u5 =>
  if u5 = (nI 0) then
    some (.inr (s32.1, s32.2.1 + (nI 1), s32.2.2 + (nI 1)))
  else
  some (.inr (s32.1 + (nI 1), s32.2.1, s32.2.2 + (nI 1)))
def f_X7_parted_J22 (v_laws : Int32) (v_size : Int32) (v_kind : (Nat → Int32)) (v_own : (Nat → Int32)) (p1 : Int32) (j22_s0 : Int64) : Option (Int32) :=
  xloop (f_X7_parted_L32 v_laws v_size v_kind v_own p1 j22_s0) xN ((nI 0), (nI 0), (nI 0))
def f_X7_parted (v_laws : Int32) (v_ring : Int64) (v_size : Int32) (v_kind : (Nat → Int32)) (v_own : (Nat → Int32)) (p1 : Int32) (p2 : Int32) : Option (Int32) :=
  if p2 = (nI 0) then
    f_X7_parted_J22 v_laws v_size v_kind v_own p1 v_ring
  else
  f_X7_parted_J22 v_laws v_size v_kind v_own p1 (v_ring ||| (xlshl (lN 1) v_size))
set_option maxHeartbeats 4000000 in
set_option maxRecDepth 100000 in
theorem c_X7_parted {l : Launch} {X : xG} {h0 h1 h2 g0 g1 g2 g3 g4 g5 g6 g7 g8 : Nat} {v_laws : Int32} {v_inForce : Int32} {v_depth : Int32} {v_miss : Int32} {v_ring : Int64} {v_size : Int32} {v_people : Int32} {v_seed : Int32} {v_taped : Int32} {v_from : Int32} {v_to : Int32} {v_token : Int32} {v_value : Int32} {v_imaged : Int32} {v_oldRing : Int64} {v_aheadRing : Int64} {v_kind : (Nat → Int32)} {v_own : (Nat → Int32)} {p1 : Int32} {p2 : Int32} {u : Int32} (hf : f_X7_parted v_laws v_ring v_size v_kind v_own p1 p2 = some u) : Met l yX7_parted (xw yX7_parted cX7_parted 8 (some .int)) (xrm 3 72) (xPc [.ref h0, .int p1, .int p2] X [(h0, xO 7 [.int v_laws, .ref h1, .ref h2, .int v_inForce, .int v_depth, .int v_miss, .long v_ring, .int v_size, .int v_people, .ref g0, .int v_seed, .int v_taped, .ref g1, .int v_from, .int v_to, .int v_token, .int v_value, .ref g2, .ref g3, .ref g4, .ref g5, .int v_imaged, .ref g6, .long v_oldRing, .ref g7, .long v_aheadRing, .ref g8]), (h1, xI X 6 v_kind), (h2, xI X 6 v_own)]) (xQ True (.returned (some (.int u)))) 0 0 xNo := by
  refine xMet (n := 2) md_X7_parted.1 (Nat.le_of_ble_eq_true rfl) ?_
  intro p e s m args below meth c ls A hC hr hlk hH hl
  have hl : lv_has ls 8 [(0, .ref h0), (1, .int p1), (2, .int p2)] := hl
  have hx := hC.1
  have hb := hC.2.1
  have L32 : ∀ (x32_3 : Int64) (n : Nat) (s32 : Int32 × Int32 × Int32), xloop (f_X7_parted_L32 v_laws v_size v_kind v_own p1 x32_3) n s32 = some u → ∀ (ls : Array Slot), lv_has ls 8 [(0, .ref h0), (1, .int p1), (3, .long x32_3), (5, .int s32.1), (6, .int s32.2.1), (7, .int s32.2.2)] → W p l e (xrm 3 72) s m args below meth c s.heap [] 0 0 (MQ below (xQ True (.returned (some (.int u)))) args s 0 0 xNo) (F0 m 32 ls []) := by
    intro x32_3 n
    induction n with
    | zero => intro s32 hf; exact xloop_0 hf
    | succ n ih32 =>
      intro s32 hf ls hl
      obtain ⟨o32, hf, ho32⟩ := xloop_s hf
      refine lv_iload hx hb dX7_parted_32 (lv_at hl 5 rfl) ?_
      refine lv_aload_n hx hb dX7_parted_34 rfl (lv_at hl 0 rfl) ?_
      refine x_get hC fd_RX7_52 hH.1 0 rfl rfl dX7_parted_35 ?_
      refine lv_icmp_ge (tgt := 89) hx hb dX7_parted_38 (by decide) (fun c2 => ?_) (fun c2 => ?_)
      · have hf := xt c2 hf
        refine lv_iload hx hb dX7_parted_89 (lv_at hl 3 rfl) ?_
        refine lv_iload hx hb dX7_parted_91 (lv_at hl 4 rfl) ?_
        refine x_min hC hl.1 mw_1060 mw_476 mw_477 mw_478 (Nat.le_of_ble_eq_true rfl) (Nat.le_of_ble_eq_true rfl) (Nat.le_refl _) (Nat.le_refl _) dX7_parted_93 ?_
        have hf := xo_ret hf ho32
        exact x_reti hC hr hlk trivial hf dX7_parted_96
      · have hf := xe c2 hf
        refine lv_iload_n hx hb dX7_parted_41 rfl (lv_at hl 1 rfl) ?_
        refine lv_i2l hx hb dX7_parted_42 rfl ?_
        refine lv_iload hx hb dX7_parted_43 (lv_at hl 5 rfl) ?_
        obtain ⟨u3, hf3, hf⟩ := xb hf
        refine x_ran (x_runS (rest := []) (As := [.long (Int32.toInt64 p1), .int s32.2.2]) hC mw_336 md_X7_has (c_X7_has (X := X) hf3) hH [] rfl (by decide) hl.1 rfl rfl (Nat.le_of_ble_eq_true rfl) dX7_parted_45 ⟨Nat.le_of_ble_eq_true rfl, Nat.le_of_ble_eq_true rfl⟩ ⟨rfl, rfl⟩ ⟨Nat.le_refl _, Nat.le_refl _⟩) rfl (fun hz3 => ?_)
        refine lv_if_ne (tgt := 54) hx hb dX7_parted_48 (by decide) (fun c4 => ?_) (fun c4 => ?_)
        · have hf := xe c4 hf
          refine lv_aload_n hx hb dX7_parted_54 rfl (lv_at hl 0 rfl) ?_
          refine lv_iload hx hb dX7_parted_55 (lv_at hl 5 rfl) ?_
          refine lv_lload_n hx hb dX7_parted_57 rfl (lv_at hl 2 rfl) ?_
          refine lv_aload_n hx hb dX7_parted_58 rfl (lv_at hl 0 rfl) ?_
          refine x_get hC fd_RX7_62 hH.1 0 rfl rfl dX7_parted_59 ?_
          refine lv_iconst (v := (nI 1)) hx hb dX7_parted_62 (by decide) ?_
          refine lv_iadd hx hb dX7_parted_63 ?_
          refine lv_aload_n hx hb dX7_parted_64 rfl (lv_at hl 0 rfl) ?_
          refine x_get hC fd_RX7_62 hH.1 0 rfl rfl dX7_parted_65 ?_
          obtain ⟨u5, hf5, hf⟩ := xb hf
          refine x_ran (x_runV (q0 := 0) (rest := []) (As := [.int s32.2.2, .long x32_3, .int (v_size + (nI 1)), .int v_size]) hC mw_329 md_X7_strikesAt (c_X7_strikesAt (X := X) hf5) hH [0, 1, 2] rfl (by decide) rfl rfl rfl hl.1 rfl rfl (Nat.le_of_ble_eq_true rfl) dX7_parted_68 ⟨Nat.le_of_ble_eq_true rfl, Nat.le_of_ble_eq_true rfl⟩ ⟨rfl, rfl⟩ ⟨Nat.le_refl _, Nat.le_refl _⟩) rfl (fun hz5 => ?_)
          refine lv_if_eq (tgt := 80) hx hb dX7_parted_71 (by decide) (fun c6 => ?_) (fun c6 => ?_)
          · have hf := xt c6 hf
            refine lv_iinc (v := s32.2.1 + (nI 1)) (lv' := [(6, .int (s32.2.1 + (nI 1))), (0, .ref h0), (1, .int p1), (3, .long x32_3), (5, .int s32.1), (7, .int s32.2.2)]) hx hb dX7_parted_80 hl (k := 4) rfl rfl (by decide) rfl (fun ls hl => ?_)
            refine lv_iinc (v := s32.2.2 + (nI 1)) (lv' := [(7, .int (s32.2.2 + (nI 1))), (6, .int (s32.2.1 + (nI 1))), (0, .ref h0), (1, .int p1), (3, .long x32_3), (5, .int s32.1)]) hx hb dX7_parted_83 hl (k := 5) rfl rfl (by decide) rfl (fun ls hl => ?_)
            refine lv_goto (tgt := 32) hx hb dX7_parted_86 (by decide) ?_
            have hf := xo_go hf ho32
            exact ih32 (s32.1, s32.2.1 + (nI 1), s32.2.2 + (nI 1)) hf ls (lv_sub hl [2, 3, 4, 5, 1, 0] rfl)
          · have hf := xe c6 hf
            refine lv_iinc (v := s32.1 + (nI 1)) (lv' := [(5, .int (s32.1 + (nI 1))), (0, .ref h0), (1, .int p1), (3, .long x32_3), (6, .int s32.2.1), (7, .int s32.2.2)]) hx hb dX7_parted_74 hl (k := 3) rfl rfl (by decide) rfl (fun ls hl => ?_)
            refine lv_goto (tgt := 83) hx hb dX7_parted_77 (by decide) ?_
            refine lv_iinc (v := s32.2.2 + (nI 1)) (lv' := [(7, .int (s32.2.2 + (nI 1))), (5, .int (s32.1 + (nI 1))), (0, .ref h0), (1, .int p1), (3, .long x32_3), (6, .int s32.2.1)]) hx hb dX7_parted_83 hl (k := 5) rfl rfl (by decide) rfl (fun ls hl => ?_)
            refine lv_goto (tgt := 32) hx hb dX7_parted_86 (by decide) ?_
            have hf := xo_go hf ho32
            exact ih32 (s32.1 + (nI 1), s32.2.1, s32.2.2 + (nI 1)) hf ls (lv_sub hl [2, 3, 4, 1, 5, 0] rfl)
        · have hf := xt c4 hf
          refine lv_goto (tgt := 83) hx hb dX7_parted_51 (by decide) ?_
          refine lv_iinc (v := s32.2.2 + (nI 1)) (lv' := [(7, .int (s32.2.2 + (nI 1))), (0, .ref h0), (1, .int p1), (3, .long x32_3), (5, .int s32.1), (6, .int s32.2.1)]) hx hb dX7_parted_83 hl (k := 5) rfl rfl (by decide) rfl (fun ls hl => ?_)
          refine lv_goto (tgt := 32) hx hb dX7_parted_86 (by decide) ?_
          have hf := xo_go hf ho32
          exact ih32 (s32.1, s32.2.1, s32.2.2 + (nI 1)) hf ls (lv_sub hl [1, 2, 3, 4, 5, 0] rfl)
  have J22 : ∀ (j22_s0 : Int64), f_X7_parted_J22 v_laws v_size v_kind v_own p1 j22_s0 = some u → ∀ (ls : Array Slot), lv_has ls 8 [(0, .ref h0), (1, .int p1)] → W p l e (xrm 3 72) s m args below meth c s.heap [] 0 0 (MQ below (xQ True (.returned (some (.int u)))) args s 0 0 xNo) (F0 m 22 ls [.long j22_s0]) := by
    intro j22_s0 hf ls hl
    refine lv_lstore_n (lv' := [(3, .long j22_s0), (0, .ref h0), (1, .int p1)]) hx hb dX7_parted_22 rfl hl (by decide) rfl (fun ls hl => ?_)
    refine lv_iconst (v := (nI 0)) hx hb dX7_parted_23 (by decide) ?_
    refine lv_istore (lv' := [(5, .int (nI 0)), (3, .long j22_s0), (0, .ref h0), (1, .int p1)]) hx hb dX7_parted_24 hl (by decide) rfl (fun ls hl => ?_)
    refine lv_iconst (v := (nI 0)) hx hb dX7_parted_26 (by decide) ?_
    refine lv_istore (lv' := [(6, .int (nI 0)), (5, .int (nI 0)), (3, .long j22_s0), (0, .ref h0), (1, .int p1)]) hx hb dX7_parted_27 hl (by decide) rfl (fun ls hl => ?_)
    refine lv_iconst (v := (nI 0)) hx hb dX7_parted_29 (by decide) ?_
    refine lv_istore (lv' := [(7, .int (nI 0)), (6, .int (nI 0)), (5, .int (nI 0)), (3, .long j22_s0), (0, .ref h0), (1, .int p1)]) hx hb dX7_parted_30 hl (by decide) rfl (fun ls hl => ?_)
    exact L32 j22_s0 xN ((nI 0), (nI 0), (nI 0)) hf ls (lv_sub hl [4, 5, 3, 2, 1, 0] rfl)
  refine lv_iload_n hx hb dX7_parted_0 rfl (lv_at hl 2 rfl) ?_
  refine lv_if_eq (tgt := 18) hx hb dX7_parted_1 (by decide) (fun c1 => ?_) (fun c1 => ?_)
  · have hf := xt c1 hf
    refine lv_aload_n hx hb dX7_parted_18 rfl (lv_at hl 0 rfl) ?_
    refine x_get hC fd_RX7_90 hH.1 0 rfl rfl dX7_parted_19 ?_
    exact J22 v_ring hf ls (lv_sub hl [0, 1] rfl)
  · have hf := xe c1 hf
    refine lv_aload_n hx hb dX7_parted_4 rfl (lv_at hl 0 rfl) ?_
    refine x_get hC fd_RX7_90 hH.1 0 rfl rfl dX7_parted_5 ?_
    refine lv_lconst (v := (lN 1)) hx hb dX7_parted_8 (by decide) ?_
    refine lv_aload_n hx hb dX7_parted_9 rfl (lv_at hl 0 rfl) ?_
    refine x_get hC fd_RX7_62 hH.1 0 rfl rfl dX7_parted_10 ?_
    refine x_lshl hx hb dX7_parted_13 ?_
    refine lv_lor hx hb dX7_parted_14 ?_
    refine lv_goto (tgt := 22) hx hb dX7_parted_15 (by decide) ?_
    exact J22 (v_ring ||| (xlshl (lN 1) v_size)) hf ls (lv_sub hl [0, 1] rfl)
def f_X7_next_ (v_laws : Int32) (v_ring : Int64) (v_size : Int32) (v_kind : (Nat → Int32)) (v_own : (Nat → Int32)) (v_refusals : (Nat → Int32)) (p1 : Int32) (p2 : Int32) : Option (Int32 × (Nat → Int32)) :=
  (f_X7_isSet v_laws p1).bind fun u1 =>
  if u1 = (nI 0) then
    (f_X7_no v_refusals (-2 : Int32)).bind fun u3 =>
    some (u3.1, u3.2)
  else
  (f_X7_within p2 (nI 0) (nI 1)).bind fun u4 =>
  if u4 = (nI 0) then
    (f_X7_no v_refusals (-2 : Int32)).bind fun u12 =>
    some (u12.1, u12.2)
  else
  if v_size = (nI 40) then
    (f_X7_no v_refusals (-6 : Int32)).bind fun u11 =>
    some (u11.1, u11.2)
  else
  (f_X7_parted v_laws v_ring v_size v_kind v_own p1 (nI 0)).bind fun u7 =>
  (f_X7_parted v_laws v_ring v_size v_kind v_own p1 (nI 1)).bind fun u8 =>
  if p2 = (nI 1) then
    some (xmax u7 u8, v_refusals)
  else
  if u8 ≤ u7 then
    some ((nI 0), v_refusals)
  else
  some ((nI 1), v_refusals)
set_option maxHeartbeats 4000000 in
set_option maxRecDepth 100000 in
theorem c_X7_next_ {l : Launch} {X : xG} {h0 h1 h2 h3 g0 g1 g2 g3 g4 g5 g6 g7 : Nat} {v_laws : Int32} {v_inForce : Int32} {v_depth : Int32} {v_miss : Int32} {v_ring : Int64} {v_size : Int32} {v_people : Int32} {v_seed : Int32} {v_taped : Int32} {v_from : Int32} {v_to : Int32} {v_token : Int32} {v_value : Int32} {v_imaged : Int32} {v_oldRing : Int64} {v_aheadRing : Int64} {v_kind : (Nat → Int32)} {v_own : (Nat → Int32)} {v_refusals : (Nat → Int32)} {p1 : Int32} {p2 : Int32} {u : Int32 × (Nat → Int32)} (hf : f_X7_next_ v_laws v_ring v_size v_kind v_own v_refusals p1 p2 = some u) : Met l yX7_next_ (xw yX7_next_ cX7_next_ 5 (some .int)) (xrm 4 99) (xPc [.ref h0, .int p1, .int p2] X [(h0, xO 7 [.int v_laws, .ref h1, .ref h2, .int v_inForce, .int v_depth, .int v_miss, .long v_ring, .int v_size, .int v_people, .ref g0, .int v_seed, .int v_taped, .ref g1, .int v_from, .int v_to, .int v_token, .int v_value, .ref g2, .ref g3, .ref g4, .ref h3, .int v_imaged, .ref g5, .long v_oldRing, .ref g6, .long v_aheadRing, .ref g7]), (h1, xI X 6 v_kind), (h2, xI X 6 v_own), (h3, xI X 7 v_refusals)]) (xQw True (.returned (some (.int u.1))) X [(h0, xO 7 [.int v_laws, .ref h1, .ref h2, .int v_inForce, .int v_depth, .int v_miss, .long v_ring, .int v_size, .int v_people, .ref g0, .int v_seed, .int v_taped, .ref g1, .int v_from, .int v_to, .int v_token, .int v_value, .ref g2, .ref g3, .ref g4, .ref h3, .int v_imaged, .ref g5, .long v_oldRing, .ref g6, .long v_aheadRing, .ref g7]), (h1, xI X 6 v_kind), (h2, xI X 6 v_own), (h3, xI X 7 u.2)] (xAs [(h0, xO 7 [.int v_laws, .ref h1, .ref h2, .int v_inForce, .int v_depth, .int v_miss, .long v_ring, .int v_size, .int v_people, .ref g0, .int v_seed, .int v_taped, .ref g1, .int v_from, .int v_to, .int v_token, .int v_value, .ref g2, .ref g3, .ref g4, .ref h3, .int v_imaged, .ref g5, .long v_oldRing, .ref g6, .long v_aheadRing, .ref g7]), (h1, xI X 6 v_kind), (h2, xI X 6 v_own), (h3, xI X 7 v_refusals)])) 0 0 (xAs [(h0, xO 7 [.int v_laws, .ref h1, .ref h2, .int v_inForce, .int v_depth, .int v_miss, .long v_ring, .int v_size, .int v_people, .ref g0, .int v_seed, .int v_taped, .ref g1, .int v_from, .int v_to, .int v_token, .int v_value, .ref g2, .ref g3, .ref g4, .ref h3, .int v_imaged, .ref g5, .long v_oldRing, .ref g6, .long v_aheadRing, .ref g7]), (h1, xI X 6 v_kind), (h2, xI X 6 v_own), (h3, xI X 7 v_refusals)]) := by
  refine xMetw (Qc := fun A => xQw True (.returned (some (.int u.1))) X [(h0, xO 7 [.int v_laws, .ref h1, .ref h2, .int v_inForce, .int v_depth, .int v_miss, .long v_ring, .int v_size, .int v_people, .ref g0, .int v_seed, .int v_taped, .ref g1, .int v_from, .int v_to, .int v_token, .int v_value, .ref g2, .ref g3, .ref g4, .ref h3, .int v_imaged, .ref g5, .long v_oldRing, .ref g6, .long v_aheadRing, .ref g7]), (h1, xI X 6 v_kind), (h2, xI X 6 v_own), (h3, xI X 7 u.2)] A) (n := 2) md_X7_next_.1 (Nat.le_of_ble_eq_true rfl) ?_
  intro p e s m args below meth c ls A hC hr hlk hH hl
  have hl : lv_has ls 5 [(0, .ref h0), (1, .int p1), (2, .int p2)] := hl
  have hx := hC.1
  have hb := hC.2.1
  refine lv_aload_n hx hb dX7_next__0 rfl (lv_at hl 0 rfl) ?_
  refine lv_iload_n hx hb dX7_next__1 rfl (lv_at hl 1 rfl) ?_
  obtain ⟨u1, hf1, hf⟩ := xb hf
  refine x_ran (x_runV (q0 := 0) (rest := []) (As := [.int p1]) hC mw_917 md_X7_isSet (c_X7_isSet (X := X) hf1) hH [0] rfl (by decide) rfl rfl rfl hl.1 rfl rfl (Nat.le_of_ble_eq_true rfl) dX7_next__2 ⟨Nat.le_of_ble_eq_true rfl, Nat.le_of_ble_eq_true rfl⟩ ⟨rfl, rfl⟩ ⟨Nat.le_refl _, Nat.le_refl _⟩) rfl (fun hz1 => ?_)
  refine lv_if_eq (tgt := 17) hx hb dX7_next__5 (by decide) (fun c2 => ?_) (fun c2 => ?_)
  · have hf := xt c2 hf
    refine lv_aload_n hx hb dX7_next__17 rfl (lv_at hl 0 rfl) ?_
    refine lv_bipush (v := (-2 : Int32)) hx hb dX7_next__18 (by decide) ?_
    obtain ⟨u3, hf3, hf⟩ := xb hf
    refine x_ranw (ws' := [(h0, xO 7 [.int v_laws, .ref h1, .ref h2, .int v_inForce, .int v_depth, .int v_miss, .long v_ring, .int v_size, .int v_people, .ref g0, .int v_seed, .int v_taped, .ref g1, .int v_from, .int v_to, .int v_token, .int v_value, .ref g2, .ref g3, .ref g4, .ref h3, .int v_imaged, .ref g5, .long v_oldRing, .ref g6, .long v_aheadRing, .ref g7]), (h1, xI X 6 v_kind), (h2, xI X 6 v_own), (h3, xI X 7 u3.2)]) (x_runV (q0 := 0) (rest := []) (As := [.int (-2 : Int32)]) hC mw_143 md_X7_no (c_X7_no (X := X) hf3) hH [0, 3] rfl (by decide) rfl rfl rfl hl.1 rfl rfl (Nat.le_of_ble_eq_true rfl) dX7_next__20 ⟨Nat.le_of_ble_eq_true rfl, Nat.le_of_ble_eq_true rfl⟩ ⟨rfl, rfl⟩ ⟨Nat.le_refl _, Nat.le_refl _⟩) hH [0, 3] rfl rfl rfl rfl rfl (fun hz3 H locs hH => ?_)
    exact x_retiw (φ := fun _ => True) (f := fun u : Int32 × (Nat → Int32) => u.1) (wf := fun u : Int32 × (Nat → Int32) => [(h0, xO 7 [.int v_laws, .ref h1, .ref h2, .int v_inForce, .int v_depth, .int v_miss, .long v_ring, .int v_size, .int v_people, .ref g0, .int v_seed, .int v_taped, .ref g1, .int v_from, .int v_to, .int v_token, .int v_value, .ref g2, .ref g3, .ref g4, .ref h3, .int v_imaged, .ref g5, .long v_oldRing, .ref g6, .long v_aheadRing, .ref g7]), (h1, xI X 6 v_kind), (h2, xI X 6 v_own), (h3, xI X 7 u.2)]) hC hr hlk trivial hf hH rfl rfl dX7_next__23
  · have hf := xe c2 hf
    refine lv_iload_n hx hb dX7_next__8 rfl (lv_at hl 2 rfl) ?_
    refine lv_iconst (v := (nI 0)) hx hb dX7_next__9 (by decide) ?_
    refine lv_iconst (v := (nI 1)) hx hb dX7_next__10 (by decide) ?_
    obtain ⟨u4, hf4, hf⟩ := xb hf
    refine x_ran (x_runS (rest := []) (As := [.int p2, .int (nI 0), .int (nI 1)]) hC mw_140 md_X7_within (c_X7_within (X := X) hf4) hH [] rfl (by decide) hl.1 rfl rfl (Nat.le_of_ble_eq_true rfl) dX7_next__11 ⟨Nat.le_of_ble_eq_true rfl, Nat.le_of_ble_eq_true rfl⟩ ⟨rfl, rfl⟩ ⟨Nat.le_refl _, Nat.le_refl _⟩) rfl (fun hz4 => ?_)
    refine lv_if_ne (tgt := 24) hx hb dX7_next__14 (by decide) (fun c5 => ?_) (fun c5 => ?_)
    · have hf := xe c5 hf
      refine lv_aload_n hx hb dX7_next__24 rfl (lv_at hl 0 rfl) ?_
      refine x_get hC fd_RX7_62 hH.1 0 rfl rfl dX7_next__25 ?_
      refine lv_bipush (v := (nI 40)) hx hb dX7_next__28 (by decide) ?_
      refine lv_icmp_ne (tgt := 40) hx hb dX7_next__30 (by decide) (fun c6 => ?_) (fun c6 => ?_)
      · have hf := xe c6 hf
        refine lv_aload_n hx hb dX7_next__40 rfl (lv_at hl 0 rfl) ?_
        refine lv_iload_n hx hb dX7_next__41 rfl (lv_at hl 1 rfl) ?_
        refine lv_iconst (v := (nI 0)) hx hb dX7_next__42 (by decide) ?_
        obtain ⟨u7, hf7, hf⟩ := xb hf
        refine x_ran (x_runV (q0 := 0) (rest := []) (As := [.int p1, .int (nI 0)]) hC mw_1056 md_X7_parted (c_X7_parted (X := X) hf7) hH [0, 1, 2] rfl (by decide) rfl rfl rfl hl.1 rfl rfl (Nat.le_of_ble_eq_true rfl) dX7_next__43 ⟨Nat.le_of_ble_eq_true rfl, Nat.le_of_ble_eq_true rfl⟩ ⟨rfl, rfl⟩ ⟨Nat.le_refl _, Nat.le_refl _⟩) rfl (fun hz7 => ?_)
        refine lv_istore_n (lv' := [(3, .int u7), (0, .ref h0), (1, .int p1), (2, .int p2)]) hx hb dX7_next__46 rfl hl (by decide) rfl (fun ls hl => ?_)
        refine lv_aload_n hx hb dX7_next__47 rfl (lv_at hl 1 rfl) ?_
        refine lv_iload_n hx hb dX7_next__48 rfl (lv_at hl 2 rfl) ?_
        refine lv_iconst (v := (nI 1)) hx hb dX7_next__49 (by decide) ?_
        obtain ⟨u8, hf8, hf⟩ := xb hf
        refine x_ran (x_runV (q0 := 0) (rest := []) (As := [.int p1, .int (nI 1)]) hC mw_1056 md_X7_parted (c_X7_parted (X := X) hf8) hH [0, 1, 2] rfl (by decide) rfl rfl rfl hl.1 rfl rfl (Nat.le_of_ble_eq_true rfl) dX7_next__50 ⟨Nat.le_of_ble_eq_true rfl, Nat.le_of_ble_eq_true rfl⟩ ⟨rfl, rfl⟩ ⟨Nat.le_refl _, Nat.le_refl _⟩) rfl (fun hz8 => ?_)
        refine lv_istore (lv' := [(4, .int u8), (3, .int u7), (0, .ref h0), (1, .int p1), (2, .int p2)]) hx hb dX7_next__53 hl (by decide) rfl (fun ls hl => ?_)
        refine lv_iload_n hx hb dX7_next__55 rfl (lv_at hl 4 rfl) ?_
        refine lv_iconst (v := (nI 1)) hx hb dX7_next__56 (by decide) ?_
        refine lv_icmp_ne (tgt := 69) hx hb dX7_next__57 (by decide) (fun c9 => ?_) (fun c9 => ?_)
        · have hf := xe c9 hf
          refine lv_iload hx hb dX7_next__69 (lv_at hl 0 rfl) ?_
          refine lv_iload_n hx hb dX7_next__71 rfl (lv_at hl 1 rfl) ?_
          refine lv_icmp_le (tgt := 79) hx hb dX7_next__72 (by decide) (fun c10 => ?_) (fun c10 => ?_)
          · have hf := xt c10 hf
            refine lv_iconst (v := (nI 0)) hx hb dX7_next__79 (by decide) ?_
            exact x_retiw (φ := fun _ => True) (f := fun u : Int32 × (Nat → Int32) => u.1) (wf := fun u : Int32 × (Nat → Int32) => [(h0, xO 7 [.int v_laws, .ref h1, .ref h2, .int v_inForce, .int v_depth, .int v_miss, .long v_ring, .int v_size, .int v_people, .ref g0, .int v_seed, .int v_taped, .ref g1, .int v_from, .int v_to, .int v_token, .int v_value, .ref g2, .ref g3, .ref g4, .ref h3, .int v_imaged, .ref g5, .long v_oldRing, .ref g6, .long v_aheadRing, .ref g7]), (h1, xI X 6 v_kind), (h2, xI X 6 v_own), (h3, xI X 7 u.2)]) hC hr hlk trivial hf hH rfl rfl dX7_next__80
          · have hf := xe c10 hf
            refine lv_iconst (v := (nI 1)) hx hb dX7_next__75 (by decide) ?_
            refine lv_goto (tgt := 80) hx hb dX7_next__76 (by decide) ?_
            exact x_retiw (φ := fun _ => True) (f := fun u : Int32 × (Nat → Int32) => u.1) (wf := fun u : Int32 × (Nat → Int32) => [(h0, xO 7 [.int v_laws, .ref h1, .ref h2, .int v_inForce, .int v_depth, .int v_miss, .long v_ring, .int v_size, .int v_people, .ref g0, .int v_seed, .int v_taped, .ref g1, .int v_from, .int v_to, .int v_token, .int v_value, .ref g2, .ref g3, .ref g4, .ref h3, .int v_imaged, .ref g5, .long v_oldRing, .ref g6, .long v_aheadRing, .ref g7]), (h1, xI X 6 v_kind), (h2, xI X 6 v_own), (h3, xI X 7 u.2)]) hC hr hlk trivial hf hH rfl rfl dX7_next__80
        · have hf := xt c9 hf
          refine lv_iload_n hx hb dX7_next__60 rfl (lv_at hl 1 rfl) ?_
          refine lv_iload hx hb dX7_next__61 (lv_at hl 0 rfl) ?_
          refine x_max hC hl.1 mw_779 mw_773 mw_477 mw_774 (Nat.le_of_ble_eq_true rfl) (Nat.le_of_ble_eq_true rfl) (Nat.le_refl _) (Nat.le_refl _) dX7_next__63 ?_
          refine lv_goto (tgt := 80) hx hb dX7_next__66 (by decide) ?_
          exact x_retiw (φ := fun _ => True) (f := fun u : Int32 × (Nat → Int32) => u.1) (wf := fun u : Int32 × (Nat → Int32) => [(h0, xO 7 [.int v_laws, .ref h1, .ref h2, .int v_inForce, .int v_depth, .int v_miss, .long v_ring, .int v_size, .int v_people, .ref g0, .int v_seed, .int v_taped, .ref g1, .int v_from, .int v_to, .int v_token, .int v_value, .ref g2, .ref g3, .ref g4, .ref h3, .int v_imaged, .ref g5, .long v_oldRing, .ref g6, .long v_aheadRing, .ref g7]), (h1, xI X 6 v_kind), (h2, xI X 6 v_own), (h3, xI X 7 u.2)]) hC hr hlk trivial hf hH rfl rfl dX7_next__80
      · have hf := xt c6 hf
        refine lv_aload_n hx hb dX7_next__33 rfl (lv_at hl 0 rfl) ?_
        refine lv_bipush (v := (-6 : Int32)) hx hb dX7_next__34 (by decide) ?_
        obtain ⟨u11, hf11, hf⟩ := xb hf
        refine x_ranw (ws' := [(h0, xO 7 [.int v_laws, .ref h1, .ref h2, .int v_inForce, .int v_depth, .int v_miss, .long v_ring, .int v_size, .int v_people, .ref g0, .int v_seed, .int v_taped, .ref g1, .int v_from, .int v_to, .int v_token, .int v_value, .ref g2, .ref g3, .ref g4, .ref h3, .int v_imaged, .ref g5, .long v_oldRing, .ref g6, .long v_aheadRing, .ref g7]), (h1, xI X 6 v_kind), (h2, xI X 6 v_own), (h3, xI X 7 u11.2)]) (x_runV (q0 := 0) (rest := []) (As := [.int (-6 : Int32)]) hC mw_143 md_X7_no (c_X7_no (X := X) hf11) hH [0, 3] rfl (by decide) rfl rfl rfl hl.1 rfl rfl (Nat.le_of_ble_eq_true rfl) dX7_next__36 ⟨Nat.le_of_ble_eq_true rfl, Nat.le_of_ble_eq_true rfl⟩ ⟨rfl, rfl⟩ ⟨Nat.le_refl _, Nat.le_refl _⟩) hH [0, 3] rfl rfl rfl rfl rfl (fun hz11 H locs hH => ?_)
        exact x_retiw (φ := fun _ => True) (f := fun u : Int32 × (Nat → Int32) => u.1) (wf := fun u : Int32 × (Nat → Int32) => [(h0, xO 7 [.int v_laws, .ref h1, .ref h2, .int v_inForce, .int v_depth, .int v_miss, .long v_ring, .int v_size, .int v_people, .ref g0, .int v_seed, .int v_taped, .ref g1, .int v_from, .int v_to, .int v_token, .int v_value, .ref g2, .ref g3, .ref g4, .ref h3, .int v_imaged, .ref g5, .long v_oldRing, .ref g6, .long v_aheadRing, .ref g7]), (h1, xI X 6 v_kind), (h2, xI X 6 v_own), (h3, xI X 7 u.2)]) hC hr hlk trivial hf hH rfl rfl dX7_next__39
    · have hf := xt c5 hf
      refine lv_aload_n hx hb dX7_next__17 rfl (lv_at hl 0 rfl) ?_
      refine lv_bipush (v := (-2 : Int32)) hx hb dX7_next__18 (by decide) ?_
      obtain ⟨u12, hf12, hf⟩ := xb hf
      refine x_ranw (ws' := [(h0, xO 7 [.int v_laws, .ref h1, .ref h2, .int v_inForce, .int v_depth, .int v_miss, .long v_ring, .int v_size, .int v_people, .ref g0, .int v_seed, .int v_taped, .ref g1, .int v_from, .int v_to, .int v_token, .int v_value, .ref g2, .ref g3, .ref g4, .ref h3, .int v_imaged, .ref g5, .long v_oldRing, .ref g6, .long v_aheadRing, .ref g7]), (h1, xI X 6 v_kind), (h2, xI X 6 v_own), (h3, xI X 7 u12.2)]) (x_runV (q0 := 0) (rest := []) (As := [.int (-2 : Int32)]) hC mw_143 md_X7_no (c_X7_no (X := X) hf12) hH [0, 3] rfl (by decide) rfl rfl rfl hl.1 rfl rfl (Nat.le_of_ble_eq_true rfl) dX7_next__20 ⟨Nat.le_of_ble_eq_true rfl, Nat.le_of_ble_eq_true rfl⟩ ⟨rfl, rfl⟩ ⟨Nat.le_refl _, Nat.le_refl _⟩) hH [0, 3] rfl rfl rfl rfl rfl (fun hz12 H locs hH => ?_)
      exact x_retiw (φ := fun _ => True) (f := fun u : Int32 × (Nat → Int32) => u.1) (wf := fun u : Int32 × (Nat → Int32) => [(h0, xO 7 [.int v_laws, .ref h1, .ref h2, .int v_inForce, .int v_depth, .int v_miss, .long v_ring, .int v_size, .int v_people, .ref g0, .int v_seed, .int v_taped, .ref g1, .int v_from, .int v_to, .int v_token, .int v_value, .ref g2, .ref g3, .ref g4, .ref h3, .int v_imaged, .ref g5, .long v_oldRing, .ref g6, .long v_aheadRing, .ref g7]), (h1, xI X 6 v_kind), (h2, xI X 6 v_own), (h3, xI X 7 u.2)]) hC hr hlk trivial hf hH rfl rfl dX7_next__23
def f_X7_day_L53 (v_refusals : (Nat → Int32)) (p1 : Int32) (p3 : Int32) (p4 : Int32) (s53 : Int32) : Option ((Int32 × (Nat → Int32)) ⊕ (Int32)) :=
  if (nI 10000) ≤ s53 then
    some (.inl ((-1 : Int32), v_refusals))
  else
  if p3 = nI 0 then none else
  if (xrem s53 p3) = p4 then
    some (.inl (s53, v_refusals))
  else
  some (.inr (s53 + p1))
def f_X7_day (v_refusals : (Nat → Int32)) (p1 : Int32) (p2 : Int32) (p3 : Int32) (p4 : Int32) : Option (Int32 × (Nat → Int32)) :=
  (f_X7_within p1 (nI 1) (nI 99)).bind fun u1 =>
  if u1 = (nI 0) then
    (f_X7_no v_refusals (-2 : Int32)).bind fun u3 =>
    some (u3.1, u3.2)
  else
  (f_X7_within p3 (nI 1) (nI 99)).bind fun u4 =>
  if u4 = (nI 0) then
    (f_X7_no v_refusals (-2 : Int32)).bind fun u6 =>
    some (u6.1, u6.2)
  else
  (f_X7_within p2 (nI 0) (p1 - (nI 1))).bind fun u7 =>
  if u7 = (nI 0) then
    (f_X7_no v_refusals (-2 : Int32)).bind fun u9 =>
    some (u9.1, u9.2)
  else
  (f_X7_within p4 (nI 0) (p3 - (nI 1))).bind fun u10 =>
  if u10 = (nI 0) then
    (f_X7_no v_refusals (-2 : Int32)).bind fun u15 =>
    some (u15.1, u15.2)
  else
  xloop (f_X7_day_L53 v_refusals p1 p3 p4) xN p2
set_option maxHeartbeats 4000000 in
set_option maxRecDepth 100000 in
theorem c_X7_day {l : Launch} {X : xG} {h0 h1 g0 g1 g2 g3 g4 g5 g6 g7 g8 g9 : Nat} {v_laws : Int32} {v_inForce : Int32} {v_depth : Int32} {v_miss : Int32} {v_ring : Int64} {v_size : Int32} {v_people : Int32} {v_seed : Int32} {v_taped : Int32} {v_from : Int32} {v_to : Int32} {v_token : Int32} {v_value : Int32} {v_imaged : Int32} {v_oldRing : Int64} {v_aheadRing : Int64} {v_refusals : (Nat → Int32)} {p1 : Int32} {p2 : Int32} {p3 : Int32} {p4 : Int32} {u : Int32 × (Nat → Int32)} (hf : f_X7_day v_refusals p1 p2 p3 p4 = some u) : Met l yX7_day (xw yX7_day cX7_day 6 (some .int)) (xrm 1 22) (xPc [.ref h0, .int p1, .int p2, .int p3, .int p4] X [(h0, xO 7 [.int v_laws, .ref g0, .ref g1, .int v_inForce, .int v_depth, .int v_miss, .long v_ring, .int v_size, .int v_people, .ref g2, .int v_seed, .int v_taped, .ref g3, .int v_from, .int v_to, .int v_token, .int v_value, .ref g4, .ref g5, .ref g6, .ref h1, .int v_imaged, .ref g7, .long v_oldRing, .ref g8, .long v_aheadRing, .ref g9]), (h1, xI X 7 v_refusals)]) (xQw True (.returned (some (.int u.1))) X [(h0, xO 7 [.int v_laws, .ref g0, .ref g1, .int v_inForce, .int v_depth, .int v_miss, .long v_ring, .int v_size, .int v_people, .ref g2, .int v_seed, .int v_taped, .ref g3, .int v_from, .int v_to, .int v_token, .int v_value, .ref g4, .ref g5, .ref g6, .ref h1, .int v_imaged, .ref g7, .long v_oldRing, .ref g8, .long v_aheadRing, .ref g9]), (h1, xI X 7 u.2)] (xAs [(h0, xO 7 [.int v_laws, .ref g0, .ref g1, .int v_inForce, .int v_depth, .int v_miss, .long v_ring, .int v_size, .int v_people, .ref g2, .int v_seed, .int v_taped, .ref g3, .int v_from, .int v_to, .int v_token, .int v_value, .ref g4, .ref g5, .ref g6, .ref h1, .int v_imaged, .ref g7, .long v_oldRing, .ref g8, .long v_aheadRing, .ref g9]), (h1, xI X 7 v_refusals)])) 0 0 (xAs [(h0, xO 7 [.int v_laws, .ref g0, .ref g1, .int v_inForce, .int v_depth, .int v_miss, .long v_ring, .int v_size, .int v_people, .ref g2, .int v_seed, .int v_taped, .ref g3, .int v_from, .int v_to, .int v_token, .int v_value, .ref g4, .ref g5, .ref g6, .ref h1, .int v_imaged, .ref g7, .long v_oldRing, .ref g8, .long v_aheadRing, .ref g9]), (h1, xI X 7 v_refusals)]) := by
  refine xMetw (Qc := fun A => xQw True (.returned (some (.int u.1))) X [(h0, xO 7 [.int v_laws, .ref g0, .ref g1, .int v_inForce, .int v_depth, .int v_miss, .long v_ring, .int v_size, .int v_people, .ref g2, .int v_seed, .int v_taped, .ref g3, .int v_from, .int v_to, .int v_token, .int v_value, .ref g4, .ref g5, .ref g6, .ref h1, .int v_imaged, .ref g7, .long v_oldRing, .ref g8, .long v_aheadRing, .ref g9]), (h1, xI X 7 u.2)] A) (n := 4) md_X7_day.1 (Nat.le_of_ble_eq_true rfl) ?_
  intro p e s m args below meth c ls A hC hr hlk hH hl
  have hl : lv_has ls 6 [(0, .ref h0), (1, .int p1), (2, .int p2), (3, .int p3), (4, .int p4)] := hl
  have hx := hC.1
  have hb := hC.2.1
  have L53 : ∀ (n : Nat) (s53 : Int32), xloop (f_X7_day_L53 v_refusals p1 p3 p4) n s53 = some u → ∀ (H : Heap) (locs : List Loc), xH X A [(h0, xO 7 [.int v_laws, .ref g0, .ref g1, .int v_inForce, .int v_depth, .int v_miss, .long v_ring, .int v_size, .int v_people, .ref g2, .int v_seed, .int v_taped, .ref g3, .int v_from, .int v_to, .int v_token, .int v_value, .ref g4, .ref g5, .ref g6, .ref h1, .int v_imaged, .ref g7, .long v_oldRing, .ref g8, .long v_aheadRing, .ref g9]), (h1, xI X 7 v_refusals)] s.heap H locs → ∀ (ls : Array Slot), lv_has ls 6 [(1, .int p1), (3, .int p3), (4, .int p4), (5, .int s53)] → W p l e (xrm 1 22) s m args below meth c H locs 0 0 (MQ below (xQw True (.returned (some (.int u.1))) X [(h0, xO 7 [.int v_laws, .ref g0, .ref g1, .int v_inForce, .int v_depth, .int v_miss, .long v_ring, .int v_size, .int v_people, .ref g2, .int v_seed, .int v_taped, .ref g3, .int v_from, .int v_to, .int v_token, .int v_value, .ref g4, .ref g5, .ref g6, .ref h1, .int v_imaged, .ref g7, .long v_oldRing, .ref g8, .long v_aheadRing, .ref g9]), (h1, xI X 7 u.2)] A) args s 0 0 A) (F0 m 53 ls []) := by
    intro  n
    induction n with
    | zero => intro s53 hf; exact xloop_0 hf
    | succ n ih53 =>
      intro s53 hf H locs hH ls hl
      obtain ⟨o53, hf, ho53⟩ := xloop_s hf
      refine lv_iload hx hb dX7_day_53 (lv_at hl 3 rfl) ?_
      refine lv_sipush (v := (nI 10000)) hx hb dX7_day_55 (by decide) ?_
      refine lv_icmp_ge (tgt := 82) hx hb dX7_day_58 (by decide) (fun c12 => ?_) (fun c12 => ?_)
      · have hf := xt c12 hf
        refine lv_iconst (v := (-1 : Int32)) hx hb dX7_day_82 (by decide) ?_
        have hf := xo_ret hf ho53
        exact x_retiw (φ := fun _ => True) (f := fun u : Int32 × (Nat → Int32) => u.1) (wf := fun u : Int32 × (Nat → Int32) => [(h0, xO 7 [.int v_laws, .ref g0, .ref g1, .int v_inForce, .int v_depth, .int v_miss, .long v_ring, .int v_size, .int v_people, .ref g2, .int v_seed, .int v_taped, .ref g3, .int v_from, .int v_to, .int v_token, .int v_value, .ref g4, .ref g5, .ref g6, .ref h1, .int v_imaged, .ref g7, .long v_oldRing, .ref g8, .long v_aheadRing, .ref g9]), (h1, xI X 7 u.2)]) hC hr hlk trivial hf hH rfl rfl dX7_day_83
      · have hf := xe c12 hf
        refine lv_iload hx hb dX7_day_61 (lv_at hl 3 rfl) ?_
        refine lv_iload_n hx hb dX7_day_63 rfl (lv_at hl 1 rfl) ?_
        obtain ⟨n13, hf⟩ := xok hf
        refine x_irem hx hb dX7_day_64 n13 ?_
        refine lv_iload hx hb dX7_day_65 (lv_at hl 2 rfl) ?_
        refine lv_icmp_ne (tgt := 73) hx hb dX7_day_67 (by decide) (fun c14 => ?_) (fun c14 => ?_)
        · have hf := xe c14 hf
          refine lv_iload hx hb dX7_day_73 (lv_at hl 3 rfl) ?_
          refine lv_iload_n hx hb dX7_day_75 rfl (lv_at hl 0 rfl) ?_
          refine lv_iadd hx hb dX7_day_76 ?_
          refine lv_istore (lv' := [(5, .int (s53 + p1)), (1, .int p1), (3, .int p3), (4, .int p4)]) hx hb dX7_day_77 hl (by decide) rfl (fun ls hl => ?_)
          refine lv_goto (tgt := 53) hx hb dX7_day_79 (by decide) ?_
          have hf := xo_go hf ho53
          exact ih53 (s53 + p1) hf _ _ hH ls (lv_sub hl [1, 2, 3, 0] rfl)
        · have hf := xt c14 hf
          refine lv_iload hx hb dX7_day_70 (lv_at hl 3 rfl) ?_
          have hf := xo_ret hf ho53
          exact x_retiw (φ := fun _ => True) (f := fun u : Int32 × (Nat → Int32) => u.1) (wf := fun u : Int32 × (Nat → Int32) => [(h0, xO 7 [.int v_laws, .ref g0, .ref g1, .int v_inForce, .int v_depth, .int v_miss, .long v_ring, .int v_size, .int v_people, .ref g2, .int v_seed, .int v_taped, .ref g3, .int v_from, .int v_to, .int v_token, .int v_value, .ref g4, .ref g5, .ref g6, .ref h1, .int v_imaged, .ref g7, .long v_oldRing, .ref g8, .long v_aheadRing, .ref g9]), (h1, xI X 7 u.2)]) hC hr hlk trivial hf hH rfl rfl dX7_day_72
  refine lv_iload_n hx hb dX7_day_0 rfl (lv_at hl 1 rfl) ?_
  refine lv_iconst (v := (nI 1)) hx hb dX7_day_1 (by decide) ?_
  refine lv_bipush (v := (nI 99)) hx hb dX7_day_2 (by decide) ?_
  obtain ⟨u1, hf1, hf⟩ := xb hf
  refine x_ran (x_runS (rest := []) (As := [.int p1, .int (nI 1), .int (nI 99)]) hC mw_140 md_X7_within (c_X7_within (X := X) hf1) hH [] rfl (by decide) hl.1 rfl rfl (Nat.le_of_ble_eq_true rfl) dX7_day_4 ⟨Nat.le_of_ble_eq_true rfl, Nat.le_of_ble_eq_true rfl⟩ ⟨rfl, rfl⟩ ⟨Nat.le_refl _, Nat.le_refl _⟩) rfl (fun hz1 => ?_)
  refine lv_if_eq (tgt := 43) hx hb dX7_day_7 (by decide) (fun c2 => ?_) (fun c2 => ?_)
  · have hf := xt c2 hf
    refine lv_aload_n hx hb dX7_day_43 rfl (lv_at hl 0 rfl) ?_
    refine lv_bipush (v := (-2 : Int32)) hx hb dX7_day_44 (by decide) ?_
    obtain ⟨u3, hf3, hf⟩ := xb hf
    refine x_ranw (ws' := [(h0, xO 7 [.int v_laws, .ref g0, .ref g1, .int v_inForce, .int v_depth, .int v_miss, .long v_ring, .int v_size, .int v_people, .ref g2, .int v_seed, .int v_taped, .ref g3, .int v_from, .int v_to, .int v_token, .int v_value, .ref g4, .ref g5, .ref g6, .ref h1, .int v_imaged, .ref g7, .long v_oldRing, .ref g8, .long v_aheadRing, .ref g9]), (h1, xI X 7 u3.2)]) (x_runV (q0 := 0) (rest := []) (As := [.int (-2 : Int32)]) hC mw_143 md_X7_no (c_X7_no (X := X) hf3) hH [0, 1] rfl (by decide) rfl rfl rfl hl.1 rfl rfl (Nat.le_of_ble_eq_true rfl) dX7_day_46 ⟨Nat.le_of_ble_eq_true rfl, Nat.le_of_ble_eq_true rfl⟩ ⟨rfl, rfl⟩ ⟨Nat.le_refl _, Nat.le_refl _⟩) hH [0, 1] rfl rfl rfl rfl rfl (fun hz3 H locs hH => ?_)
    exact x_retiw (φ := fun _ => True) (f := fun u : Int32 × (Nat → Int32) => u.1) (wf := fun u : Int32 × (Nat → Int32) => [(h0, xO 7 [.int v_laws, .ref g0, .ref g1, .int v_inForce, .int v_depth, .int v_miss, .long v_ring, .int v_size, .int v_people, .ref g2, .int v_seed, .int v_taped, .ref g3, .int v_from, .int v_to, .int v_token, .int v_value, .ref g4, .ref g5, .ref g6, .ref h1, .int v_imaged, .ref g7, .long v_oldRing, .ref g8, .long v_aheadRing, .ref g9]), (h1, xI X 7 u.2)]) hC hr hlk trivial hf hH rfl rfl dX7_day_49
  · have hf := xe c2 hf
    refine lv_iload_n hx hb dX7_day_10 rfl (lv_at hl 3 rfl) ?_
    refine lv_iconst (v := (nI 1)) hx hb dX7_day_11 (by decide) ?_
    refine lv_bipush (v := (nI 99)) hx hb dX7_day_12 (by decide) ?_
    obtain ⟨u4, hf4, hf⟩ := xb hf
    refine x_ran (x_runS (rest := []) (As := [.int p3, .int (nI 1), .int (nI 99)]) hC mw_140 md_X7_within (c_X7_within (X := X) hf4) hH [] rfl (by decide) hl.1 rfl rfl (Nat.le_of_ble_eq_true rfl) dX7_day_14 ⟨Nat.le_of_ble_eq_true rfl, Nat.le_of_ble_eq_true rfl⟩ ⟨rfl, rfl⟩ ⟨Nat.le_refl _, Nat.le_refl _⟩) rfl (fun hz4 => ?_)
    refine lv_if_eq (tgt := 43) hx hb dX7_day_17 (by decide) (fun c5 => ?_) (fun c5 => ?_)
    · have hf := xt c5 hf
      refine lv_aload_n hx hb dX7_day_43 rfl (lv_at hl 0 rfl) ?_
      refine lv_bipush (v := (-2 : Int32)) hx hb dX7_day_44 (by decide) ?_
      obtain ⟨u6, hf6, hf⟩ := xb hf
      refine x_ranw (ws' := [(h0, xO 7 [.int v_laws, .ref g0, .ref g1, .int v_inForce, .int v_depth, .int v_miss, .long v_ring, .int v_size, .int v_people, .ref g2, .int v_seed, .int v_taped, .ref g3, .int v_from, .int v_to, .int v_token, .int v_value, .ref g4, .ref g5, .ref g6, .ref h1, .int v_imaged, .ref g7, .long v_oldRing, .ref g8, .long v_aheadRing, .ref g9]), (h1, xI X 7 u6.2)]) (x_runV (q0 := 0) (rest := []) (As := [.int (-2 : Int32)]) hC mw_143 md_X7_no (c_X7_no (X := X) hf6) hH [0, 1] rfl (by decide) rfl rfl rfl hl.1 rfl rfl (Nat.le_of_ble_eq_true rfl) dX7_day_46 ⟨Nat.le_of_ble_eq_true rfl, Nat.le_of_ble_eq_true rfl⟩ ⟨rfl, rfl⟩ ⟨Nat.le_refl _, Nat.le_refl _⟩) hH [0, 1] rfl rfl rfl rfl rfl (fun hz6 H locs hH => ?_)
      exact x_retiw (φ := fun _ => True) (f := fun u : Int32 × (Nat → Int32) => u.1) (wf := fun u : Int32 × (Nat → Int32) => [(h0, xO 7 [.int v_laws, .ref g0, .ref g1, .int v_inForce, .int v_depth, .int v_miss, .long v_ring, .int v_size, .int v_people, .ref g2, .int v_seed, .int v_taped, .ref g3, .int v_from, .int v_to, .int v_token, .int v_value, .ref g4, .ref g5, .ref g6, .ref h1, .int v_imaged, .ref g7, .long v_oldRing, .ref g8, .long v_aheadRing, .ref g9]), (h1, xI X 7 u.2)]) hC hr hlk trivial hf hH rfl rfl dX7_day_49
    · have hf := xe c5 hf
      refine lv_iload_n hx hb dX7_day_20 rfl (lv_at hl 2 rfl) ?_
      refine lv_iconst (v := (nI 0)) hx hb dX7_day_21 (by decide) ?_
      refine lv_iload_n hx hb dX7_day_22 rfl (lv_at hl 1 rfl) ?_
      refine lv_iconst (v := (nI 1)) hx hb dX7_day_23 (by decide) ?_
      refine lv_isub hx hb dX7_day_24 ?_
      obtain ⟨u7, hf7, hf⟩ := xb hf
      refine x_ran (x_runS (rest := []) (As := [.int p2, .int (nI 0), .int (p1 - (nI 1))]) hC mw_140 md_X7_within (c_X7_within (X := X) hf7) hH [] rfl (by decide) hl.1 rfl rfl (Nat.le_of_ble_eq_true rfl) dX7_day_25 ⟨Nat.le_of_ble_eq_true rfl, Nat.le_of_ble_eq_true rfl⟩ ⟨rfl, rfl⟩ ⟨Nat.le_refl _, Nat.le_refl _⟩) rfl (fun hz7 => ?_)
      refine lv_if_eq (tgt := 43) hx hb dX7_day_28 (by decide) (fun c8 => ?_) (fun c8 => ?_)
      · have hf := xt c8 hf
        refine lv_aload_n hx hb dX7_day_43 rfl (lv_at hl 0 rfl) ?_
        refine lv_bipush (v := (-2 : Int32)) hx hb dX7_day_44 (by decide) ?_
        obtain ⟨u9, hf9, hf⟩ := xb hf
        refine x_ranw (ws' := [(h0, xO 7 [.int v_laws, .ref g0, .ref g1, .int v_inForce, .int v_depth, .int v_miss, .long v_ring, .int v_size, .int v_people, .ref g2, .int v_seed, .int v_taped, .ref g3, .int v_from, .int v_to, .int v_token, .int v_value, .ref g4, .ref g5, .ref g6, .ref h1, .int v_imaged, .ref g7, .long v_oldRing, .ref g8, .long v_aheadRing, .ref g9]), (h1, xI X 7 u9.2)]) (x_runV (q0 := 0) (rest := []) (As := [.int (-2 : Int32)]) hC mw_143 md_X7_no (c_X7_no (X := X) hf9) hH [0, 1] rfl (by decide) rfl rfl rfl hl.1 rfl rfl (Nat.le_of_ble_eq_true rfl) dX7_day_46 ⟨Nat.le_of_ble_eq_true rfl, Nat.le_of_ble_eq_true rfl⟩ ⟨rfl, rfl⟩ ⟨Nat.le_refl _, Nat.le_refl _⟩) hH [0, 1] rfl rfl rfl rfl rfl (fun hz9 H locs hH => ?_)
        exact x_retiw (φ := fun _ => True) (f := fun u : Int32 × (Nat → Int32) => u.1) (wf := fun u : Int32 × (Nat → Int32) => [(h0, xO 7 [.int v_laws, .ref g0, .ref g1, .int v_inForce, .int v_depth, .int v_miss, .long v_ring, .int v_size, .int v_people, .ref g2, .int v_seed, .int v_taped, .ref g3, .int v_from, .int v_to, .int v_token, .int v_value, .ref g4, .ref g5, .ref g6, .ref h1, .int v_imaged, .ref g7, .long v_oldRing, .ref g8, .long v_aheadRing, .ref g9]), (h1, xI X 7 u.2)]) hC hr hlk trivial hf hH rfl rfl dX7_day_49
      · have hf := xe c8 hf
        refine lv_iload hx hb dX7_day_31 (lv_at hl 4 rfl) ?_
        refine lv_iconst (v := (nI 0)) hx hb dX7_day_33 (by decide) ?_
        refine lv_iload_n hx hb dX7_day_34 rfl (lv_at hl 3 rfl) ?_
        refine lv_iconst (v := (nI 1)) hx hb dX7_day_35 (by decide) ?_
        refine lv_isub hx hb dX7_day_36 ?_
        obtain ⟨u10, hf10, hf⟩ := xb hf
        refine x_ran (x_runS (rest := []) (As := [.int p4, .int (nI 0), .int (p3 - (nI 1))]) hC mw_140 md_X7_within (c_X7_within (X := X) hf10) hH [] rfl (by decide) hl.1 rfl rfl (Nat.le_of_ble_eq_true rfl) dX7_day_37 ⟨Nat.le_of_ble_eq_true rfl, Nat.le_of_ble_eq_true rfl⟩ ⟨rfl, rfl⟩ ⟨Nat.le_refl _, Nat.le_refl _⟩) rfl (fun hz10 => ?_)
        refine lv_if_ne (tgt := 50) hx hb dX7_day_40 (by decide) (fun c11 => ?_) (fun c11 => ?_)
        · have hf := xe c11 hf
          refine lv_iload_n hx hb dX7_day_50 rfl (lv_at hl 2 rfl) ?_
          refine lv_istore (lv' := [(5, .int p2), (0, .ref h0), (1, .int p1), (2, .int p2), (3, .int p3), (4, .int p4)]) hx hb dX7_day_51 hl (by decide) rfl (fun ls hl => ?_)
          exact L53 xN p2 hf _ _ hH ls (lv_sub hl [2, 4, 5, 0] rfl)
        · have hf := xt c11 hf
          refine lv_aload_n hx hb dX7_day_43 rfl (lv_at hl 0 rfl) ?_
          refine lv_bipush (v := (-2 : Int32)) hx hb dX7_day_44 (by decide) ?_
          obtain ⟨u15, hf15, hf⟩ := xb hf
          refine x_ranw (ws' := [(h0, xO 7 [.int v_laws, .ref g0, .ref g1, .int v_inForce, .int v_depth, .int v_miss, .long v_ring, .int v_size, .int v_people, .ref g2, .int v_seed, .int v_taped, .ref g3, .int v_from, .int v_to, .int v_token, .int v_value, .ref g4, .ref g5, .ref g6, .ref h1, .int v_imaged, .ref g7, .long v_oldRing, .ref g8, .long v_aheadRing, .ref g9]), (h1, xI X 7 u15.2)]) (x_runV (q0 := 0) (rest := []) (As := [.int (-2 : Int32)]) hC mw_143 md_X7_no (c_X7_no (X := X) hf15) hH [0, 1] rfl (by decide) rfl rfl rfl hl.1 rfl rfl (Nat.le_of_ble_eq_true rfl) dX7_day_46 ⟨Nat.le_of_ble_eq_true rfl, Nat.le_of_ble_eq_true rfl⟩ ⟨rfl, rfl⟩ ⟨Nat.le_refl _, Nat.le_refl _⟩) hH [0, 1] rfl rfl rfl rfl rfl (fun hz15 H locs hH => ?_)
          exact x_retiw (φ := fun _ => True) (f := fun u : Int32 × (Nat → Int32) => u.1) (wf := fun u : Int32 × (Nat → Int32) => [(h0, xO 7 [.int v_laws, .ref g0, .ref g1, .int v_inForce, .int v_depth, .int v_miss, .long v_ring, .int v_size, .int v_people, .ref g2, .int v_seed, .int v_taped, .ref g3, .int v_from, .int v_to, .int v_token, .int v_value, .ref g4, .ref g5, .ref g6, .ref h1, .int v_imaged, .ref g7, .long v_oldRing, .ref g8, .long v_aheadRing, .ref g9]), (h1, xI X 7 u.2)]) hC hr hlk trivial hf hH rfl rfl dX7_day_49
def f_X7_ageOf_L4 (v_people : Int32) (v_ages : (Nat → Int32)) (p1 : Int32) (s4 : Int32 × Int32) : Option ((Int32) ⊕ (Int32 × Int32)) :=
  if v_people ≤ s4.2 then
    some (.inl s4.1)
  else
  (f_X7_has (Int32.toInt64 p1) s4.2).bind fun u2 =>
  if u2 = (nI 0) then
    some (.inr (s4.1, s4.2 + (nI 1)))
  else
  if xout s4.2 10 then none else
  some (.inr (s4.1 + (v_ages (xat s4.2)), s4.2 + (nI 1)))
def f_X7_ageOf (v_people : Int32) (v_ages : (Nat → Int32)) (p1 : Int32) : Option (Int32) :=
  xloop (f_X7_ageOf_L4 v_people v_ages p1) xN ((nI 0), (nI 0))
set_option maxHeartbeats 4000000 in
set_option maxRecDepth 100000 in
theorem c_X7_ageOf {l : Launch} {X : xG} {h0 h1 g0 g1 g2 g3 g4 g5 g6 g7 g8 g9 : Nat} {v_laws : Int32} {v_inForce : Int32} {v_depth : Int32} {v_miss : Int32} {v_ring : Int64} {v_size : Int32} {v_people : Int32} {v_seed : Int32} {v_taped : Int32} {v_from : Int32} {v_to : Int32} {v_token : Int32} {v_value : Int32} {v_imaged : Int32} {v_oldRing : Int64} {v_aheadRing : Int64} {v_ages : (Nat → Int32)} {p1 : Int32} {u : Int32} (hf : f_X7_ageOf v_people v_ages p1 = some u) : Met l yX7_ageOf (xw yX7_ageOf cX7_ageOf 4 (some .int)) (xrm 1 22) (xPc [.ref h0, .int p1] X [(h0, xO 7 [.int v_laws, .ref g0, .ref g1, .int v_inForce, .int v_depth, .int v_miss, .long v_ring, .int v_size, .int v_people, .ref h1, .int v_seed, .int v_taped, .ref g2, .int v_from, .int v_to, .int v_token, .int v_value, .ref g3, .ref g4, .ref g5, .ref g6, .int v_imaged, .ref g7, .long v_oldRing, .ref g8, .long v_aheadRing, .ref g9]), (h1, xI X 10 v_ages)]) (xQ True (.returned (some (.int u)))) 0 0 xNo := by
  refine xMet (n := 1) md_X7_ageOf.1 (Nat.le_of_ble_eq_true rfl) ?_
  intro p e s m args below meth c ls A hC hr hlk hH hl
  have hl : lv_has ls 4 [(0, .ref h0), (1, .int p1)] := hl
  have hx := hC.1
  have hb := hC.2.1
  have L4 : ∀ (n : Nat) (s4 : Int32 × Int32), xloop (f_X7_ageOf_L4 v_people v_ages p1) n s4 = some u → ∀ (ls : Array Slot), lv_has ls 4 [(0, .ref h0), (1, .int p1), (2, .int s4.1), (3, .int s4.2)] → W p l e (xrm 1 22) s m args below meth c s.heap [] 0 0 (MQ below (xQ True (.returned (some (.int u)))) args s 0 0 xNo) (F0 m 4 ls []) := by
    intro  n
    induction n with
    | zero => intro s4 hf; exact xloop_0 hf
    | succ n ih4 =>
      intro s4 hf ls hl
      obtain ⟨o4, hf, ho4⟩ := xloop_s hf
      refine lv_iload_n hx hb dX7_ageOf_4 rfl (lv_at hl 3 rfl) ?_
      refine lv_aload_n hx hb dX7_ageOf_5 rfl (lv_at hl 0 rfl) ?_
      refine x_get hC fd_RX7_59 hH.1 0 rfl rfl dX7_ageOf_6 ?_
      refine lv_icmp_ge (tgt := 36) hx hb dX7_ageOf_9 (by decide) (fun c1 => ?_) (fun c1 => ?_)
      · have hf := xt c1 hf
        refine lv_iload_n hx hb dX7_ageOf_36 rfl (lv_at hl 2 rfl) ?_
        have hf := xo_ret hf ho4
        exact x_reti hC hr hlk trivial hf dX7_ageOf_37
      · have hf := xe c1 hf
        refine lv_iload_n hx hb dX7_ageOf_12 rfl (lv_at hl 1 rfl) ?_
        refine lv_i2l hx hb dX7_ageOf_13 rfl ?_
        refine lv_iload_n hx hb dX7_ageOf_14 rfl (lv_at hl 3 rfl) ?_
        obtain ⟨u2, hf2, hf⟩ := xb hf
        refine x_ran (x_runS (rest := []) (As := [.long (Int32.toInt64 p1), .int s4.2]) hC mw_336 md_X7_has (c_X7_has (X := X) hf2) hH [] rfl (by decide) hl.1 rfl rfl (Nat.le_of_ble_eq_true rfl) dX7_ageOf_15 ⟨Nat.le_of_ble_eq_true rfl, Nat.le_of_ble_eq_true rfl⟩ ⟨rfl, rfl⟩ ⟨Nat.le_refl _, Nat.le_refl _⟩) rfl (fun hz2 => ?_)
        refine lv_if_eq (tgt := 30) hx hb dX7_ageOf_18 (by decide) (fun c3 => ?_) (fun c3 => ?_)
        · have hf := xt c3 hf
          refine lv_iinc (v := s4.2 + (nI 1)) (lv' := [(3, .int (s4.2 + (nI 1))), (0, .ref h0), (1, .int p1), (2, .int s4.1)]) hx hb dX7_ageOf_30 hl (k := 3) rfl rfl (by decide) rfl (fun ls hl => ?_)
          refine lv_goto (tgt := 4) hx hb dX7_ageOf_33 (by decide) ?_
          have hf := xo_go hf ho4
          exact ih4 (s4.1, s4.2 + (nI 1)) hf ls (lv_sub hl [1, 2, 3, 0] rfl)
        · have hf := xe c3 hf
          refine lv_iload_n hx hb dX7_ageOf_21 rfl (lv_at hl 2 rfl) ?_
          refine lv_aload_n hx hb dX7_ageOf_22 rfl (lv_at hl 0 rfl) ?_
          refine x_get hC fd_RX7_16 hH.1 0 rfl rfl dX7_ageOf_23 ?_
          refine lv_iload_n hx hb dX7_ageOf_26 rfl (lv_at hl 3 rfl) ?_
          obtain ⟨n4, hf⟩ := xok hf
          refine x_iald hC hH.1 1 rfl n4 dX7_ageOf_27 ?_
          refine lv_iadd hx hb dX7_ageOf_28 ?_
          refine lv_istore_n (lv' := [(2, .int (s4.1 + (v_ages (xat s4.2)))), (0, .ref h0), (1, .int p1), (3, .int s4.2)]) hx hb dX7_ageOf_29 rfl hl (by decide) rfl (fun ls hl => ?_)
          refine lv_iinc (v := s4.2 + (nI 1)) (lv' := [(3, .int (s4.2 + (nI 1))), (2, .int (s4.1 + (v_ages (xat s4.2)))), (0, .ref h0), (1, .int p1)]) hx hb dX7_ageOf_30 hl (k := 3) rfl rfl (by decide) rfl (fun ls hl => ?_)
          refine lv_goto (tgt := 4) hx hb dX7_ageOf_33 (by decide) ?_
          have hf := xo_go hf ho4
          exact ih4 (s4.1 + (v_ages (xat s4.2)), s4.2 + (nI 1)) hf ls (lv_sub hl [2, 3, 1, 0] rfl)
  refine lv_iconst (v := (nI 0)) hx hb dX7_ageOf_0 (by decide) ?_
  refine lv_istore_n (lv' := [(2, .int (nI 0)), (0, .ref h0), (1, .int p1)]) hx hb dX7_ageOf_1 rfl hl (by decide) rfl (fun ls hl => ?_)
  refine lv_iconst (v := (nI 0)) hx hb dX7_ageOf_2 (by decide) ?_
  refine lv_istore_n (lv' := [(3, .int (nI 0)), (2, .int (nI 0)), (0, .ref h0), (1, .int p1)]) hx hb dX7_ageOf_3 rfl hl (by decide) rfl (fun ls hl => ?_)
  exact L4 xN ((nI 0), (nI 0)) hf ls (lv_sub hl [2, 3, 1, 0] rfl)
def f_X7_tolls_L35 (v_people : Int32) (v_ages : (Nat → Int32)) (v_refusals : (Nat → Int32)) (p1 : Int32) (p2 : Int32) (s35 : Int32 × Int32 × Int32) : Option ((Int32 × (Nat → Int32)) ⊕ (Int32 × Int32 × Int32)) :=
  if (xshl (nI 1) v_people) ≤ s35.2.2 then
    if p2 = (nI 0) then
      some (.inl (s35.1, v_refusals))
    else
    some (.inl (s35.2.1, v_refusals))
  else
  (f_X7_ageOf v_people v_ages s35.2.2).bind fun u8 =>
  if u8 = p1 then
    if s35.2.1 = (-1 : Int32) then
      some (.inr (s35.1 + (nI 1), s35.2.2, s35.2.2 + (nI 1)))
    else
    (f_J6_bitCount_0f7a4 s35.2.2).bind fun u11 =>
    (f_J6_bitCount_0f7a4 s35.2.1).bind fun u12 =>
    if u12 ≤ u11 then
      some (.inr (s35.1 + (nI 1), s35.2.1, s35.2.2 + (nI 1)))
    else
    some (.inr (s35.1 + (nI 1), s35.2.2, s35.2.2 + (nI 1)))
  else
  some (.inr (s35.1, s35.2.1, s35.2.2 + (nI 1)))
def f_X7_tolls (v_people : Int32) (v_ages : (Nat → Int32)) (v_refusals : (Nat → Int32)) (p1 : Int32) (p2 : Int32) : Option (Int32 × (Nat → Int32)) :=
  (f_X7_within p1 (nI 0) (nI 999)).bind fun u1 =>
  if u1 = (nI 0) then
    (f_X7_no v_refusals (-2 : Int32)).bind fun u3 =>
    some (u3.1, u3.2)
  else
  (f_X7_within p2 (nI 0) (nI 1)).bind fun u4 =>
  if u4 = (nI 0) then
    (f_X7_no v_refusals (-2 : Int32)).bind fun u14 =>
    some (u14.1, u14.2)
  else
  xloop (f_X7_tolls_L35 v_people v_ages v_refusals p1 p2) xN ((nI 0), (-1 : Int32), (nI 0))
set_option maxHeartbeats 4000000 in
set_option maxRecDepth 100000 in
theorem c_X7_tolls {l : Launch} {X : xG} {h0 h1 h2 g0 g1 g2 g3 g4 g5 g6 g7 g8 : Nat} {v_laws : Int32} {v_inForce : Int32} {v_depth : Int32} {v_miss : Int32} {v_ring : Int64} {v_size : Int32} {v_people : Int32} {v_seed : Int32} {v_taped : Int32} {v_from : Int32} {v_to : Int32} {v_token : Int32} {v_value : Int32} {v_imaged : Int32} {v_oldRing : Int64} {v_aheadRing : Int64} {v_ages : (Nat → Int32)} {v_refusals : (Nat → Int32)} {p1 : Int32} {p2 : Int32} {u : Int32 × (Nat → Int32)} (hf : f_X7_tolls v_people v_ages v_refusals p1 p2 = some u) : Met l yX7_tolls (xw yX7_tolls cX7_tolls 6 (some .int)) (xrm 2 45) (xPc [.ref h0, .int p1, .int p2] X [(h0, xO 7 [.int v_laws, .ref g0, .ref g1, .int v_inForce, .int v_depth, .int v_miss, .long v_ring, .int v_size, .int v_people, .ref h1, .int v_seed, .int v_taped, .ref g2, .int v_from, .int v_to, .int v_token, .int v_value, .ref g3, .ref g4, .ref g5, .ref h2, .int v_imaged, .ref g6, .long v_oldRing, .ref g7, .long v_aheadRing, .ref g8]), (h1, xI X 10 v_ages), (h2, xI X 7 v_refusals)]) (xQw True (.returned (some (.int u.1))) X [(h0, xO 7 [.int v_laws, .ref g0, .ref g1, .int v_inForce, .int v_depth, .int v_miss, .long v_ring, .int v_size, .int v_people, .ref h1, .int v_seed, .int v_taped, .ref g2, .int v_from, .int v_to, .int v_token, .int v_value, .ref g3, .ref g4, .ref g5, .ref h2, .int v_imaged, .ref g6, .long v_oldRing, .ref g7, .long v_aheadRing, .ref g8]), (h1, xI X 10 v_ages), (h2, xI X 7 u.2)] (xAs [(h0, xO 7 [.int v_laws, .ref g0, .ref g1, .int v_inForce, .int v_depth, .int v_miss, .long v_ring, .int v_size, .int v_people, .ref h1, .int v_seed, .int v_taped, .ref g2, .int v_from, .int v_to, .int v_token, .int v_value, .ref g3, .ref g4, .ref g5, .ref h2, .int v_imaged, .ref g6, .long v_oldRing, .ref g7, .long v_aheadRing, .ref g8]), (h1, xI X 10 v_ages), (h2, xI X 7 v_refusals)])) 0 0 (xAs [(h0, xO 7 [.int v_laws, .ref g0, .ref g1, .int v_inForce, .int v_depth, .int v_miss, .long v_ring, .int v_size, .int v_people, .ref h1, .int v_seed, .int v_taped, .ref g2, .int v_from, .int v_to, .int v_token, .int v_value, .ref g3, .ref g4, .ref g5, .ref h2, .int v_imaged, .ref g6, .long v_oldRing, .ref g7, .long v_aheadRing, .ref g8]), (h1, xI X 10 v_ages), (h2, xI X 7 v_refusals)]) := by
  refine xMetw (Qc := fun A => xQw True (.returned (some (.int u.1))) X [(h0, xO 7 [.int v_laws, .ref g0, .ref g1, .int v_inForce, .int v_depth, .int v_miss, .long v_ring, .int v_size, .int v_people, .ref h1, .int v_seed, .int v_taped, .ref g2, .int v_from, .int v_to, .int v_token, .int v_value, .ref g3, .ref g4, .ref g5, .ref h2, .int v_imaged, .ref g6, .long v_oldRing, .ref g7, .long v_aheadRing, .ref g8]), (h1, xI X 10 v_ages), (h2, xI X 7 u.2)] A) (n := 2) md_X7_tolls.1 (Nat.le_of_ble_eq_true rfl) ?_
  intro p e s m args below meth c ls A hC hr hlk hH hl
  have hl : lv_has ls 6 [(0, .ref h0), (1, .int p1), (2, .int p2)] := hl
  have hx := hC.1
  have hb := hC.2.1
  have L35 : ∀ (n : Nat) (s35 : Int32 × Int32 × Int32), xloop (f_X7_tolls_L35 v_people v_ages v_refusals p1 p2) n s35 = some u → ∀ (H : Heap) (locs : List Loc), xH X A [(h0, xO 7 [.int v_laws, .ref g0, .ref g1, .int v_inForce, .int v_depth, .int v_miss, .long v_ring, .int v_size, .int v_people, .ref h1, .int v_seed, .int v_taped, .ref g2, .int v_from, .int v_to, .int v_token, .int v_value, .ref g3, .ref g4, .ref g5, .ref h2, .int v_imaged, .ref g6, .long v_oldRing, .ref g7, .long v_aheadRing, .ref g8]), (h1, xI X 10 v_ages), (h2, xI X 7 v_refusals)] s.heap H locs → ∀ (ls : Array Slot), lv_has ls 6 [(0, .ref h0), (1, .int p1), (2, .int p2), (3, .int s35.1), (4, .int s35.2.1), (5, .int s35.2.2)] → W p l e (xrm 2 45) s m args below meth c H locs 0 0 (MQ below (xQw True (.returned (some (.int u.1))) X [(h0, xO 7 [.int v_laws, .ref g0, .ref g1, .int v_inForce, .int v_depth, .int v_miss, .long v_ring, .int v_size, .int v_people, .ref h1, .int v_seed, .int v_taped, .ref g2, .int v_from, .int v_to, .int v_token, .int v_value, .ref g3, .ref g4, .ref g5, .ref h2, .int v_imaged, .ref g6, .long v_oldRing, .ref g7, .long v_aheadRing, .ref g8]), (h1, xI X 10 v_ages), (h2, xI X 7 u.2)] A) args s 0 0 A) (F0 m 35 ls []) := by
    intro  n
    induction n with
    | zero => intro s35 hf; exact xloop_0 hf
    | succ n ih35 =>
      intro s35 hf H locs hH ls hl
      obtain ⟨o35, hf, ho35⟩ := xloop_s hf
      refine lv_iload hx hb dX7_tolls_35 (lv_at hl 5 rfl) ?_
      refine lv_iconst (v := (nI 1)) hx hb dX7_tolls_37 (by decide) ?_
      refine lv_aload_n hx hb dX7_tolls_38 rfl (lv_at hl 0 rfl) ?_
      refine x_get hC fd_RX7_59 hH.1 0 rfl rfl dX7_tolls_39 ?_
      refine x_ishl hx hb dX7_tolls_42 ?_
      refine lv_icmp_ge (tgt := 91) hx hb dX7_tolls_43 (by decide) (fun c6 => ?_) (fun c6 => ?_)
      · have hf := xt c6 hf
        refine lv_iload_n hx hb dX7_tolls_91 rfl (lv_at hl 2 rfl) ?_
        refine lv_if_ne (tgt := 99) hx hb dX7_tolls_92 (by decide) (fun c7 => ?_) (fun c7 => ?_)
        · have hf := xe c7 hf
          refine lv_iload hx hb dX7_tolls_99 (lv_at hl 4 rfl) ?_
          have hf := xo_ret hf ho35
          exact x_retiw (φ := fun _ => True) (f := fun u : Int32 × (Nat → Int32) => u.1) (wf := fun u : Int32 × (Nat → Int32) => [(h0, xO 7 [.int v_laws, .ref g0, .ref g1, .int v_inForce, .int v_depth, .int v_miss, .long v_ring, .int v_size, .int v_people, .ref h1, .int v_seed, .int v_taped, .ref g2, .int v_from, .int v_to, .int v_token, .int v_value, .ref g3, .ref g4, .ref g5, .ref h2, .int v_imaged, .ref g6, .long v_oldRing, .ref g7, .long v_aheadRing, .ref g8]), (h1, xI X 10 v_ages), (h2, xI X 7 u.2)]) hC hr hlk trivial hf hH rfl rfl dX7_tolls_101
        · have hf := xt c7 hf
          refine lv_iload_n hx hb dX7_tolls_95 rfl (lv_at hl 3 rfl) ?_
          refine lv_goto (tgt := 101) hx hb dX7_tolls_96 (by decide) ?_
          have hf := xo_ret hf ho35
          exact x_retiw (φ := fun _ => True) (f := fun u : Int32 × (Nat → Int32) => u.1) (wf := fun u : Int32 × (Nat → Int32) => [(h0, xO 7 [.int v_laws, .ref g0, .ref g1, .int v_inForce, .int v_depth, .int v_miss, .long v_ring, .int v_size, .int v_people, .ref h1, .int v_seed, .int v_taped, .ref g2, .int v_from, .int v_to, .int v_token, .int v_value, .ref g3, .ref g4, .ref g5, .ref h2, .int v_imaged, .ref g6, .long v_oldRing, .ref g7, .long v_aheadRing, .ref g8]), (h1, xI X 10 v_ages), (h2, xI X 7 u.2)]) hC hr hlk trivial hf hH rfl rfl dX7_tolls_101
      · have hf := xe c6 hf
        refine lv_aload_n hx hb dX7_tolls_46 rfl (lv_at hl 0 rfl) ?_
        refine lv_iload hx hb dX7_tolls_47 (lv_at hl 5 rfl) ?_
        obtain ⟨u8, hf8, hf⟩ := xb hf
        refine x_ran (x_runV (q0 := 0) (rest := []) (As := [.int s35.2.2]) hC mw_1145 md_X7_ageOf (c_X7_ageOf (X := X) hf8) hH [0, 1] rfl (by decide) rfl rfl rfl hl.1 rfl rfl (Nat.le_of_ble_eq_true rfl) dX7_tolls_49 ⟨Nat.le_of_ble_eq_true rfl, Nat.le_of_ble_eq_true rfl⟩ ⟨rfl, rfl⟩ ⟨Nat.le_refl _, Nat.le_refl _⟩) rfl (fun hz8 => ?_)
        refine lv_iload_n hx hb dX7_tolls_52 rfl (lv_at hl 1 rfl) ?_
        refine lv_icmp_eq (tgt := 59) hx hb dX7_tolls_53 (by decide) (fun c9 => ?_) (fun c9 => ?_)
        · have hf := xt c9 hf
          refine lv_iinc (v := s35.1 + (nI 1)) (lv' := [(3, .int (s35.1 + (nI 1))), (0, .ref h0), (1, .int p1), (2, .int p2), (4, .int s35.2.1), (5, .int s35.2.2)]) hx hb dX7_tolls_59 hl (k := 3) rfl rfl (by decide) rfl (fun ls hl => ?_)
          refine lv_iload hx hb dX7_tolls_62 (lv_at hl 4 rfl) ?_
          refine lv_iconst (v := (-1 : Int32)) hx hb dX7_tolls_64 (by decide) ?_
          refine lv_icmp_eq (tgt := 81) hx hb dX7_tolls_65 (by decide) (fun c10 => ?_) (fun c10 => ?_)
          · have hf := xt c10 hf
            refine lv_iload hx hb dX7_tolls_81 (lv_at hl 5 rfl) ?_
            refine lv_istore (lv' := [(4, .int s35.2.2), (3, .int (s35.1 + (nI 1))), (0, .ref h0), (1, .int p1), (2, .int p2), (5, .int s35.2.2)]) hx hb dX7_tolls_83 hl (by decide) rfl (fun ls hl => ?_)
            refine lv_iinc (v := s35.2.2 + (nI 1)) (lv' := [(5, .int (s35.2.2 + (nI 1))), (4, .int s35.2.2), (3, .int (s35.1 + (nI 1))), (0, .ref h0), (1, .int p1), (2, .int p2)]) hx hb dX7_tolls_85 hl (k := 5) rfl rfl (by decide) rfl (fun ls hl => ?_)
            refine lv_goto (tgt := 35) hx hb dX7_tolls_88 (by decide) ?_
            have hf := xo_go hf ho35
            exact ih35 (s35.1 + (nI 1), s35.2.2, s35.2.2 + (nI 1)) hf _ _ hH ls (lv_sub hl [3, 4, 5, 2, 1, 0] rfl)
          · have hf := xe c10 hf
            refine lv_iload hx hb dX7_tolls_68 (lv_at hl 5 rfl) ?_
            obtain ⟨u11, hf11, hf⟩ := xb hf
            refine x_ran (x_runS (rest := []) (As := [.int s35.2.2]) hC mw_971 md_J6_bitCount_0f7a4 (c_J6_bitCount_0f7a4 (X := X) hf11) hH [] rfl (by decide) hl.1 rfl rfl (Nat.le_of_ble_eq_true rfl) dX7_tolls_70 ⟨Nat.le_of_ble_eq_true rfl, Nat.le_of_ble_eq_true rfl⟩ ⟨rfl, rfl⟩ ⟨Nat.le_refl _, Nat.le_refl _⟩) rfl (fun hz11 => ?_)
            refine lv_iload hx hb dX7_tolls_73 (lv_at hl 4 rfl) ?_
            obtain ⟨u12, hf12, hf⟩ := xb hf
            refine x_ran (x_runS (rest := [.int u11]) (As := [.int s35.2.1]) hC mw_971 md_J6_bitCount_0f7a4 (c_J6_bitCount_0f7a4 (X := X) hf12) hH [] rfl (by decide) hl.1 rfl rfl (Nat.le_of_ble_eq_true rfl) dX7_tolls_75 ⟨Nat.le_of_ble_eq_true rfl, Nat.le_of_ble_eq_true rfl⟩ ⟨rfl, rfl⟩ ⟨Nat.le_refl _, Nat.le_refl _⟩) rfl (fun hz12 => ?_)
            refine lv_icmp_ge (tgt := 85) hx hb dX7_tolls_78 (by decide) (fun c13 => ?_) (fun c13 => ?_)
            · have hf := xt c13 hf
              refine lv_iinc (v := s35.2.2 + (nI 1)) (lv' := [(5, .int (s35.2.2 + (nI 1))), (3, .int (s35.1 + (nI 1))), (0, .ref h0), (1, .int p1), (2, .int p2), (4, .int s35.2.1)]) hx hb dX7_tolls_85 hl (k := 5) rfl rfl (by decide) rfl (fun ls hl => ?_)
              refine lv_goto (tgt := 35) hx hb dX7_tolls_88 (by decide) ?_
              have hf := xo_go hf ho35
              exact ih35 (s35.1 + (nI 1), s35.2.1, s35.2.2 + (nI 1)) hf _ _ hH ls (lv_sub hl [2, 3, 4, 1, 5, 0] rfl)
            · have hf := xe c13 hf
              refine lv_iload hx hb dX7_tolls_81 (lv_at hl 5 rfl) ?_
              refine lv_istore (lv' := [(4, .int s35.2.2), (3, .int (s35.1 + (nI 1))), (0, .ref h0), (1, .int p1), (2, .int p2), (5, .int s35.2.2)]) hx hb dX7_tolls_83 hl (by decide) rfl (fun ls hl => ?_)
              refine lv_iinc (v := s35.2.2 + (nI 1)) (lv' := [(5, .int (s35.2.2 + (nI 1))), (4, .int s35.2.2), (3, .int (s35.1 + (nI 1))), (0, .ref h0), (1, .int p1), (2, .int p2)]) hx hb dX7_tolls_85 hl (k := 5) rfl rfl (by decide) rfl (fun ls hl => ?_)
              refine lv_goto (tgt := 35) hx hb dX7_tolls_88 (by decide) ?_
              have hf := xo_go hf ho35
              exact ih35 (s35.1 + (nI 1), s35.2.2, s35.2.2 + (nI 1)) hf _ _ hH ls (lv_sub hl [3, 4, 5, 2, 1, 0] rfl)
        · have hf := xe c9 hf
          refine lv_goto (tgt := 85) hx hb dX7_tolls_56 (by decide) ?_
          refine lv_iinc (v := s35.2.2 + (nI 1)) (lv' := [(5, .int (s35.2.2 + (nI 1))), (0, .ref h0), (1, .int p1), (2, .int p2), (3, .int s35.1), (4, .int s35.2.1)]) hx hb dX7_tolls_85 hl (k := 5) rfl rfl (by decide) rfl (fun ls hl => ?_)
          refine lv_goto (tgt := 35) hx hb dX7_tolls_88 (by decide) ?_
          have hf := xo_go hf ho35
          exact ih35 (s35.1, s35.2.1, s35.2.2 + (nI 1)) hf _ _ hH ls (lv_sub hl [1, 2, 3, 4, 5, 0] rfl)
  refine lv_iload_n hx hb dX7_tolls_0 rfl (lv_at hl 1 rfl) ?_
  refine lv_iconst (v := (nI 0)) hx hb dX7_tolls_1 (by decide) ?_
  refine lv_sipush (v := (nI 999)) hx hb dX7_tolls_2 (by decide) ?_
  obtain ⟨u1, hf1, hf⟩ := xb hf
  refine x_ran (x_runS (rest := []) (As := [.int p1, .int (nI 0), .int (nI 999)]) hC mw_140 md_X7_within (c_X7_within (X := X) hf1) hH [] rfl (by decide) hl.1 rfl rfl (Nat.le_of_ble_eq_true rfl) dX7_tolls_5 ⟨Nat.le_of_ble_eq_true rfl, Nat.le_of_ble_eq_true rfl⟩ ⟨rfl, rfl⟩ ⟨Nat.le_refl _, Nat.le_refl _⟩) rfl (fun hz1 => ?_)
  refine lv_if_eq (tgt := 20) hx hb dX7_tolls_8 (by decide) (fun c2 => ?_) (fun c2 => ?_)
  · have hf := xt c2 hf
    refine lv_aload_n hx hb dX7_tolls_20 rfl (lv_at hl 0 rfl) ?_
    refine lv_bipush (v := (-2 : Int32)) hx hb dX7_tolls_21 (by decide) ?_
    obtain ⟨u3, hf3, hf⟩ := xb hf
    refine x_ranw (ws' := [(h0, xO 7 [.int v_laws, .ref g0, .ref g1, .int v_inForce, .int v_depth, .int v_miss, .long v_ring, .int v_size, .int v_people, .ref h1, .int v_seed, .int v_taped, .ref g2, .int v_from, .int v_to, .int v_token, .int v_value, .ref g3, .ref g4, .ref g5, .ref h2, .int v_imaged, .ref g6, .long v_oldRing, .ref g7, .long v_aheadRing, .ref g8]), (h1, xI X 10 v_ages), (h2, xI X 7 u3.2)]) (x_runV (q0 := 0) (rest := []) (As := [.int (-2 : Int32)]) hC mw_143 md_X7_no (c_X7_no (X := X) hf3) hH [0, 2] rfl (by decide) rfl rfl rfl hl.1 rfl rfl (Nat.le_of_ble_eq_true rfl) dX7_tolls_23 ⟨Nat.le_of_ble_eq_true rfl, Nat.le_of_ble_eq_true rfl⟩ ⟨rfl, rfl⟩ ⟨Nat.le_refl _, Nat.le_refl _⟩) hH [0, 2] rfl rfl rfl rfl rfl (fun hz3 H locs hH => ?_)
    exact x_retiw (φ := fun _ => True) (f := fun u : Int32 × (Nat → Int32) => u.1) (wf := fun u : Int32 × (Nat → Int32) => [(h0, xO 7 [.int v_laws, .ref g0, .ref g1, .int v_inForce, .int v_depth, .int v_miss, .long v_ring, .int v_size, .int v_people, .ref h1, .int v_seed, .int v_taped, .ref g2, .int v_from, .int v_to, .int v_token, .int v_value, .ref g3, .ref g4, .ref g5, .ref h2, .int v_imaged, .ref g6, .long v_oldRing, .ref g7, .long v_aheadRing, .ref g8]), (h1, xI X 10 v_ages), (h2, xI X 7 u.2)]) hC hr hlk trivial hf hH rfl rfl dX7_tolls_26
  · have hf := xe c2 hf
    refine lv_iload_n hx hb dX7_tolls_11 rfl (lv_at hl 2 rfl) ?_
    refine lv_iconst (v := (nI 0)) hx hb dX7_tolls_12 (by decide) ?_
    refine lv_iconst (v := (nI 1)) hx hb dX7_tolls_13 (by decide) ?_
    obtain ⟨u4, hf4, hf⟩ := xb hf
    refine x_ran (x_runS (rest := []) (As := [.int p2, .int (nI 0), .int (nI 1)]) hC mw_140 md_X7_within (c_X7_within (X := X) hf4) hH [] rfl (by decide) hl.1 rfl rfl (Nat.le_of_ble_eq_true rfl) dX7_tolls_14 ⟨Nat.le_of_ble_eq_true rfl, Nat.le_of_ble_eq_true rfl⟩ ⟨rfl, rfl⟩ ⟨Nat.le_refl _, Nat.le_refl _⟩) rfl (fun hz4 => ?_)
    refine lv_if_ne (tgt := 27) hx hb dX7_tolls_17 (by decide) (fun c5 => ?_) (fun c5 => ?_)
    · have hf := xe c5 hf
      refine lv_iconst (v := (nI 0)) hx hb dX7_tolls_27 (by decide) ?_
      refine lv_istore_n (lv' := [(3, .int (nI 0)), (0, .ref h0), (1, .int p1), (2, .int p2)]) hx hb dX7_tolls_28 rfl hl (by decide) rfl (fun ls hl => ?_)
      refine lv_iconst (v := (-1 : Int32)) hx hb dX7_tolls_29 (by decide) ?_
      refine lv_istore (lv' := [(4, .int (-1 : Int32)), (3, .int (nI 0)), (0, .ref h0), (1, .int p1), (2, .int p2)]) hx hb dX7_tolls_30 hl (by decide) rfl (fun ls hl => ?_)
      refine lv_iconst (v := (nI 0)) hx hb dX7_tolls_32 (by decide) ?_
      refine lv_istore (lv' := [(5, .int (nI 0)), (4, .int (-1 : Int32)), (3, .int (nI 0)), (0, .ref h0), (1, .int p1), (2, .int p2)]) hx hb dX7_tolls_33 hl (by decide) rfl (fun ls hl => ?_)
      exact L35 xN ((nI 0), (-1 : Int32), (nI 0)) hf _ _ hH ls (lv_sub hl [3, 4, 5, 2, 1, 0] rfl)
    · have hf := xt c5 hf
      refine lv_aload_n hx hb dX7_tolls_20 rfl (lv_at hl 0 rfl) ?_
      refine lv_bipush (v := (-2 : Int32)) hx hb dX7_tolls_21 (by decide) ?_
      obtain ⟨u14, hf14, hf⟩ := xb hf
      refine x_ranw (ws' := [(h0, xO 7 [.int v_laws, .ref g0, .ref g1, .int v_inForce, .int v_depth, .int v_miss, .long v_ring, .int v_size, .int v_people, .ref h1, .int v_seed, .int v_taped, .ref g2, .int v_from, .int v_to, .int v_token, .int v_value, .ref g3, .ref g4, .ref g5, .ref h2, .int v_imaged, .ref g6, .long v_oldRing, .ref g7, .long v_aheadRing, .ref g8]), (h1, xI X 10 v_ages), (h2, xI X 7 u14.2)]) (x_runV (q0 := 0) (rest := []) (As := [.int (-2 : Int32)]) hC mw_143 md_X7_no (c_X7_no (X := X) hf14) hH [0, 2] rfl (by decide) rfl rfl rfl hl.1 rfl rfl (Nat.le_of_ble_eq_true rfl) dX7_tolls_23 ⟨Nat.le_of_ble_eq_true rfl, Nat.le_of_ble_eq_true rfl⟩ ⟨rfl, rfl⟩ ⟨Nat.le_refl _, Nat.le_refl _⟩) hH [0, 2] rfl rfl rfl rfl rfl (fun hz14 H locs hH => ?_)
      exact x_retiw (φ := fun _ => True) (f := fun u : Int32 × (Nat → Int32) => u.1) (wf := fun u : Int32 × (Nat → Int32) => [(h0, xO 7 [.int v_laws, .ref g0, .ref g1, .int v_inForce, .int v_depth, .int v_miss, .long v_ring, .int v_size, .int v_people, .ref h1, .int v_seed, .int v_taped, .ref g2, .int v_from, .int v_to, .int v_token, .int v_value, .ref g3, .ref g4, .ref g5, .ref h2, .int v_imaged, .ref g6, .long v_oldRing, .ref g7, .long v_aheadRing, .ref g8]), (h1, xI X 10 v_ages), (h2, xI X 7 u.2)]) hC hr hlk trivial hf hH rfl rfl dX7_tolls_26
def f_X7_meet_L29 (v_refusals : (Nat → Int32)) (p1 : Int32) (p2 : Int32) (s29 : Int32) : Option ((Int32 × (Nat → Int32)) ⊕ (Int32)) :=
  if p2 = nI 0 then none else
  if (xrem s29 p2) = (nI 0) then
    some (.inl (s29, v_refusals))
  else
  some (.inr (s29 + p1))
def f_X7_meet (v_refusals : (Nat → Int32)) (p1 : Int32) (p2 : Int32) : Option (Int32 × (Nat → Int32)) :=
  (f_X7_within p1 (nI 1) (nI 99)).bind fun u1 =>
  if u1 = (nI 0) then
    (f_X7_no v_refusals (-2 : Int32)).bind fun u3 =>
    some (u3.1, u3.2)
  else
  (f_X7_within p2 (nI 1) (nI 99)).bind fun u4 =>
  if u4 = (nI 0) then
    (f_X7_no v_refusals (-2 : Int32)).bind fun u8 =>
    some (u8.1, u8.2)
  else
  xloop (f_X7_meet_L29 v_refusals p1 p2) xN p1
set_option maxHeartbeats 4000000 in
set_option maxRecDepth 100000 in
theorem c_X7_meet {l : Launch} {X : xG} {h0 h1 g0 g1 g2 g3 g4 g5 g6 g7 g8 g9 : Nat} {v_laws : Int32} {v_inForce : Int32} {v_depth : Int32} {v_miss : Int32} {v_ring : Int64} {v_size : Int32} {v_people : Int32} {v_seed : Int32} {v_taped : Int32} {v_from : Int32} {v_to : Int32} {v_token : Int32} {v_value : Int32} {v_imaged : Int32} {v_oldRing : Int64} {v_aheadRing : Int64} {v_refusals : (Nat → Int32)} {p1 : Int32} {p2 : Int32} {u : Int32 × (Nat → Int32)} (hf : f_X7_meet v_refusals p1 p2 = some u) : Met l yX7_meet (xw yX7_meet cX7_meet 4 (some .int)) (xrm 1 22) (xPc [.ref h0, .int p1, .int p2] X [(h0, xO 7 [.int v_laws, .ref g0, .ref g1, .int v_inForce, .int v_depth, .int v_miss, .long v_ring, .int v_size, .int v_people, .ref g2, .int v_seed, .int v_taped, .ref g3, .int v_from, .int v_to, .int v_token, .int v_value, .ref g4, .ref g5, .ref g6, .ref h1, .int v_imaged, .ref g7, .long v_oldRing, .ref g8, .long v_aheadRing, .ref g9]), (h1, xI X 7 v_refusals)]) (xQw True (.returned (some (.int u.1))) X [(h0, xO 7 [.int v_laws, .ref g0, .ref g1, .int v_inForce, .int v_depth, .int v_miss, .long v_ring, .int v_size, .int v_people, .ref g2, .int v_seed, .int v_taped, .ref g3, .int v_from, .int v_to, .int v_token, .int v_value, .ref g4, .ref g5, .ref g6, .ref h1, .int v_imaged, .ref g7, .long v_oldRing, .ref g8, .long v_aheadRing, .ref g9]), (h1, xI X 7 u.2)] (xAs [(h0, xO 7 [.int v_laws, .ref g0, .ref g1, .int v_inForce, .int v_depth, .int v_miss, .long v_ring, .int v_size, .int v_people, .ref g2, .int v_seed, .int v_taped, .ref g3, .int v_from, .int v_to, .int v_token, .int v_value, .ref g4, .ref g5, .ref g6, .ref h1, .int v_imaged, .ref g7, .long v_oldRing, .ref g8, .long v_aheadRing, .ref g9]), (h1, xI X 7 v_refusals)])) 0 0 (xAs [(h0, xO 7 [.int v_laws, .ref g0, .ref g1, .int v_inForce, .int v_depth, .int v_miss, .long v_ring, .int v_size, .int v_people, .ref g2, .int v_seed, .int v_taped, .ref g3, .int v_from, .int v_to, .int v_token, .int v_value, .ref g4, .ref g5, .ref g6, .ref h1, .int v_imaged, .ref g7, .long v_oldRing, .ref g8, .long v_aheadRing, .ref g9]), (h1, xI X 7 v_refusals)]) := by
  refine xMetw (Qc := fun A => xQw True (.returned (some (.int u.1))) X [(h0, xO 7 [.int v_laws, .ref g0, .ref g1, .int v_inForce, .int v_depth, .int v_miss, .long v_ring, .int v_size, .int v_people, .ref g2, .int v_seed, .int v_taped, .ref g3, .int v_from, .int v_to, .int v_token, .int v_value, .ref g4, .ref g5, .ref g6, .ref h1, .int v_imaged, .ref g7, .long v_oldRing, .ref g8, .long v_aheadRing, .ref g9]), (h1, xI X 7 u.2)] A) (n := 2) md_X7_meet.1 (Nat.le_of_ble_eq_true rfl) ?_
  intro p e s m args below meth c ls A hC hr hlk hH hl
  have hl : lv_has ls 4 [(0, .ref h0), (1, .int p1), (2, .int p2)] := hl
  have hx := hC.1
  have hb := hC.2.1
  have L29 : ∀ (n : Nat) (s29 : Int32), xloop (f_X7_meet_L29 v_refusals p1 p2) n s29 = some u → ∀ (H : Heap) (locs : List Loc), xH X A [(h0, xO 7 [.int v_laws, .ref g0, .ref g1, .int v_inForce, .int v_depth, .int v_miss, .long v_ring, .int v_size, .int v_people, .ref g2, .int v_seed, .int v_taped, .ref g3, .int v_from, .int v_to, .int v_token, .int v_value, .ref g4, .ref g5, .ref g6, .ref h1, .int v_imaged, .ref g7, .long v_oldRing, .ref g8, .long v_aheadRing, .ref g9]), (h1, xI X 7 v_refusals)] s.heap H locs → ∀ (ls : Array Slot), lv_has ls 4 [(1, .int p1), (2, .int p2), (3, .int s29)] → W p l e (xrm 1 22) s m args below meth c H locs 0 0 (MQ below (xQw True (.returned (some (.int u.1))) X [(h0, xO 7 [.int v_laws, .ref g0, .ref g1, .int v_inForce, .int v_depth, .int v_miss, .long v_ring, .int v_size, .int v_people, .ref g2, .int v_seed, .int v_taped, .ref g3, .int v_from, .int v_to, .int v_token, .int v_value, .ref g4, .ref g5, .ref g6, .ref h1, .int v_imaged, .ref g7, .long v_oldRing, .ref g8, .long v_aheadRing, .ref g9]), (h1, xI X 7 u.2)] A) args s 0 0 A) (F0 m 29 ls []) := by
    intro  n
    induction n with
    | zero => intro s29 hf; exact xloop_0 hf
    | succ n ih29 =>
      intro s29 hf H locs hH ls hl
      obtain ⟨o29, hf, ho29⟩ := xloop_s hf
      refine lv_iload_n hx hb dX7_meet_29 rfl (lv_at hl 2 rfl) ?_
      refine lv_iload_n hx hb dX7_meet_30 rfl (lv_at hl 1 rfl) ?_
      obtain ⟨n6, hf⟩ := xok hf
      refine x_irem hx hb dX7_meet_31 n6 ?_
      refine lv_if_eq (tgt := 42) hx hb dX7_meet_32 (by decide) (fun c7 => ?_) (fun c7 => ?_)
      · have hf := xt c7 hf
        refine lv_iload_n hx hb dX7_meet_42 rfl (lv_at hl 2 rfl) ?_
        have hf := xo_ret hf ho29
        exact x_retiw (φ := fun _ => True) (f := fun u : Int32 × (Nat → Int32) => u.1) (wf := fun u : Int32 × (Nat → Int32) => [(h0, xO 7 [.int v_laws, .ref g0, .ref g1, .int v_inForce, .int v_depth, .int v_miss, .long v_ring, .int v_size, .int v_people, .ref g2, .int v_seed, .int v_taped, .ref g3, .int v_from, .int v_to, .int v_token, .int v_value, .ref g4, .ref g5, .ref g6, .ref h1, .int v_imaged, .ref g7, .long v_oldRing, .ref g8, .long v_aheadRing, .ref g9]), (h1, xI X 7 u.2)]) hC hr hlk trivial hf hH rfl rfl dX7_meet_43
      · have hf := xe c7 hf
        refine lv_iload_n hx hb dX7_meet_35 rfl (lv_at hl 2 rfl) ?_
        refine lv_iload_n hx hb dX7_meet_36 rfl (lv_at hl 0 rfl) ?_
        refine lv_iadd hx hb dX7_meet_37 ?_
        refine lv_istore_n (lv' := [(3, .int (s29 + p1)), (1, .int p1), (2, .int p2)]) hx hb dX7_meet_38 rfl hl (by decide) rfl (fun ls hl => ?_)
        refine lv_goto (tgt := 29) hx hb dX7_meet_39 (by decide) ?_
        have hf := xo_go hf ho29
        exact ih29 (s29 + p1) hf _ _ hH ls (lv_sub hl [1, 2, 0] rfl)
  refine lv_iload_n hx hb dX7_meet_0 rfl (lv_at hl 1 rfl) ?_
  refine lv_iconst (v := (nI 1)) hx hb dX7_meet_1 (by decide) ?_
  refine lv_bipush (v := (nI 99)) hx hb dX7_meet_2 (by decide) ?_
  obtain ⟨u1, hf1, hf⟩ := xb hf
  refine x_ran (x_runS (rest := []) (As := [.int p1, .int (nI 1), .int (nI 99)]) hC mw_140 md_X7_within (c_X7_within (X := X) hf1) hH [] rfl (by decide) hl.1 rfl rfl (Nat.le_of_ble_eq_true rfl) dX7_meet_4 ⟨Nat.le_of_ble_eq_true rfl, Nat.le_of_ble_eq_true rfl⟩ ⟨rfl, rfl⟩ ⟨Nat.le_refl _, Nat.le_refl _⟩) rfl (fun hz1 => ?_)
  refine lv_if_eq (tgt := 20) hx hb dX7_meet_7 (by decide) (fun c2 => ?_) (fun c2 => ?_)
  · have hf := xt c2 hf
    refine lv_aload_n hx hb dX7_meet_20 rfl (lv_at hl 0 rfl) ?_
    refine lv_bipush (v := (-2 : Int32)) hx hb dX7_meet_21 (by decide) ?_
    obtain ⟨u3, hf3, hf⟩ := xb hf
    refine x_ranw (ws' := [(h0, xO 7 [.int v_laws, .ref g0, .ref g1, .int v_inForce, .int v_depth, .int v_miss, .long v_ring, .int v_size, .int v_people, .ref g2, .int v_seed, .int v_taped, .ref g3, .int v_from, .int v_to, .int v_token, .int v_value, .ref g4, .ref g5, .ref g6, .ref h1, .int v_imaged, .ref g7, .long v_oldRing, .ref g8, .long v_aheadRing, .ref g9]), (h1, xI X 7 u3.2)]) (x_runV (q0 := 0) (rest := []) (As := [.int (-2 : Int32)]) hC mw_143 md_X7_no (c_X7_no (X := X) hf3) hH [0, 1] rfl (by decide) rfl rfl rfl hl.1 rfl rfl (Nat.le_of_ble_eq_true rfl) dX7_meet_23 ⟨Nat.le_of_ble_eq_true rfl, Nat.le_of_ble_eq_true rfl⟩ ⟨rfl, rfl⟩ ⟨Nat.le_refl _, Nat.le_refl _⟩) hH [0, 1] rfl rfl rfl rfl rfl (fun hz3 H locs hH => ?_)
    exact x_retiw (φ := fun _ => True) (f := fun u : Int32 × (Nat → Int32) => u.1) (wf := fun u : Int32 × (Nat → Int32) => [(h0, xO 7 [.int v_laws, .ref g0, .ref g1, .int v_inForce, .int v_depth, .int v_miss, .long v_ring, .int v_size, .int v_people, .ref g2, .int v_seed, .int v_taped, .ref g3, .int v_from, .int v_to, .int v_token, .int v_value, .ref g4, .ref g5, .ref g6, .ref h1, .int v_imaged, .ref g7, .long v_oldRing, .ref g8, .long v_aheadRing, .ref g9]), (h1, xI X 7 u.2)]) hC hr hlk trivial hf hH rfl rfl dX7_meet_26
  · have hf := xe c2 hf
    refine lv_iload_n hx hb dX7_meet_10 rfl (lv_at hl 2 rfl) ?_
    refine lv_iconst (v := (nI 1)) hx hb dX7_meet_11 (by decide) ?_
    refine lv_bipush (v := (nI 99)) hx hb dX7_meet_12 (by decide) ?_
    obtain ⟨u4, hf4, hf⟩ := xb hf
    refine x_ran (x_runS (rest := []) (As := [.int p2, .int (nI 1), .int (nI 99)]) hC mw_140 md_X7_within (c_X7_within (X := X) hf4) hH [] rfl (by decide) hl.1 rfl rfl (Nat.le_of_ble_eq_true rfl) dX7_meet_14 ⟨Nat.le_of_ble_eq_true rfl, Nat.le_of_ble_eq_true rfl⟩ ⟨rfl, rfl⟩ ⟨Nat.le_refl _, Nat.le_refl _⟩) rfl (fun hz4 => ?_)
    refine lv_if_ne (tgt := 27) hx hb dX7_meet_17 (by decide) (fun c5 => ?_) (fun c5 => ?_)
    · have hf := xe c5 hf
      refine lv_iload_n hx hb dX7_meet_27 rfl (lv_at hl 1 rfl) ?_
      refine lv_istore_n (lv' := [(3, .int p1), (0, .ref h0), (1, .int p1), (2, .int p2)]) hx hb dX7_meet_28 rfl hl (by decide) rfl (fun ls hl => ?_)
      exact L29 xN p1 hf _ _ hH ls (lv_sub hl [2, 3, 0] rfl)
    · have hf := xt c5 hf
      refine lv_aload_n hx hb dX7_meet_20 rfl (lv_at hl 0 rfl) ?_
      refine lv_bipush (v := (-2 : Int32)) hx hb dX7_meet_21 (by decide) ?_
      obtain ⟨u8, hf8, hf⟩ := xb hf
      refine x_ranw (ws' := [(h0, xO 7 [.int v_laws, .ref g0, .ref g1, .int v_inForce, .int v_depth, .int v_miss, .long v_ring, .int v_size, .int v_people, .ref g2, .int v_seed, .int v_taped, .ref g3, .int v_from, .int v_to, .int v_token, .int v_value, .ref g4, .ref g5, .ref g6, .ref h1, .int v_imaged, .ref g7, .long v_oldRing, .ref g8, .long v_aheadRing, .ref g9]), (h1, xI X 7 u8.2)]) (x_runV (q0 := 0) (rest := []) (As := [.int (-2 : Int32)]) hC mw_143 md_X7_no (c_X7_no (X := X) hf8) hH [0, 1] rfl (by decide) rfl rfl rfl hl.1 rfl rfl (Nat.le_of_ble_eq_true rfl) dX7_meet_23 ⟨Nat.le_of_ble_eq_true rfl, Nat.le_of_ble_eq_true rfl⟩ ⟨rfl, rfl⟩ ⟨Nat.le_refl _, Nat.le_refl _⟩) hH [0, 1] rfl rfl rfl rfl rfl (fun hz8 H locs hH => ?_)
      exact x_retiw (φ := fun _ => True) (f := fun u : Int32 × (Nat → Int32) => u.1) (wf := fun u : Int32 × (Nat → Int32) => [(h0, xO 7 [.int v_laws, .ref g0, .ref g1, .int v_inForce, .int v_depth, .int v_miss, .long v_ring, .int v_size, .int v_people, .ref g2, .int v_seed, .int v_taped, .ref g3, .int v_from, .int v_to, .int v_token, .int v_value, .ref g4, .ref g5, .ref g6, .ref h1, .int v_imaged, .ref g7, .long v_oldRing, .ref g8, .long v_aheadRing, .ref g9]), (h1, xI X 7 u.2)]) hC hr hlk trivial hf hH rfl rfl dX7_meet_26
def f_X7_sum (v_people : Int32) (v_ages : (Nat → Int32)) (v_refusals : (Nat → Int32)) (p1 : Int32) : Option (Int32 × (Nat → Int32)) :=
  if p1 < (nI 0) then
    (f_X7_no v_refusals (-2 : Int32)).bind fun u2 =>
    some (u2.1, u2.2)
  else
  if (xshl (nI 1) v_people) ≤ p1 then
    (f_X7_no v_refusals (-2 : Int32)).bind fun u4 =>
    some (u4.1, u4.2)
  else
  (f_X7_ageOf v_people v_ages p1).bind fun u5 =>
  some (u5, v_refusals)
set_option maxHeartbeats 4000000 in
set_option maxRecDepth 100000 in
theorem c_X7_sum {l : Launch} {X : xG} {h0 h1 h2 g0 g1 g2 g3 g4 g5 g6 g7 g8 : Nat} {v_laws : Int32} {v_inForce : Int32} {v_depth : Int32} {v_miss : Int32} {v_ring : Int64} {v_size : Int32} {v_people : Int32} {v_seed : Int32} {v_taped : Int32} {v_from : Int32} {v_to : Int32} {v_token : Int32} {v_value : Int32} {v_imaged : Int32} {v_oldRing : Int64} {v_aheadRing : Int64} {v_ages : (Nat → Int32)} {v_refusals : (Nat → Int32)} {p1 : Int32} {u : Int32 × (Nat → Int32)} (hf : f_X7_sum v_people v_ages v_refusals p1 = some u) : Met l yX7_sum (xw yX7_sum cX7_sum 2 (some .int)) (xrm 2 45) (xPc [.ref h0, .int p1] X [(h0, xO 7 [.int v_laws, .ref g0, .ref g1, .int v_inForce, .int v_depth, .int v_miss, .long v_ring, .int v_size, .int v_people, .ref h1, .int v_seed, .int v_taped, .ref g2, .int v_from, .int v_to, .int v_token, .int v_value, .ref g3, .ref g4, .ref g5, .ref h2, .int v_imaged, .ref g6, .long v_oldRing, .ref g7, .long v_aheadRing, .ref g8]), (h1, xI X 10 v_ages), (h2, xI X 7 v_refusals)]) (xQw True (.returned (some (.int u.1))) X [(h0, xO 7 [.int v_laws, .ref g0, .ref g1, .int v_inForce, .int v_depth, .int v_miss, .long v_ring, .int v_size, .int v_people, .ref h1, .int v_seed, .int v_taped, .ref g2, .int v_from, .int v_to, .int v_token, .int v_value, .ref g3, .ref g4, .ref g5, .ref h2, .int v_imaged, .ref g6, .long v_oldRing, .ref g7, .long v_aheadRing, .ref g8]), (h1, xI X 10 v_ages), (h2, xI X 7 u.2)] (xAs [(h0, xO 7 [.int v_laws, .ref g0, .ref g1, .int v_inForce, .int v_depth, .int v_miss, .long v_ring, .int v_size, .int v_people, .ref h1, .int v_seed, .int v_taped, .ref g2, .int v_from, .int v_to, .int v_token, .int v_value, .ref g3, .ref g4, .ref g5, .ref h2, .int v_imaged, .ref g6, .long v_oldRing, .ref g7, .long v_aheadRing, .ref g8]), (h1, xI X 10 v_ages), (h2, xI X 7 v_refusals)])) 0 0 (xAs [(h0, xO 7 [.int v_laws, .ref g0, .ref g1, .int v_inForce, .int v_depth, .int v_miss, .long v_ring, .int v_size, .int v_people, .ref h1, .int v_seed, .int v_taped, .ref g2, .int v_from, .int v_to, .int v_token, .int v_value, .ref g3, .ref g4, .ref g5, .ref h2, .int v_imaged, .ref g6, .long v_oldRing, .ref g7, .long v_aheadRing, .ref g8]), (h1, xI X 10 v_ages), (h2, xI X 7 v_refusals)]) := by
  refine xMetw (Qc := fun A => xQw True (.returned (some (.int u.1))) X [(h0, xO 7 [.int v_laws, .ref g0, .ref g1, .int v_inForce, .int v_depth, .int v_miss, .long v_ring, .int v_size, .int v_people, .ref h1, .int v_seed, .int v_taped, .ref g2, .int v_from, .int v_to, .int v_token, .int v_value, .ref g3, .ref g4, .ref g5, .ref h2, .int v_imaged, .ref g6, .long v_oldRing, .ref g7, .long v_aheadRing, .ref g8]), (h1, xI X 10 v_ages), (h2, xI X 7 u.2)] A) (n := 1) md_X7_sum.1 (Nat.le_of_ble_eq_true rfl) ?_
  intro p e s m args below meth c ls A hC hr hlk hH hl
  have hl : lv_has ls 2 [(0, .ref h0), (1, .int p1)] := hl
  have hx := hC.1
  have hb := hC.2.1
  refine lv_iload_n hx hb dX7_sum_0 rfl (lv_at hl 1 rfl) ?_
  refine lv_if_lt (tgt := 22) hx hb dX7_sum_1 (by decide) (fun c1 => ?_) (fun c1 => ?_)
  · have hf := xt c1 hf
    refine lv_aload_n hx hb dX7_sum_22 rfl (lv_at hl 0 rfl) ?_
    refine lv_bipush (v := (-2 : Int32)) hx hb dX7_sum_23 (by decide) ?_
    obtain ⟨u2, hf2, hf⟩ := xb hf
    refine x_ranw (ws' := [(h0, xO 7 [.int v_laws, .ref g0, .ref g1, .int v_inForce, .int v_depth, .int v_miss, .long v_ring, .int v_size, .int v_people, .ref h1, .int v_seed, .int v_taped, .ref g2, .int v_from, .int v_to, .int v_token, .int v_value, .ref g3, .ref g4, .ref g5, .ref h2, .int v_imaged, .ref g6, .long v_oldRing, .ref g7, .long v_aheadRing, .ref g8]), (h1, xI X 10 v_ages), (h2, xI X 7 u2.2)]) (x_runV (q0 := 0) (rest := []) (As := [.int (-2 : Int32)]) hC mw_143 md_X7_no (c_X7_no (X := X) hf2) hH [0, 2] rfl (by decide) rfl rfl rfl hl.1 rfl rfl (Nat.le_of_ble_eq_true rfl) dX7_sum_25 ⟨Nat.le_of_ble_eq_true rfl, Nat.le_of_ble_eq_true rfl⟩ ⟨rfl, rfl⟩ ⟨Nat.le_refl _, Nat.le_refl _⟩) hH [0, 2] rfl rfl rfl rfl rfl (fun hz2 H locs hH => ?_)
    exact x_retiw (φ := fun _ => True) (f := fun u : Int32 × (Nat → Int32) => u.1) (wf := fun u : Int32 × (Nat → Int32) => [(h0, xO 7 [.int v_laws, .ref g0, .ref g1, .int v_inForce, .int v_depth, .int v_miss, .long v_ring, .int v_size, .int v_people, .ref h1, .int v_seed, .int v_taped, .ref g2, .int v_from, .int v_to, .int v_token, .int v_value, .ref g3, .ref g4, .ref g5, .ref h2, .int v_imaged, .ref g6, .long v_oldRing, .ref g7, .long v_aheadRing, .ref g8]), (h1, xI X 10 v_ages), (h2, xI X 7 u.2)]) hC hr hlk trivial hf hH rfl rfl dX7_sum_28
  · have hf := xe c1 hf
    refine lv_iload_n hx hb dX7_sum_4 rfl (lv_at hl 1 rfl) ?_
    refine lv_iconst (v := (nI 1)) hx hb dX7_sum_5 (by decide) ?_
    refine lv_aload_n hx hb dX7_sum_6 rfl (lv_at hl 0 rfl) ?_
    refine x_get hC fd_RX7_59 hH.1 0 rfl rfl dX7_sum_7 ?_
    refine x_ishl hx hb dX7_sum_10 ?_
    refine lv_icmp_ge (tgt := 22) hx hb dX7_sum_11 (by decide) (fun c3 => ?_) (fun c3 => ?_)
    · have hf := xt c3 hf
      refine lv_aload_n hx hb dX7_sum_22 rfl (lv_at hl 0 rfl) ?_
      refine lv_bipush (v := (-2 : Int32)) hx hb dX7_sum_23 (by decide) ?_
      obtain ⟨u4, hf4, hf⟩ := xb hf
      refine x_ranw (ws' := [(h0, xO 7 [.int v_laws, .ref g0, .ref g1, .int v_inForce, .int v_depth, .int v_miss, .long v_ring, .int v_size, .int v_people, .ref h1, .int v_seed, .int v_taped, .ref g2, .int v_from, .int v_to, .int v_token, .int v_value, .ref g3, .ref g4, .ref g5, .ref h2, .int v_imaged, .ref g6, .long v_oldRing, .ref g7, .long v_aheadRing, .ref g8]), (h1, xI X 10 v_ages), (h2, xI X 7 u4.2)]) (x_runV (q0 := 0) (rest := []) (As := [.int (-2 : Int32)]) hC mw_143 md_X7_no (c_X7_no (X := X) hf4) hH [0, 2] rfl (by decide) rfl rfl rfl hl.1 rfl rfl (Nat.le_of_ble_eq_true rfl) dX7_sum_25 ⟨Nat.le_of_ble_eq_true rfl, Nat.le_of_ble_eq_true rfl⟩ ⟨rfl, rfl⟩ ⟨Nat.le_refl _, Nat.le_refl _⟩) hH [0, 2] rfl rfl rfl rfl rfl (fun hz4 H locs hH => ?_)
      exact x_retiw (φ := fun _ => True) (f := fun u : Int32 × (Nat → Int32) => u.1) (wf := fun u : Int32 × (Nat → Int32) => [(h0, xO 7 [.int v_laws, .ref g0, .ref g1, .int v_inForce, .int v_depth, .int v_miss, .long v_ring, .int v_size, .int v_people, .ref h1, .int v_seed, .int v_taped, .ref g2, .int v_from, .int v_to, .int v_token, .int v_value, .ref g3, .ref g4, .ref g5, .ref h2, .int v_imaged, .ref g6, .long v_oldRing, .ref g7, .long v_aheadRing, .ref g8]), (h1, xI X 10 v_ages), (h2, xI X 7 u.2)]) hC hr hlk trivial hf hH rfl rfl dX7_sum_28
    · have hf := xe c3 hf
      refine lv_aload_n hx hb dX7_sum_14 rfl (lv_at hl 0 rfl) ?_
      refine lv_iload_n hx hb dX7_sum_15 rfl (lv_at hl 1 rfl) ?_
      obtain ⟨u5, hf5, hf⟩ := xb hf
      refine x_ran (x_runV (q0 := 0) (rest := []) (As := [.int p1]) hC mw_1145 md_X7_ageOf (c_X7_ageOf (X := X) hf5) hH [0, 1] rfl (by decide) rfl rfl rfl hl.1 rfl rfl (Nat.le_of_ble_eq_true rfl) dX7_sum_16 ⟨Nat.le_of_ble_eq_true rfl, Nat.le_of_ble_eq_true rfl⟩ ⟨rfl, rfl⟩ ⟨Nat.le_refl _, Nat.le_refl _⟩) rfl (fun hz5 => ?_)
      refine lv_goto (tgt := 28) hx hb dX7_sum_19 (by decide) ?_
      exact x_retiw (φ := fun _ => True) (f := fun u : Int32 × (Nat → Int32) => u.1) (wf := fun u : Int32 × (Nat → Int32) => [(h0, xO 7 [.int v_laws, .ref g0, .ref g1, .int v_inForce, .int v_depth, .int v_miss, .long v_ring, .int v_size, .int v_people, .ref h1, .int v_seed, .int v_taped, .ref g2, .int v_from, .int v_to, .int v_token, .int v_value, .ref g3, .ref g4, .ref g5, .ref h2, .int v_imaged, .ref g6, .long v_oldRing, .ref g7, .long v_aheadRing, .ref g8]), (h1, xI X 10 v_ages), (h2, xI X 7 u.2)]) hC hr hlk trivial hf hH rfl rfl dX7_sum_28
def f_X7_reached_L73 (v_refusals : (Nat → Int32)) (p1 : Int32) (s42 : Int32 × (Nat → Int32)) (s73 : Int32 × Int32) : Option ((((Int32 × (Nat → Int32) × (Nat → Int32)) ⊕ (Int32 × (Nat → Int32))) ⊕ (Int32 × (Nat → Int32))) ⊕ (Int32 × Int32)) :=
  if p1 < s73.2 then
    some (.inl (.inl (.inl (s73.1, v_refusals, s42.2))))
  else
  if xout s73.2 1000 then none else
  if (s42.2 (xat s73.2)) = (nI 0) then
    some (.inr (s73.1, s73.2 + (nI 1)))
  else
  some (.inr (s73.1 + (nI 1), s73.2 + (nI 1)))
def f_X7_reached_L42 (v_people : Int32) (v_ages : (Nat → Int32)) (v_refusals : (Nat → Int32)) (p1 : Int32) (s42 : Int32 × (Nat → Int32)) : Option (((Int32 × (Nat → Int32) × (Nat → Int32)) ⊕ (Int32 × (Nat → Int32))) ⊕ (Int32 × (Nat → Int32))) :=
  if (xshl (nI 1) v_people) ≤ s42.1 then
    xloop (f_X7_reached_L73 v_refusals p1 s42) xN ((nI 0), (nI 0))
  else
  (f_X7_ageOf v_people v_ages s42.1).bind fun u8 =>
  if xout u8 1000 then none else
  some (.inr (s42.1 + (nI 1), upd s42.2 (xat u8) (nI 1)))
def f_X7_reached_L20 (v_people : Int32) (v_ages : (Nat → Int32)) (v_refusals : (Nat → Int32)) (p1 : Int32) (s20 : Int32 × (Nat → Int32)) : Option ((Int32 × (Nat → Int32) × (Nat → Int32)) ⊕ (Int32 × (Nat → Int32))) :=
  if (nI 1000) ≤ s20.1 then
    xloop (f_X7_reached_L42 v_people v_ages v_refusals p1) xN ((nI 0), s20.2)
  else
  if xout s20.1 1000 then none else
  some (.inr (s20.1 + (nI 1), upd s20.2 (xat s20.1) (nI 0)))
def f_X7_reached (v_people : Int32) (v_ages : (Nat → Int32)) (v_refusals : (Nat → Int32)) (v_sums : (Nat → Int32)) (p1 : Int32) : Option (Int32 × (Nat → Int32) × (Nat → Int32)) :=
  (f_X7_within p1 (nI 0) (nI 999)).bind fun u1 =>
  if u1 = (nI 0) then
    (f_X7_no v_refusals (-2 : Int32)).bind fun u11 =>
    some (u11.1, u11.2, v_sums)
  else
  xloop (f_X7_reached_L20 v_people v_ages v_refusals p1) xN ((nI 0), v_sums)
set_option maxHeartbeats 4000000 in
set_option maxRecDepth 100000 in
theorem c_X7_reached {l : Launch} {X : xG} {h0 h1 h2 h3 g0 g1 g2 g3 g4 g5 g6 g7 : Nat} {v_laws : Int32} {v_inForce : Int32} {v_depth : Int32} {v_miss : Int32} {v_ring : Int64} {v_size : Int32} {v_people : Int32} {v_seed : Int32} {v_taped : Int32} {v_from : Int32} {v_to : Int32} {v_token : Int32} {v_value : Int32} {v_imaged : Int32} {v_oldRing : Int64} {v_aheadRing : Int64} {v_ages : (Nat → Int32)} {v_refusals : (Nat → Int32)} {v_sums : (Nat → Int32)} {p1 : Int32} {u : Int32 × (Nat → Int32) × (Nat → Int32)} (hf : f_X7_reached v_people v_ages v_refusals v_sums p1 = some u) : Met l yX7_reached (xw yX7_reached cX7_reached 4 (some .int)) (xrm 2 45) (xPc [.ref h0, .int p1] X [(h0, xO 7 [.int v_laws, .ref g0, .ref g1, .int v_inForce, .int v_depth, .int v_miss, .long v_ring, .int v_size, .int v_people, .ref h1, .int v_seed, .int v_taped, .ref g2, .int v_from, .int v_to, .int v_token, .int v_value, .ref g3, .ref g4, .ref g5, .ref h2, .int v_imaged, .ref g6, .long v_oldRing, .ref g7, .long v_aheadRing, .ref h3]), (h1, xI X 10 v_ages), (h2, xI X 7 v_refusals), (h3, xZ X 1000 v_sums)]) (xQw True (.returned (some (.int u.1))) X [(h0, xO 7 [.int v_laws, .ref g0, .ref g1, .int v_inForce, .int v_depth, .int v_miss, .long v_ring, .int v_size, .int v_people, .ref h1, .int v_seed, .int v_taped, .ref g2, .int v_from, .int v_to, .int v_token, .int v_value, .ref g3, .ref g4, .ref g5, .ref h2, .int v_imaged, .ref g6, .long v_oldRing, .ref g7, .long v_aheadRing, .ref h3]), (h1, xI X 10 v_ages), (h2, xI X 7 u.2.1), (h3, xZ X 1000 u.2.2)] (xAs [(h0, xO 7 [.int v_laws, .ref g0, .ref g1, .int v_inForce, .int v_depth, .int v_miss, .long v_ring, .int v_size, .int v_people, .ref h1, .int v_seed, .int v_taped, .ref g2, .int v_from, .int v_to, .int v_token, .int v_value, .ref g3, .ref g4, .ref g5, .ref h2, .int v_imaged, .ref g6, .long v_oldRing, .ref g7, .long v_aheadRing, .ref h3]), (h1, xI X 10 v_ages), (h2, xI X 7 v_refusals), (h3, xZ X 1000 v_sums)])) 0 0 (xAs [(h0, xO 7 [.int v_laws, .ref g0, .ref g1, .int v_inForce, .int v_depth, .int v_miss, .long v_ring, .int v_size, .int v_people, .ref h1, .int v_seed, .int v_taped, .ref g2, .int v_from, .int v_to, .int v_token, .int v_value, .ref g3, .ref g4, .ref g5, .ref h2, .int v_imaged, .ref g6, .long v_oldRing, .ref g7, .long v_aheadRing, .ref h3]), (h1, xI X 10 v_ages), (h2, xI X 7 v_refusals), (h3, xZ X 1000 v_sums)]) := by
  refine xMetw (Qc := fun A => xQw True (.returned (some (.int u.1))) X [(h0, xO 7 [.int v_laws, .ref g0, .ref g1, .int v_inForce, .int v_depth, .int v_miss, .long v_ring, .int v_size, .int v_people, .ref h1, .int v_seed, .int v_taped, .ref g2, .int v_from, .int v_to, .int v_token, .int v_value, .ref g3, .ref g4, .ref g5, .ref h2, .int v_imaged, .ref g6, .long v_oldRing, .ref g7, .long v_aheadRing, .ref h3]), (h1, xI X 10 v_ages), (h2, xI X 7 u.2.1), (h3, xZ X 1000 u.2.2)] A) (n := 1) md_X7_reached.1 (Nat.le_of_ble_eq_true rfl) ?_
  intro p e s m args below meth c ls A hC hr hlk hH hl
  have hl : lv_has ls 4 [(0, .ref h0), (1, .int p1)] := hl
  have hx := hC.1
  have hb := hC.2.1
  have L20 : ∀ (n : Nat) (s20 : Int32 × (Nat → Int32)), xloop (f_X7_reached_L20 v_people v_ages v_refusals p1) n s20 = some u → ∀ (H : Heap) (locs : List Loc), xH X A [(h0, xO 7 [.int v_laws, .ref g0, .ref g1, .int v_inForce, .int v_depth, .int v_miss, .long v_ring, .int v_size, .int v_people, .ref h1, .int v_seed, .int v_taped, .ref g2, .int v_from, .int v_to, .int v_token, .int v_value, .ref g3, .ref g4, .ref g5, .ref h2, .int v_imaged, .ref g6, .long v_oldRing, .ref g7, .long v_aheadRing, .ref h3]), (h1, xI X 10 v_ages), (h2, xI X 7 v_refusals), (h3, xZ X 1000 s20.2)] s.heap H locs → ∀ (ls : Array Slot), lv_has ls 4 [(0, .ref h0), (1, .int p1), (2, .int s20.1)] → W p l e (xrm 2 45) s m args below meth c H locs 0 0 (MQ below (xQw True (.returned (some (.int u.1))) X [(h0, xO 7 [.int v_laws, .ref g0, .ref g1, .int v_inForce, .int v_depth, .int v_miss, .long v_ring, .int v_size, .int v_people, .ref h1, .int v_seed, .int v_taped, .ref g2, .int v_from, .int v_to, .int v_token, .int v_value, .ref g3, .ref g4, .ref g5, .ref h2, .int v_imaged, .ref g6, .long v_oldRing, .ref g7, .long v_aheadRing, .ref h3]), (h1, xI X 10 v_ages), (h2, xI X 7 u.2.1), (h3, xZ X 1000 u.2.2)] A) args s 0 0 A) (F0 m 20 ls []) := by
    intro  n
    induction n with
    | zero => intro s20 hf; exact xloop_0 hf
    | succ n ih20 =>
      intro s20 hf H locs hH ls hl
      obtain ⟨o20, hf, ho20⟩ := xloop_s hf
      have L42 : ∀ (n : Nat) (s42 : Int32 × (Nat → Int32)), xloop (f_X7_reached_L42 v_people v_ages v_refusals p1) n s42 = some o20 → ∀ (H : Heap) (locs : List Loc), xH X A [(h0, xO 7 [.int v_laws, .ref g0, .ref g1, .int v_inForce, .int v_depth, .int v_miss, .long v_ring, .int v_size, .int v_people, .ref h1, .int v_seed, .int v_taped, .ref g2, .int v_from, .int v_to, .int v_token, .int v_value, .ref g3, .ref g4, .ref g5, .ref h2, .int v_imaged, .ref g6, .long v_oldRing, .ref g7, .long v_aheadRing, .ref h3]), (h1, xI X 10 v_ages), (h2, xI X 7 v_refusals), (h3, xZ X 1000 s42.2)] s.heap H locs → ∀ (ls : Array Slot), lv_has ls 4 [(0, .ref h0), (1, .int p1), (2, .int s42.1)] → W p l e (xrm 2 45) s m args below meth c H locs 0 0 (MQ below (xQw True (.returned (some (.int u.1))) X [(h0, xO 7 [.int v_laws, .ref g0, .ref g1, .int v_inForce, .int v_depth, .int v_miss, .long v_ring, .int v_size, .int v_people, .ref h1, .int v_seed, .int v_taped, .ref g2, .int v_from, .int v_to, .int v_token, .int v_value, .ref g3, .ref g4, .ref g5, .ref h2, .int v_imaged, .ref g6, .long v_oldRing, .ref g7, .long v_aheadRing, .ref h3]), (h1, xI X 10 v_ages), (h2, xI X 7 u.2.1), (h3, xZ X 1000 u.2.2)] A) args s 0 0 A) (F0 m 42 ls []) := by
        intro  n
        induction n with
        | zero => intro s42 hf; exact xloop_0 hf
        | succ n ih42 =>
          intro s42 hf H locs hH ls hl
          obtain ⟨o42, hf, ho42⟩ := xloop_s hf
          have L73 : ∀ (n : Nat) (s73 : Int32 × Int32), xloop (f_X7_reached_L73 v_refusals p1 s42) n s73 = some o42 → ∀ (H : Heap) (locs : List Loc), xH X A [(h0, xO 7 [.int v_laws, .ref g0, .ref g1, .int v_inForce, .int v_depth, .int v_miss, .long v_ring, .int v_size, .int v_people, .ref h1, .int v_seed, .int v_taped, .ref g2, .int v_from, .int v_to, .int v_token, .int v_value, .ref g3, .ref g4, .ref g5, .ref h2, .int v_imaged, .ref g6, .long v_oldRing, .ref g7, .long v_aheadRing, .ref h3]), (h1, xI X 10 v_ages), (h2, xI X 7 v_refusals), (h3, xZ X 1000 s42.2)] s.heap H locs → ∀ (ls : Array Slot), lv_has ls 4 [(0, .ref h0), (1, .int p1), (2, .int s73.1), (3, .int s73.2)] → W p l e (xrm 2 45) s m args below meth c H locs 0 0 (MQ below (xQw True (.returned (some (.int u.1))) X [(h0, xO 7 [.int v_laws, .ref g0, .ref g1, .int v_inForce, .int v_depth, .int v_miss, .long v_ring, .int v_size, .int v_people, .ref h1, .int v_seed, .int v_taped, .ref g2, .int v_from, .int v_to, .int v_token, .int v_value, .ref g3, .ref g4, .ref g5, .ref h2, .int v_imaged, .ref g6, .long v_oldRing, .ref g7, .long v_aheadRing, .ref h3]), (h1, xI X 10 v_ages), (h2, xI X 7 u.2.1), (h3, xZ X 1000 u.2.2)] A) args s 0 0 A) (F0 m 73 ls []) := by
            intro  n
            induction n with
            | zero => intro s73 hf; exact xloop_0 hf
            | succ n ih73 =>
              intro s73 hf H locs hH ls hl
              obtain ⟨o73, hf, ho73⟩ := xloop_s hf
              refine lv_iload_n hx hb dX7_reached_73 rfl (lv_at hl 3 rfl) ?_
              refine lv_iload_n hx hb dX7_reached_74 rfl (lv_at hl 1 rfl) ?_
              refine lv_icmp_gt (tgt := 96) hx hb dX7_reached_75 (by decide) (fun c5 => ?_) (fun c5 => ?_)
              · have hf := xt c5 hf
                refine lv_iload_n hx hb dX7_reached_96 rfl (lv_at hl 2 rfl) ?_
                have hf := xo_ret hf ho73
                have hf := xo_ret hf ho42
                have hf := xo_ret hf ho20
                exact x_retiw (φ := fun _ => True) (f := fun u : Int32 × (Nat → Int32) × (Nat → Int32) => u.1) (wf := fun u : Int32 × (Nat → Int32) × (Nat → Int32) => [(h0, xO 7 [.int v_laws, .ref g0, .ref g1, .int v_inForce, .int v_depth, .int v_miss, .long v_ring, .int v_size, .int v_people, .ref h1, .int v_seed, .int v_taped, .ref g2, .int v_from, .int v_to, .int v_token, .int v_value, .ref g3, .ref g4, .ref g5, .ref h2, .int v_imaged, .ref g6, .long v_oldRing, .ref g7, .long v_aheadRing, .ref h3]), (h1, xI X 10 v_ages), (h2, xI X 7 u.2.1), (h3, xZ X 1000 u.2.2)]) hC hr hlk trivial hf hH rfl rfl dX7_reached_97
              · have hf := xe c5 hf
                refine lv_aload_n hx hb dX7_reached_78 rfl (lv_at hl 0 rfl) ?_
                refine x_get hC fd_RX7_41 hH.1 0 rfl rfl dX7_reached_79 ?_
                refine lv_iload_n hx hb dX7_reached_82 rfl (lv_at hl 3 rfl) ?_
                obtain ⟨n6, hf⟩ := xok hf
                refine x_zald hC hH.1 3 rfl n6 dX7_reached_83 ?_
                refine lv_if_eq (tgt := 90) hx hb dX7_reached_84 (by decide) (fun c7 => ?_) (fun c7 => ?_)
                · have hf := xt c7 hf
                  refine lv_iinc (v := s73.2 + (nI 1)) (lv' := [(3, .int (s73.2 + (nI 1))), (0, .ref h0), (1, .int p1), (2, .int s73.1)]) hx hb dX7_reached_90 hl (k := 3) rfl rfl (by decide) rfl (fun ls hl => ?_)
                  refine lv_goto (tgt := 73) hx hb dX7_reached_93 (by decide) ?_
                  have hf := xo_go hf ho73
                  exact ih73 (s73.1, s73.2 + (nI 1)) hf _ _ hH ls (lv_sub hl [1, 2, 3, 0] rfl)
                · have hf := xe c7 hf
                  refine lv_iinc (v := s73.1 + (nI 1)) (lv' := [(2, .int (s73.1 + (nI 1))), (0, .ref h0), (1, .int p1), (3, .int s73.2)]) hx hb dX7_reached_87 hl (k := 2) rfl rfl (by decide) rfl (fun ls hl => ?_)
                  refine lv_iinc (v := s73.2 + (nI 1)) (lv' := [(3, .int (s73.2 + (nI 1))), (2, .int (s73.1 + (nI 1))), (0, .ref h0), (1, .int p1)]) hx hb dX7_reached_90 hl (k := 3) rfl rfl (by decide) rfl (fun ls hl => ?_)
                  refine lv_goto (tgt := 73) hx hb dX7_reached_93 (by decide) ?_
                  have hf := xo_go hf ho73
                  exact ih73 (s73.1 + (nI 1), s73.2 + (nI 1)) hf _ _ hH ls (lv_sub hl [2, 3, 1, 0] rfl)
          refine lv_iload_n hx hb dX7_reached_42 rfl (lv_at hl 2 rfl) ?_
          refine lv_iconst (v := (nI 1)) hx hb dX7_reached_43 (by decide) ?_
          refine lv_aload_n hx hb dX7_reached_44 rfl (lv_at hl 0 rfl) ?_
          refine x_get hC fd_RX7_59 hH.1 0 rfl rfl dX7_reached_45 ?_
          refine x_ishl hx hb dX7_reached_48 ?_
          refine lv_icmp_ge (tgt := 69) hx hb dX7_reached_49 (by decide) (fun c4 => ?_) (fun c4 => ?_)
          · have hf := xt c4 hf
            refine lv_iconst (v := (nI 0)) hx hb dX7_reached_69 (by decide) ?_
            refine lv_istore_n (lv' := [(2, .int (nI 0)), (0, .ref h0), (1, .int p1)]) hx hb dX7_reached_70 rfl hl (by decide) rfl (fun ls hl => ?_)
            refine lv_iconst (v := (nI 0)) hx hb dX7_reached_71 (by decide) ?_
            refine lv_istore_n (lv' := [(3, .int (nI 0)), (2, .int (nI 0)), (0, .ref h0), (1, .int p1)]) hx hb dX7_reached_72 rfl hl (by decide) rfl (fun ls hl => ?_)
            exact L73 xN ((nI 0), (nI 0)) hf _ _ hH ls (lv_sub hl [2, 3, 1, 0] rfl)
          · have hf := xe c4 hf
            refine lv_aload_n hx hb dX7_reached_52 rfl (lv_at hl 0 rfl) ?_
            refine x_get hC fd_RX7_41 hH.1 0 rfl rfl dX7_reached_53 ?_
            refine lv_aload_n hx hb dX7_reached_56 rfl (lv_at hl 0 rfl) ?_
            refine lv_iload_n hx hb dX7_reached_57 rfl (lv_at hl 2 rfl) ?_
            obtain ⟨u8, hf8, hf⟩ := xb hf
            refine x_ran (x_runV (q0 := 0) (rest := [.ref h3]) (As := [.int s42.1]) hC mw_1145 md_X7_ageOf (c_X7_ageOf (X := X) hf8) hH [0, 1] rfl (by decide) rfl rfl rfl hl.1 rfl rfl (Nat.le_of_ble_eq_true rfl) dX7_reached_58 ⟨Nat.le_of_ble_eq_true rfl, Nat.le_of_ble_eq_true rfl⟩ ⟨rfl, rfl⟩ ⟨Nat.le_refl _, Nat.le_refl _⟩) rfl (fun hz8 => ?_)
            refine lv_iconst (v := (nI 1)) hx hb dX7_reached_61 (by decide) ?_
            obtain ⟨n9, hf⟩ := xok hf
            refine x_zast (ws' := [(h0, xO 7 [.int v_laws, .ref g0, .ref g1, .int v_inForce, .int v_depth, .int v_miss, .long v_ring, .int v_size, .int v_people, .ref h1, .int v_seed, .int v_taped, .ref g2, .int v_from, .int v_to, .int v_token, .int v_value, .ref g3, .ref g4, .ref g5, .ref h2, .int v_imaged, .ref g6, .long v_oldRing, .ref g7, .long v_aheadRing, .ref h3]), (h1, xI X 10 v_ages), (h2, xI X 7 v_refusals), (h3, xZ X 1000 (upd s42.2 (xat u8) (nI 1)))]) hC hH 3 rfl n9 (by decide) dX7_reached_62 rfl (fun H locs hH => ?_)
            refine lv_iinc (v := s42.1 + (nI 1)) (lv' := [(2, .int (s42.1 + (nI 1))), (0, .ref h0), (1, .int p1)]) hx hb dX7_reached_63 hl (k := 2) rfl rfl (by decide) rfl (fun ls hl => ?_)
            refine lv_goto (tgt := 42) hx hb dX7_reached_66 (by decide) ?_
            have hf := xo_go hf ho42
            exact ih42 (s42.1 + (nI 1), upd s42.2 (xat u8) (nI 1)) hf _ _ hH ls (lv_sub hl [1, 2, 0] rfl)
      refine lv_iload_n hx hb dX7_reached_20 rfl (lv_at hl 2 rfl) ?_
      refine lv_sipush (v := (nI 1000)) hx hb dX7_reached_21 (by decide) ?_
      refine lv_icmp_ge (tgt := 40) hx hb dX7_reached_24 (by decide) (fun c3 => ?_) (fun c3 => ?_)
      · have hf := xt c3 hf
        refine lv_iconst (v := (nI 0)) hx hb dX7_reached_40 (by decide) ?_
        refine lv_istore_n (lv' := [(2, .int (nI 0)), (0, .ref h0), (1, .int p1)]) hx hb dX7_reached_41 rfl hl (by decide) rfl (fun ls hl => ?_)
        exact L42 xN ((nI 0), s20.2) hf _ _ hH ls (lv_sub hl [1, 2, 0] rfl)
      · have hf := xe c3 hf
        refine lv_aload_n hx hb dX7_reached_27 rfl (lv_at hl 0 rfl) ?_
        refine x_get hC fd_RX7_41 hH.1 0 rfl rfl dX7_reached_28 ?_
        refine lv_iload_n hx hb dX7_reached_31 rfl (lv_at hl 2 rfl) ?_
        refine lv_iconst (v := (nI 0)) hx hb dX7_reached_32 (by decide) ?_
        obtain ⟨n10, hf⟩ := xok hf
        refine x_zast (ws' := [(h0, xO 7 [.int v_laws, .ref g0, .ref g1, .int v_inForce, .int v_depth, .int v_miss, .long v_ring, .int v_size, .int v_people, .ref h1, .int v_seed, .int v_taped, .ref g2, .int v_from, .int v_to, .int v_token, .int v_value, .ref g3, .ref g4, .ref g5, .ref h2, .int v_imaged, .ref g6, .long v_oldRing, .ref g7, .long v_aheadRing, .ref h3]), (h1, xI X 10 v_ages), (h2, xI X 7 v_refusals), (h3, xZ X 1000 (upd s20.2 (xat s20.1) (nI 0)))]) hC hH 3 rfl n10 (by decide) dX7_reached_33 rfl (fun H locs hH => ?_)
        refine lv_iinc (v := s20.1 + (nI 1)) (lv' := [(2, .int (s20.1 + (nI 1))), (0, .ref h0), (1, .int p1)]) hx hb dX7_reached_34 hl (k := 2) rfl rfl (by decide) rfl (fun ls hl => ?_)
        refine lv_goto (tgt := 20) hx hb dX7_reached_37 (by decide) ?_
        have hf := xo_go hf ho20
        exact ih20 (s20.1 + (nI 1), upd s20.2 (xat s20.1) (nI 0)) hf _ _ hH ls (lv_sub hl [1, 2, 0] rfl)
  refine lv_iload_n hx hb dX7_reached_0 rfl (lv_at hl 1 rfl) ?_
  refine lv_iconst (v := (nI 0)) hx hb dX7_reached_1 (by decide) ?_
  refine lv_sipush (v := (nI 999)) hx hb dX7_reached_2 (by decide) ?_
  obtain ⟨u1, hf1, hf⟩ := xb hf
  refine x_ran (x_runS (rest := []) (As := [.int p1, .int (nI 0), .int (nI 999)]) hC mw_140 md_X7_within (c_X7_within (X := X) hf1) hH [] rfl (by decide) hl.1 rfl rfl (Nat.le_of_ble_eq_true rfl) dX7_reached_5 ⟨Nat.le_of_ble_eq_true rfl, Nat.le_of_ble_eq_true rfl⟩ ⟨rfl, rfl⟩ ⟨Nat.le_refl _, Nat.le_refl _⟩) rfl (fun hz1 => ?_)
  refine lv_if_ne (tgt := 18) hx hb dX7_reached_8 (by decide) (fun c2 => ?_) (fun c2 => ?_)
  · have hf := xe c2 hf
    refine lv_iconst (v := (nI 0)) hx hb dX7_reached_18 (by decide) ?_
    refine lv_istore_n (lv' := [(2, .int (nI 0)), (0, .ref h0), (1, .int p1)]) hx hb dX7_reached_19 rfl hl (by decide) rfl (fun ls hl => ?_)
    exact L20 xN ((nI 0), v_sums) hf _ _ hH ls (lv_sub hl [1, 2, 0] rfl)
  · have hf := xt c2 hf
    refine lv_aload_n hx hb dX7_reached_11 rfl (lv_at hl 0 rfl) ?_
    refine lv_bipush (v := (-2 : Int32)) hx hb dX7_reached_12 (by decide) ?_
    obtain ⟨u11, hf11, hf⟩ := xb hf
    refine x_ranw (ws' := [(h0, xO 7 [.int v_laws, .ref g0, .ref g1, .int v_inForce, .int v_depth, .int v_miss, .long v_ring, .int v_size, .int v_people, .ref h1, .int v_seed, .int v_taped, .ref g2, .int v_from, .int v_to, .int v_token, .int v_value, .ref g3, .ref g4, .ref g5, .ref h2, .int v_imaged, .ref g6, .long v_oldRing, .ref g7, .long v_aheadRing, .ref h3]), (h1, xI X 10 v_ages), (h2, xI X 7 u11.2), (h3, xZ X 1000 v_sums)]) (x_runV (q0 := 0) (rest := []) (As := [.int (-2 : Int32)]) hC mw_143 md_X7_no (c_X7_no (X := X) hf11) hH [0, 2] rfl (by decide) rfl rfl rfl hl.1 rfl rfl (Nat.le_of_ble_eq_true rfl) dX7_reached_14 ⟨Nat.le_of_ble_eq_true rfl, Nat.le_of_ble_eq_true rfl⟩ ⟨rfl, rfl⟩ ⟨Nat.le_refl _, Nat.le_refl _⟩) hH [0, 2] rfl rfl rfl rfl rfl (fun hz11 H locs hH => ?_)
    exact x_retiw (φ := fun _ => True) (f := fun u : Int32 × (Nat → Int32) × (Nat → Int32) => u.1) (wf := fun u : Int32 × (Nat → Int32) × (Nat → Int32) => [(h0, xO 7 [.int v_laws, .ref g0, .ref g1, .int v_inForce, .int v_depth, .int v_miss, .long v_ring, .int v_size, .int v_people, .ref h1, .int v_seed, .int v_taped, .ref g2, .int v_from, .int v_to, .int v_token, .int v_value, .ref g3, .ref g4, .ref g5, .ref h2, .int v_imaged, .ref g6, .long v_oldRing, .ref g7, .long v_aheadRing, .ref h3]), (h1, xI X 10 v_ages), (h2, xI X 7 u.2.1), (h3, xZ X 1000 u.2.2)]) hC hr hlk trivial hf hH rfl rfl dX7_reached_17
def f_X7_halves_L17 (v_people : Int32) (v_ages : (Nat → Int32)) (x17_1 : Int32) (s17 : Int32 × Int32) : Option ((Int32) ⊕ (Int32 × Int32)) :=
  if (xshl (nI 1) v_people) ≤ s17.2 then
    some (.inl s17.1)
  else
  (f_X7_ageOf v_people v_ages s17.2).bind fun u3 =>
  (f_X7_ageOf v_people v_ages s17.1).bind fun u4 =>
  if (xabs (((nI 2) * u4) - x17_1)) ≤ (xabs (((nI 2) * u3) - x17_1)) then
    some (.inr (s17.1, s17.2 + (nI 1)))
  else
  some (.inr (s17.2, s17.2 + (nI 1)))
def f_X7_halves (v_people : Int32) (v_ages : (Nat → Int32)) : Option (Int32) :=
  (f_X7_ageOf v_people v_ages ((xshl (nI 1) v_people) - (nI 1))).bind fun u1 =>
  xloop (f_X7_halves_L17 v_people v_ages u1) xN ((nI 0), (nI 1))
set_option maxHeartbeats 4000000 in
set_option maxRecDepth 100000 in
theorem c_X7_halves {l : Launch} {X : xG} {h0 h1 g0 g1 g2 g3 g4 g5 g6 g7 g8 g9 : Nat} {v_laws : Int32} {v_inForce : Int32} {v_depth : Int32} {v_miss : Int32} {v_ring : Int64} {v_size : Int32} {v_people : Int32} {v_seed : Int32} {v_taped : Int32} {v_from : Int32} {v_to : Int32} {v_token : Int32} {v_value : Int32} {v_imaged : Int32} {v_oldRing : Int64} {v_aheadRing : Int64} {v_ages : (Nat → Int32)} {u : Int32} (hf : f_X7_halves v_people v_ages = some u) : Met l yX7_halves (xw yX7_halves cX7_halves 4 (some .int)) (xrm 2 45) (xPc [.ref h0] X [(h0, xO 7 [.int v_laws, .ref g0, .ref g1, .int v_inForce, .int v_depth, .int v_miss, .long v_ring, .int v_size, .int v_people, .ref h1, .int v_seed, .int v_taped, .ref g2, .int v_from, .int v_to, .int v_token, .int v_value, .ref g3, .ref g4, .ref g5, .ref g6, .int v_imaged, .ref g7, .long v_oldRing, .ref g8, .long v_aheadRing, .ref g9]), (h1, xI X 10 v_ages)]) (xQ True (.returned (some (.int u)))) 0 0 xNo := by
  refine xMet (n := 0) md_X7_halves.1 (Nat.le_of_ble_eq_true rfl) ?_
  intro p e s m args below meth c ls A hC hr hlk hH hl
  have hl : lv_has ls 4 [(0, .ref h0)] := hl
  have hx := hC.1
  have hb := hC.2.1
  have L17 : ∀ (x17_1 : Int32) (n : Nat) (s17 : Int32 × Int32), xloop (f_X7_halves_L17 v_people v_ages x17_1) n s17 = some u → ∀ (ls : Array Slot), lv_has ls 4 [(0, .ref h0), (1, .int x17_1), (2, .int s17.1), (3, .int s17.2)] → W p l e (xrm 2 45) s m args below meth c s.heap [] 0 0 (MQ below (xQ True (.returned (some (.int u)))) args s 0 0 xNo) (F0 m 17 ls []) := by
    intro x17_1 n
    induction n with
    | zero => intro s17 hf; exact xloop_0 hf
    | succ n ih17 =>
      intro s17 hf ls hl
      obtain ⟨o17, hf, ho17⟩ := xloop_s hf
      refine lv_iload_n hx hb dX7_halves_17 rfl (lv_at hl 3 rfl) ?_
      refine lv_iconst (v := (nI 1)) hx hb dX7_halves_18 (by decide) ?_
      refine lv_aload_n hx hb dX7_halves_19 rfl (lv_at hl 0 rfl) ?_
      refine x_get hC fd_RX7_59 hH.1 0 rfl rfl dX7_halves_20 ?_
      refine x_ishl hx hb dX7_halves_23 ?_
      refine lv_icmp_ge (tgt := 62) hx hb dX7_halves_24 (by decide) (fun c2 => ?_) (fun c2 => ?_)
      · have hf := xt c2 hf
        refine lv_iload_n hx hb dX7_halves_62 rfl (lv_at hl 2 rfl) ?_
        have hf := xo_ret hf ho17
        exact x_reti hC hr hlk trivial hf dX7_halves_63
      · have hf := xe c2 hf
        refine lv_iconst (v := (nI 2)) hx hb dX7_halves_27 (by decide) ?_
        refine lv_aload_n hx hb dX7_halves_28 rfl (lv_at hl 0 rfl) ?_
        refine lv_iload_n hx hb dX7_halves_29 rfl (lv_at hl 3 rfl) ?_
        obtain ⟨u3, hf3, hf⟩ := xb hf
        refine x_ran (x_runV (q0 := 0) (rest := [.int (nI 2)]) (As := [.int s17.2]) hC mw_1145 md_X7_ageOf (c_X7_ageOf (X := X) hf3) hH [0, 1] rfl (by decide) rfl rfl rfl hl.1 rfl rfl (Nat.le_of_ble_eq_true rfl) dX7_halves_30 ⟨Nat.le_of_ble_eq_true rfl, Nat.le_of_ble_eq_true rfl⟩ ⟨rfl, rfl⟩ ⟨Nat.le_refl _, Nat.le_refl _⟩) rfl (fun hz3 => ?_)
        refine lv_imul hx hb dX7_halves_33 ?_
        refine lv_iload_n hx hb dX7_halves_34 rfl (lv_at hl 1 rfl) ?_
        refine lv_isub hx hb dX7_halves_35 ?_
        refine x_abs hC hl.1 mw_1202 mw_1192 mw_477 mw_1193 (Nat.le_of_ble_eq_true rfl) (Nat.le_of_ble_eq_true rfl) (Nat.le_refl _) (Nat.le_refl _) dX7_halves_36 ?_
        refine lv_iconst (v := (nI 2)) hx hb dX7_halves_39 (by decide) ?_
        refine lv_aload_n hx hb dX7_halves_40 rfl (lv_at hl 0 rfl) ?_
        refine lv_iload_n hx hb dX7_halves_41 rfl (lv_at hl 2 rfl) ?_
        obtain ⟨u4, hf4, hf⟩ := xb hf
        refine x_ran (x_runV (q0 := 0) (rest := [.int (nI 2), .int (xabs (((nI 2) * u3) - x17_1))]) (As := [.int s17.1]) hC mw_1145 md_X7_ageOf (c_X7_ageOf (X := X) hf4) hH [0, 1] rfl (by decide) rfl rfl rfl hl.1 rfl rfl (Nat.le_of_ble_eq_true rfl) dX7_halves_42 ⟨Nat.le_of_ble_eq_true rfl, Nat.le_of_ble_eq_true rfl⟩ ⟨rfl, rfl⟩ ⟨Nat.le_refl _, Nat.le_refl _⟩) rfl (fun hz4 => ?_)
        refine lv_imul hx hb dX7_halves_45 ?_
        refine lv_iload_n hx hb dX7_halves_46 rfl (lv_at hl 1 rfl) ?_
        refine lv_isub hx hb dX7_halves_47 ?_
        refine x_abs hC hl.1 mw_1202 mw_1192 mw_477 mw_1193 (Nat.le_of_ble_eq_true rfl) (Nat.le_of_ble_eq_true rfl) (Nat.le_refl _) (Nat.le_refl _) dX7_halves_48 ?_
        refine lv_icmp_ge (tgt := 56) hx hb dX7_halves_51 (by decide) (fun c5 => ?_) (fun c5 => ?_)
        · have hf := xt c5 hf
          refine lv_iinc (v := s17.2 + (nI 1)) (lv' := [(3, .int (s17.2 + (nI 1))), (0, .ref h0), (1, .int x17_1), (2, .int s17.1)]) hx hb dX7_halves_56 hl (k := 3) rfl rfl (by decide) rfl (fun ls hl => ?_)
          refine lv_goto (tgt := 17) hx hb dX7_halves_59 (by decide) ?_
          have hf := xo_go hf ho17
          exact ih17 (s17.1, s17.2 + (nI 1)) hf ls (lv_sub hl [1, 2, 3, 0] rfl)
        · have hf := xe c5 hf
          refine lv_iload_n hx hb dX7_halves_54 rfl (lv_at hl 3 rfl) ?_
          refine lv_istore_n (lv' := [(2, .int s17.2), (0, .ref h0), (1, .int x17_1), (3, .int s17.2)]) hx hb dX7_halves_55 rfl hl (by decide) rfl (fun ls hl => ?_)
          refine lv_iinc (v := s17.2 + (nI 1)) (lv' := [(3, .int (s17.2 + (nI 1))), (2, .int s17.2), (0, .ref h0), (1, .int x17_1)]) hx hb dX7_halves_56 hl (k := 3) rfl rfl (by decide) rfl (fun ls hl => ?_)
          refine lv_goto (tgt := 17) hx hb dX7_halves_59 (by decide) ?_
          have hf := xo_go hf ho17
          exact ih17 (s17.2, s17.2 + (nI 1)) hf ls (lv_sub hl [2, 3, 1, 0] rfl)
  refine lv_aload_n hx hb dX7_halves_0 rfl (lv_at hl 0 rfl) ?_
  refine lv_iconst (v := (nI 1)) hx hb dX7_halves_1 (by decide) ?_
  refine lv_aload_n hx hb dX7_halves_2 rfl (lv_at hl 0 rfl) ?_
  refine x_get hC fd_RX7_59 hH.1 0 rfl rfl dX7_halves_3 ?_
  refine x_ishl hx hb dX7_halves_6 ?_
  refine lv_iconst (v := (nI 1)) hx hb dX7_halves_7 (by decide) ?_
  refine lv_isub hx hb dX7_halves_8 ?_
  obtain ⟨u1, hf1, hf⟩ := xb hf
  refine x_ran (x_runV (q0 := 0) (rest := []) (As := [.int ((xshl (nI 1) v_people) - (nI 1))]) hC mw_1145 md_X7_ageOf (c_X7_ageOf (X := X) hf1) hH [0, 1] rfl (by decide) rfl rfl rfl hl.1 rfl rfl (Nat.le_of_ble_eq_true rfl) dX7_halves_9 ⟨Nat.le_of_ble_eq_true rfl, Nat.le_of_ble_eq_true rfl⟩ ⟨rfl, rfl⟩ ⟨Nat.le_refl _, Nat.le_refl _⟩) rfl (fun hz1 => ?_)
  refine lv_istore_n (lv' := [(1, .int u1), (0, .ref h0)]) hx hb dX7_halves_12 rfl hl (by decide) rfl (fun ls hl => ?_)
  refine lv_iconst (v := (nI 0)) hx hb dX7_halves_13 (by decide) ?_
  refine lv_istore_n (lv' := [(2, .int (nI 0)), (1, .int u1), (0, .ref h0)]) hx hb dX7_halves_14 rfl hl (by decide) rfl (fun ls hl => ?_)
  refine lv_iconst (v := (nI 1)) hx hb dX7_halves_15 (by decide) ?_
  refine lv_istore_n (lv' := [(3, .int (nI 1)), (2, .int (nI 0)), (1, .int u1), (0, .ref h0)]) hx hb dX7_halves_16 rfl hl (by decide) rfl (fun ls hl => ?_)
  exact L17 u1 xN ((nI 0), (nI 1)) hf ls (lv_sub hl [3, 2, 1, 0] rfl)
def f_X7_ranked_L30 (v_people : Int32) (v_ages : (Nat → Int32)) (v_refusals : (Nat → Int32)) (p1 : Int32) (s17 : Int32) (s30 : Int32 × Int32) : Option (((Int32 × (Nat → Int32)) ⊕ (Int32)) ⊕ (Int32 × Int32)) :=
  if v_people ≤ s30.2 then
    if s30.1 = p1 then
      some (.inl (.inl (s17, v_refusals)))
    else
    some (.inl (.inr (s17 + (nI 1))))
  else
  if xout s30.2 10 then none else
  if xout s17 10 then none else
  if (v_ages (xat s30.2)) < (v_ages (xat s17)) then
    some (.inr (s30.1 + (nI 1), s30.2 + (nI 1)))
  else
  if xout s30.2 10 then none else
  if xout s17 10 then none else
  if (v_ages (xat s30.2)) = (v_ages (xat s17)) then
    if s17 ≤ s30.2 then
      some (.inr (s30.1, s30.2 + (nI 1)))
    else
    some (.inr (s30.1 + (nI 1), s30.2 + (nI 1)))
  else
  some (.inr (s30.1, s30.2 + (nI 1)))
def f_X7_ranked_L17 (v_people : Int32) (v_ages : (Nat → Int32)) (v_refusals : (Nat → Int32)) (p1 : Int32) (s17 : Int32) : Option ((Int32 × (Nat → Int32)) ⊕ (Int32)) :=
  if v_people ≤ s17 then
    some (.inl ((-1 : Int32), v_refusals))
  else
  xloop (f_X7_ranked_L30 v_people v_ages v_refusals p1 s17) xN ((nI 0), (nI 0))
def f_X7_ranked (v_people : Int32) (v_ages : (Nat → Int32)) (v_refusals : (Nat → Int32)) (p1 : Int32) : Option (Int32 × (Nat → Int32)) :=
  (f_X7_isOne v_people p1).bind fun u1 =>
  if u1 = (nI 0) then
    (f_X7_no v_refusals (-2 : Int32)).bind fun u13 =>
    some (u13.1, u13.2)
  else
  xloop (f_X7_ranked_L17 v_people v_ages v_refusals p1) xN (nI 0)
set_option maxHeartbeats 4000000 in
set_option maxRecDepth 100000 in
theorem c_X7_ranked {l : Launch} {X : xG} {h0 h1 h2 g0 g1 g2 g3 g4 g5 g6 g7 g8 : Nat} {v_laws : Int32} {v_inForce : Int32} {v_depth : Int32} {v_miss : Int32} {v_ring : Int64} {v_size : Int32} {v_people : Int32} {v_seed : Int32} {v_taped : Int32} {v_from : Int32} {v_to : Int32} {v_token : Int32} {v_value : Int32} {v_imaged : Int32} {v_oldRing : Int64} {v_aheadRing : Int64} {v_ages : (Nat → Int32)} {v_refusals : (Nat → Int32)} {p1 : Int32} {u : Int32 × (Nat → Int32)} (hf : f_X7_ranked v_people v_ages v_refusals p1 = some u) : Met l yX7_ranked (xw yX7_ranked cX7_ranked 5 (some .int)) (xrm 2 43) (xPc [.ref h0, .int p1] X [(h0, xO 7 [.int v_laws, .ref g0, .ref g1, .int v_inForce, .int v_depth, .int v_miss, .long v_ring, .int v_size, .int v_people, .ref h1, .int v_seed, .int v_taped, .ref g2, .int v_from, .int v_to, .int v_token, .int v_value, .ref g3, .ref g4, .ref g5, .ref h2, .int v_imaged, .ref g6, .long v_oldRing, .ref g7, .long v_aheadRing, .ref g8]), (h1, xI X 10 v_ages), (h2, xI X 7 v_refusals)]) (xQw True (.returned (some (.int u.1))) X [(h0, xO 7 [.int v_laws, .ref g0, .ref g1, .int v_inForce, .int v_depth, .int v_miss, .long v_ring, .int v_size, .int v_people, .ref h1, .int v_seed, .int v_taped, .ref g2, .int v_from, .int v_to, .int v_token, .int v_value, .ref g3, .ref g4, .ref g5, .ref h2, .int v_imaged, .ref g6, .long v_oldRing, .ref g7, .long v_aheadRing, .ref g8]), (h1, xI X 10 v_ages), (h2, xI X 7 u.2)] (xAs [(h0, xO 7 [.int v_laws, .ref g0, .ref g1, .int v_inForce, .int v_depth, .int v_miss, .long v_ring, .int v_size, .int v_people, .ref h1, .int v_seed, .int v_taped, .ref g2, .int v_from, .int v_to, .int v_token, .int v_value, .ref g3, .ref g4, .ref g5, .ref h2, .int v_imaged, .ref g6, .long v_oldRing, .ref g7, .long v_aheadRing, .ref g8]), (h1, xI X 10 v_ages), (h2, xI X 7 v_refusals)])) 0 0 (xAs [(h0, xO 7 [.int v_laws, .ref g0, .ref g1, .int v_inForce, .int v_depth, .int v_miss, .long v_ring, .int v_size, .int v_people, .ref h1, .int v_seed, .int v_taped, .ref g2, .int v_from, .int v_to, .int v_token, .int v_value, .ref g3, .ref g4, .ref g5, .ref h2, .int v_imaged, .ref g6, .long v_oldRing, .ref g7, .long v_aheadRing, .ref g8]), (h1, xI X 10 v_ages), (h2, xI X 7 v_refusals)]) := by
  refine xMetw (Qc := fun A => xQw True (.returned (some (.int u.1))) X [(h0, xO 7 [.int v_laws, .ref g0, .ref g1, .int v_inForce, .int v_depth, .int v_miss, .long v_ring, .int v_size, .int v_people, .ref h1, .int v_seed, .int v_taped, .ref g2, .int v_from, .int v_to, .int v_token, .int v_value, .ref g3, .ref g4, .ref g5, .ref h2, .int v_imaged, .ref g6, .long v_oldRing, .ref g7, .long v_aheadRing, .ref g8]), (h1, xI X 10 v_ages), (h2, xI X 7 u.2)] A) (n := 1) md_X7_ranked.1 (Nat.le_of_ble_eq_true rfl) ?_
  intro p e s m args below meth c ls A hC hr hlk hH hl
  have hl : lv_has ls 5 [(0, .ref h0), (1, .int p1)] := hl
  have hx := hC.1
  have hb := hC.2.1
  have L17 : ∀ (n : Nat) (s17 : Int32), xloop (f_X7_ranked_L17 v_people v_ages v_refusals p1) n s17 = some u → ∀ (H : Heap) (locs : List Loc), xH X A [(h0, xO 7 [.int v_laws, .ref g0, .ref g1, .int v_inForce, .int v_depth, .int v_miss, .long v_ring, .int v_size, .int v_people, .ref h1, .int v_seed, .int v_taped, .ref g2, .int v_from, .int v_to, .int v_token, .int v_value, .ref g3, .ref g4, .ref g5, .ref h2, .int v_imaged, .ref g6, .long v_oldRing, .ref g7, .long v_aheadRing, .ref g8]), (h1, xI X 10 v_ages), (h2, xI X 7 v_refusals)] s.heap H locs → ∀ (ls : Array Slot), lv_has ls 5 [(0, .ref h0), (1, .int p1), (2, .int s17)] → W p l e (xrm 2 43) s m args below meth c H locs 0 0 (MQ below (xQw True (.returned (some (.int u.1))) X [(h0, xO 7 [.int v_laws, .ref g0, .ref g1, .int v_inForce, .int v_depth, .int v_miss, .long v_ring, .int v_size, .int v_people, .ref h1, .int v_seed, .int v_taped, .ref g2, .int v_from, .int v_to, .int v_token, .int v_value, .ref g3, .ref g4, .ref g5, .ref h2, .int v_imaged, .ref g6, .long v_oldRing, .ref g7, .long v_aheadRing, .ref g8]), (h1, xI X 10 v_ages), (h2, xI X 7 u.2)] A) args s 0 0 A) (F0 m 17 ls []) := by
    intro  n
    induction n with
    | zero => intro s17 hf; exact xloop_0 hf
    | succ n ih17 =>
      intro s17 hf H locs hH ls hl
      obtain ⟨o17, hf, ho17⟩ := xloop_s hf
      have L30 : ∀ (n : Nat) (s30 : Int32 × Int32), xloop (f_X7_ranked_L30 v_people v_ages v_refusals p1 s17) n s30 = some o17 → ∀ (H : Heap) (locs : List Loc), xH X A [(h0, xO 7 [.int v_laws, .ref g0, .ref g1, .int v_inForce, .int v_depth, .int v_miss, .long v_ring, .int v_size, .int v_people, .ref h1, .int v_seed, .int v_taped, .ref g2, .int v_from, .int v_to, .int v_token, .int v_value, .ref g3, .ref g4, .ref g5, .ref h2, .int v_imaged, .ref g6, .long v_oldRing, .ref g7, .long v_aheadRing, .ref g8]), (h1, xI X 10 v_ages), (h2, xI X 7 v_refusals)] s.heap H locs → ∀ (ls : Array Slot), lv_has ls 5 [(0, .ref h0), (1, .int p1), (2, .int s17), (3, .int s30.1), (4, .int s30.2)] → W p l e (xrm 2 43) s m args below meth c H locs 0 0 (MQ below (xQw True (.returned (some (.int u.1))) X [(h0, xO 7 [.int v_laws, .ref g0, .ref g1, .int v_inForce, .int v_depth, .int v_miss, .long v_ring, .int v_size, .int v_people, .ref h1, .int v_seed, .int v_taped, .ref g2, .int v_from, .int v_to, .int v_token, .int v_value, .ref g3, .ref g4, .ref g5, .ref h2, .int v_imaged, .ref g6, .long v_oldRing, .ref g7, .long v_aheadRing, .ref g8]), (h1, xI X 10 v_ages), (h2, xI X 7 u.2)] A) args s 0 0 A) (F0 m 30 ls []) := by
        intro  n
        induction n with
        | zero => intro s30 hf; exact xloop_0 hf
        | succ n ih30 =>
          intro s30 hf H locs hH ls hl
          obtain ⟨o30, hf, ho30⟩ := xloop_s hf
          refine lv_iload hx hb dX7_ranked_30 (lv_at hl 4 rfl) ?_
          refine lv_aload_n hx hb dX7_ranked_32 rfl (lv_at hl 0 rfl) ?_
          refine x_get hC fd_RX7_59 hH.1 0 rfl rfl dX7_ranked_33 ?_
          refine lv_icmp_ge (tgt := 86) hx hb dX7_ranked_36 (by decide) (fun c4 => ?_) (fun c4 => ?_)
          · have hf := xt c4 hf
            refine lv_iload_n hx hb dX7_ranked_86 rfl (lv_at hl 3 rfl) ?_
            refine lv_iload_n hx hb dX7_ranked_87 rfl (lv_at hl 1 rfl) ?_
            refine lv_icmp_ne (tgt := 93) hx hb dX7_ranked_88 (by decide) (fun c5 => ?_) (fun c5 => ?_)
            · have hf := xe c5 hf
              refine lv_iinc (v := s17 + (nI 1)) (lv' := [(2, .int (s17 + (nI 1))), (0, .ref h0), (1, .int p1), (3, .int s30.1), (4, .int s30.2)]) hx hb dX7_ranked_93 hl (k := 2) rfl rfl (by decide) rfl (fun ls hl => ?_)
              refine lv_goto (tgt := 17) hx hb dX7_ranked_96 (by decide) ?_
              have hf := xo_ret hf ho30
              have hf := xo_go hf ho17
              exact ih17 (s17 + (nI 1)) hf _ _ hH ls (lv_sub hl [1, 2, 0] rfl)
            · have hf := xt c5 hf
              refine lv_iload_n hx hb dX7_ranked_91 rfl (lv_at hl 2 rfl) ?_
              have hf := xo_ret hf ho30
              have hf := xo_ret hf ho17
              exact x_retiw (φ := fun _ => True) (f := fun u : Int32 × (Nat → Int32) => u.1) (wf := fun u : Int32 × (Nat → Int32) => [(h0, xO 7 [.int v_laws, .ref g0, .ref g1, .int v_inForce, .int v_depth, .int v_miss, .long v_ring, .int v_size, .int v_people, .ref h1, .int v_seed, .int v_taped, .ref g2, .int v_from, .int v_to, .int v_token, .int v_value, .ref g3, .ref g4, .ref g5, .ref h2, .int v_imaged, .ref g6, .long v_oldRing, .ref g7, .long v_aheadRing, .ref g8]), (h1, xI X 10 v_ages), (h2, xI X 7 u.2)]) hC hr hlk trivial hf hH rfl rfl dX7_ranked_92
          · have hf := xe c4 hf
            refine lv_aload_n hx hb dX7_ranked_39 rfl (lv_at hl 0 rfl) ?_
            refine x_get hC fd_RX7_16 hH.1 0 rfl rfl dX7_ranked_40 ?_
            refine lv_iload hx hb dX7_ranked_43 (lv_at hl 4 rfl) ?_
            obtain ⟨n6, hf⟩ := xok hf
            refine x_iald hC hH.1 1 rfl n6 dX7_ranked_45 ?_
            refine lv_aload_n hx hb dX7_ranked_46 rfl (lv_at hl 0 rfl) ?_
            refine x_get hC fd_RX7_16 hH.1 0 rfl rfl dX7_ranked_47 ?_
            refine lv_iload_n hx hb dX7_ranked_50 rfl (lv_at hl 2 rfl) ?_
            obtain ⟨n7, hf⟩ := xok hf
            refine x_iald hC hH.1 1 rfl n7 dX7_ranked_51 ?_
            refine lv_icmp_lt (tgt := 77) hx hb dX7_ranked_52 (by decide) (fun c8 => ?_) (fun c8 => ?_)
            · have hf := xt c8 hf
              refine lv_iinc (v := s30.1 + (nI 1)) (lv' := [(3, .int (s30.1 + (nI 1))), (0, .ref h0), (1, .int p1), (2, .int s17), (4, .int s30.2)]) hx hb dX7_ranked_77 hl (k := 3) rfl rfl (by decide) rfl (fun ls hl => ?_)
              refine lv_iinc (v := s30.2 + (nI 1)) (lv' := [(4, .int (s30.2 + (nI 1))), (3, .int (s30.1 + (nI 1))), (0, .ref h0), (1, .int p1), (2, .int s17)]) hx hb dX7_ranked_80 hl (k := 4) rfl rfl (by decide) rfl (fun ls hl => ?_)
              refine lv_goto (tgt := 30) hx hb dX7_ranked_83 (by decide) ?_
              have hf := xo_go hf ho30
              exact ih30 (s30.1 + (nI 1), s30.2 + (nI 1)) hf _ _ hH ls (lv_sub hl [2, 3, 4, 1, 0] rfl)
            · have hf := xe c8 hf
              refine lv_aload_n hx hb dX7_ranked_55 rfl (lv_at hl 0 rfl) ?_
              refine x_get hC fd_RX7_16 hH.1 0 rfl rfl dX7_ranked_56 ?_
              refine lv_iload hx hb dX7_ranked_59 (lv_at hl 4 rfl) ?_
              obtain ⟨n9, hf⟩ := xok hf
              refine x_iald hC hH.1 1 rfl n9 dX7_ranked_61 ?_
              refine lv_aload_n hx hb dX7_ranked_62 rfl (lv_at hl 0 rfl) ?_
              refine x_get hC fd_RX7_16 hH.1 0 rfl rfl dX7_ranked_63 ?_
              refine lv_iload_n hx hb dX7_ranked_66 rfl (lv_at hl 2 rfl) ?_
              obtain ⟨n10, hf⟩ := xok hf
              refine x_iald hC hH.1 1 rfl n10 dX7_ranked_67 ?_
              refine lv_icmp_ne (tgt := 80) hx hb dX7_ranked_68 (by decide) (fun c11 => ?_) (fun c11 => ?_)
              · have hf := xe c11 hf
                refine lv_iinc (v := s30.2 + (nI 1)) (lv' := [(4, .int (s30.2 + (nI 1))), (0, .ref h0), (1, .int p1), (2, .int s17), (3, .int s30.1)]) hx hb dX7_ranked_80 hl (k := 4) rfl rfl (by decide) rfl (fun ls hl => ?_)
                refine lv_goto (tgt := 30) hx hb dX7_ranked_83 (by decide) ?_
                have hf := xo_go hf ho30
                exact ih30 (s30.1, s30.2 + (nI 1)) hf _ _ hH ls (lv_sub hl [1, 2, 3, 4, 0] rfl)
              · have hf := xt c11 hf
                refine lv_iload hx hb dX7_ranked_71 (lv_at hl 4 rfl) ?_
                refine lv_iload_n hx hb dX7_ranked_73 rfl (lv_at hl 2 rfl) ?_
                refine lv_icmp_ge (tgt := 80) hx hb dX7_ranked_74 (by decide) (fun c12 => ?_) (fun c12 => ?_)
                · have hf := xt c12 hf
                  refine lv_iinc (v := s30.2 + (nI 1)) (lv' := [(4, .int (s30.2 + (nI 1))), (0, .ref h0), (1, .int p1), (2, .int s17), (3, .int s30.1)]) hx hb dX7_ranked_80 hl (k := 4) rfl rfl (by decide) rfl (fun ls hl => ?_)
                  refine lv_goto (tgt := 30) hx hb dX7_ranked_83 (by decide) ?_
                  have hf := xo_go hf ho30
                  exact ih30 (s30.1, s30.2 + (nI 1)) hf _ _ hH ls (lv_sub hl [1, 2, 3, 4, 0] rfl)
                · have hf := xe c12 hf
                  refine lv_iinc (v := s30.1 + (nI 1)) (lv' := [(3, .int (s30.1 + (nI 1))), (0, .ref h0), (1, .int p1), (2, .int s17), (4, .int s30.2)]) hx hb dX7_ranked_77 hl (k := 3) rfl rfl (by decide) rfl (fun ls hl => ?_)
                  refine lv_iinc (v := s30.2 + (nI 1)) (lv' := [(4, .int (s30.2 + (nI 1))), (3, .int (s30.1 + (nI 1))), (0, .ref h0), (1, .int p1), (2, .int s17)]) hx hb dX7_ranked_80 hl (k := 4) rfl rfl (by decide) rfl (fun ls hl => ?_)
                  refine lv_goto (tgt := 30) hx hb dX7_ranked_83 (by decide) ?_
                  have hf := xo_go hf ho30
                  exact ih30 (s30.1 + (nI 1), s30.2 + (nI 1)) hf _ _ hH ls (lv_sub hl [2, 3, 4, 1, 0] rfl)
      refine lv_iload_n hx hb dX7_ranked_17 rfl (lv_at hl 2 rfl) ?_
      refine lv_aload_n hx hb dX7_ranked_18 rfl (lv_at hl 0 rfl) ?_
      refine x_get hC fd_RX7_59 hH.1 0 rfl rfl dX7_ranked_19 ?_
      refine lv_icmp_ge (tgt := 99) hx hb dX7_ranked_22 (by decide) (fun c3 => ?_) (fun c3 => ?_)
      · have hf := xt c3 hf
        refine lv_iconst (v := (-1 : Int32)) hx hb dX7_ranked_99 (by decide) ?_
        have hf := xo_ret hf ho17
        exact x_retiw (φ := fun _ => True) (f := fun u : Int32 × (Nat → Int32) => u.1) (wf := fun u : Int32 × (Nat → Int32) => [(h0, xO 7 [.int v_laws, .ref g0, .ref g1, .int v_inForce, .int v_depth, .int v_miss, .long v_ring, .int v_size, .int v_people, .ref h1, .int v_seed, .int v_taped, .ref g2, .int v_from, .int v_to, .int v_token, .int v_value, .ref g3, .ref g4, .ref g5, .ref h2, .int v_imaged, .ref g6, .long v_oldRing, .ref g7, .long v_aheadRing, .ref g8]), (h1, xI X 10 v_ages), (h2, xI X 7 u.2)]) hC hr hlk trivial hf hH rfl rfl dX7_ranked_100
      · have hf := xe c3 hf
        refine lv_iconst (v := (nI 0)) hx hb dX7_ranked_25 (by decide) ?_
        refine lv_istore_n (lv' := [(3, .int (nI 0)), (0, .ref h0), (1, .int p1), (2, .int s17)]) hx hb dX7_ranked_26 rfl hl (by decide) rfl (fun ls hl => ?_)
        refine lv_iconst (v := (nI 0)) hx hb dX7_ranked_27 (by decide) ?_
        refine lv_istore (lv' := [(4, .int (nI 0)), (3, .int (nI 0)), (0, .ref h0), (1, .int p1), (2, .int s17)]) hx hb dX7_ranked_28 hl (by decide) rfl (fun ls hl => ?_)
        exact L30 xN ((nI 0), (nI 0)) hf _ _ hH ls (lv_sub hl [2, 3, 4, 1, 0] rfl)
  refine lv_aload_n hx hb dX7_ranked_0 rfl (lv_at hl 0 rfl) ?_
  refine lv_iload_n hx hb dX7_ranked_1 rfl (lv_at hl 1 rfl) ?_
  obtain ⟨u1, hf1, hf⟩ := xb hf
  refine x_ran (x_runV (q0 := 0) (rest := []) (As := [.int p1]) hC mw_665 md_X7_isOne (c_X7_isOne (X := X) hf1) hH [0] rfl (by decide) rfl rfl rfl hl.1 rfl rfl (Nat.le_of_ble_eq_true rfl) dX7_ranked_2 ⟨Nat.le_of_ble_eq_true rfl, Nat.le_of_ble_eq_true rfl⟩ ⟨rfl, rfl⟩ ⟨Nat.le_refl _, Nat.le_refl _⟩) rfl (fun hz1 => ?_)
  refine lv_if_ne (tgt := 15) hx hb dX7_ranked_5 (by decide) (fun c2 => ?_) (fun c2 => ?_)
  · have hf := xe c2 hf
    refine lv_iconst (v := (nI 0)) hx hb dX7_ranked_15 (by decide) ?_
    refine lv_istore_n (lv' := [(2, .int (nI 0)), (0, .ref h0), (1, .int p1)]) hx hb dX7_ranked_16 rfl hl (by decide) rfl (fun ls hl => ?_)
    exact L17 xN (nI 0) hf _ _ hH ls (lv_sub hl [1, 2, 0] rfl)
  · have hf := xt c2 hf
    refine lv_aload_n hx hb dX7_ranked_8 rfl (lv_at hl 0 rfl) ?_
    refine lv_bipush (v := (-2 : Int32)) hx hb dX7_ranked_9 (by decide) ?_
    obtain ⟨u13, hf13, hf⟩ := xb hf
    refine x_ranw (ws' := [(h0, xO 7 [.int v_laws, .ref g0, .ref g1, .int v_inForce, .int v_depth, .int v_miss, .long v_ring, .int v_size, .int v_people, .ref h1, .int v_seed, .int v_taped, .ref g2, .int v_from, .int v_to, .int v_token, .int v_value, .ref g3, .ref g4, .ref g5, .ref h2, .int v_imaged, .ref g6, .long v_oldRing, .ref g7, .long v_aheadRing, .ref g8]), (h1, xI X 10 v_ages), (h2, xI X 7 u13.2)]) (x_runV (q0 := 0) (rest := []) (As := [.int (-2 : Int32)]) hC mw_143 md_X7_no (c_X7_no (X := X) hf13) hH [0, 2] rfl (by decide) rfl rfl rfl hl.1 rfl rfl (Nat.le_of_ble_eq_true rfl) dX7_ranked_11 ⟨Nat.le_of_ble_eq_true rfl, Nat.le_of_ble_eq_true rfl⟩ ⟨rfl, rfl⟩ ⟨Nat.le_refl _, Nat.le_refl _⟩) hH [0, 2] rfl rfl rfl rfl rfl (fun hz13 H locs hH => ?_)
    exact x_retiw (φ := fun _ => True) (f := fun u : Int32 × (Nat → Int32) => u.1) (wf := fun u : Int32 × (Nat → Int32) => [(h0, xO 7 [.int v_laws, .ref g0, .ref g1, .int v_inForce, .int v_depth, .int v_miss, .long v_ring, .int v_size, .int v_people, .ref h1, .int v_seed, .int v_taped, .ref g2, .int v_from, .int v_to, .int v_token, .int v_value, .ref g3, .ref g4, .ref g5, .ref h2, .int v_imaged, .ref g6, .long v_oldRing, .ref g7, .long v_aheadRing, .ref g8]), (h1, xI X 10 v_ages), (h2, xI X 7 u.2)]) hC hr hlk trivial hf hH rfl rfl dX7_ranked_14
