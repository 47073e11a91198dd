def f_X7_isWord_L29 (v_from : Int32) (v_tape : (Nat → Int32)) (p1 : Nat) (s29 : Int32) : Option ((Int32) ⊕ (Int32)) :=
  (f_J0_length_8abf5 p1).bind fun u4 =>
  if u4 ≤ s29 then
    some (.inl (nI 1))
  else
  if xout (v_from + s29) 250 then none else
  (f_J0_charAt_5068e p1 s29).bind fun u7 =>
  if (v_tape (xat (v_from + s29))) = u7 then
    some (.inr (s29 + (nI 1)))
  else
  some (.inl (nI 0))
def f_X7_isWord (v_from : Int32) (v_to : Int32) (v_token : Int32) (v_tape : (Nat → Int32)) (p1 : Nat) : Option (Int32) :=
  if v_token = (nI 119) then
    (f_J0_length_8abf5 p1).bind fun u2 =>
    if (v_to - v_from) = u2 then
      xloop (f_X7_isWord_L29 v_from v_tape p1) xN (nI 0)
    else
    some (nI 0)
  else
  some (nI 0)
set_option maxHeartbeats 4000000 in
set_option maxRecDepth 100000 in
theorem c_X7_isWord {l : Launch} {X : xG} {h0 h1 g0 g1 g2 g3 g4 g5 g6 g7 g8 g9 : Nat} {v_laws : Int32} {v_inForce : Int32} {v_depth : Int32} {v_miss : Int32} {v_ring : Int64} {v_size : Int32} {v_people : Int32} {v_seed : Int32} {v_taped : Int32} {v_from : Int32} {v_to : Int32} {v_token : Int32} {v_value : Int32} {v_imaged : Int32} {v_oldRing : Int64} {v_aheadRing : Int64} {v_tape : (Nat → Int32)} {p1 : Nat} {u : Int32} (hf : f_X7_isWord v_from v_to v_token v_tape p1 = some u) : Met l yX7_isWord (xw yX7_isWord cX7_isWord 3 (some .boolean)) (xrm 4 85) (xPc [.ref h0, .ref (X.2.2.2.2.1 p1)] X [(h0, xO 7 [.int v_laws, .ref g0, .ref g1, .int v_inForce, .int v_depth, .int v_miss, .long v_ring, .int v_size, .int v_people, .ref g2, .int v_seed, .int v_taped, .ref h1, .int v_from, .int v_to, .int v_token, .int v_value, .ref g3, .ref g4, .ref g5, .ref g6, .int v_imaged, .ref g7, .long v_oldRing, .ref g8, .long v_aheadRing, .ref g9]), (h1, xI X 250 v_tape)]) (xQ (u = 0 ∨ u = 1) (.returned (some (.int u)))) 0 0 xNo := by
  refine xMet (n := 1) md_X7_isWord.1 (Nat.le_of_ble_eq_true rfl) ?_
  intro p e s m args below meth c ls A hC hr hlk hH hl
  have hl : lv_has ls 3 [(0, .ref h0), (1, .ref (X.2.2.2.2.1 p1))] := hl
  have hx := hC.1
  have hb := hC.2.1
  have L29 : ∀ (n : Nat) (s29 : Int32), xloop (f_X7_isWord_L29 v_from v_tape p1) n s29 = some u → ∀ (ls : Array Slot), lv_has ls 3 [(0, .ref h0), (1, .ref (X.2.2.2.2.1 p1)), (2, .int s29)] → W p l e (xrm 4 85) s m args below meth c s.heap [] 0 0 (MQ below (xQ (u = 0 ∨ u = 1) (.returned (some (.int u)))) args s 0 0 xNo) (F0 m 29 ls []) := by
    intro  n
    induction n with
    | zero => intro s29 hf; exact xloop_0 hf
    | succ n ih29 =>
      intro s29 hf ls hl
      obtain ⟨o29, hf, ho29⟩ := xloop_s hf
      refine lv_iload_n hx hb dX7_isWord_29 rfl (lv_at hl 2 rfl) ?_
      refine lv_aload_n hx hb dX7_isWord_30 rfl (lv_at hl 1 rfl) ?_
      obtain ⟨u4, hf4, hf⟩ := xb hf
      refine x_ran (x_runVs (rest := [.int s29]) (As := []) hC mw_626 md_J0_length_8abf5 (c_J0_length_8abf5 (X := X) hf4) (x7_J0_length_8abf5 hf4) hH rfl hl.1 rfl rfl (Nat.le_of_ble_eq_true rfl) dX7_isWord_31 ⟨Nat.le_of_ble_eq_true rfl, Nat.le_of_ble_eq_true rfl⟩ ⟨rfl, rfl⟩ ⟨Nat.le_refl _, Nat.le_refl _⟩) rfl (fun hz4 => ?_)
      refine lv_icmp_ge (tgt := 64) hx hb dX7_isWord_34 (by decide) (fun c5 => ?_) (fun c5 => ?_)
      · have hf := xt c5 hf
        refine lv_iconst (v := (nI 1)) hx hb dX7_isWord_64 (by decide) ?_
        have hf := xo_ret hf ho29
        exact x_retz hC hr hlk (Or.inr rfl) hf dX7_isWord_65
      · have hf := xe c5 hf
        refine lv_aload_n hx hb dX7_isWord_37 rfl (lv_at hl 0 rfl) ?_
        refine x_get hC fd_RX7_19 hH.1 0 rfl rfl dX7_isWord_38 ?_
        refine lv_aload_n hx hb dX7_isWord_41 rfl (lv_at hl 0 rfl) ?_
        refine x_get hC fd_RX7_117 hH.1 0 rfl rfl dX7_isWord_42 ?_
        refine lv_iload_n hx hb dX7_isWord_45 rfl (lv_at hl 2 rfl) ?_
        refine lv_iadd hx hb dX7_isWord_46 ?_
        obtain ⟨n6, hf⟩ := xok hf
        refine x_iald hC hH.1 1 rfl n6 dX7_isWord_47 ?_
        refine lv_aload_n hx hb dX7_isWord_48 rfl (lv_at hl 1 rfl) ?_
        refine lv_iload_n hx hb dX7_isWord_49 rfl (lv_at hl 2 rfl) ?_
        obtain ⟨u7, hf7, hf⟩ := xb hf
        refine x_ran (x_runVs (rest := [.int (v_tape (xat (v_from + s29)))]) (As := [.int s29]) hC mw_627 md_J0_charAt_5068e (c_J0_charAt_5068e (X := X) hf7) (x7_J0_charAt_5068e hf7) hH rfl hl.1 rfl rfl (Nat.le_of_ble_eq_true rfl) dX7_isWord_50 ⟨Nat.le_of_ble_eq_true rfl, Nat.le_of_ble_eq_true rfl⟩ ⟨rfl, rfl⟩ ⟨Nat.le_refl _, Nat.le_refl _⟩) rfl (fun hz7 => ?_)
        refine lv_icmp_eq (tgt := 58) hx hb dX7_isWord_53 (by decide) (fun c8 => ?_) (fun c8 => ?_)
        · have hf := xt c8 hf
          refine lv_iinc (v := s29 + (nI 1)) (lv' := [(2, .int (s29 + (nI 1))), (0, .ref h0), (1, .ref (X.2.2.2.2.1 p1))]) hx hb dX7_isWord_58 hl (k := 2) rfl rfl (by decide) rfl (fun ls hl => ?_)
          refine lv_goto (tgt := 29) hx hb dX7_isWord_61 (by decide) ?_
          have hf := xo_go hf ho29
          exact ih29 (s29 + (nI 1)) hf ls (lv_sub hl [1, 2, 0] rfl)
        · have hf := xe c8 hf
          refine lv_iconst (v := (nI 0)) hx hb dX7_isWord_56 (by decide) ?_
          have hf := xo_ret hf ho29
          exact x_retz hC hr hlk (Or.inl rfl) hf dX7_isWord_57
  refine lv_aload_n hx hb dX7_isWord_0 rfl (lv_at hl 0 rfl) ?_
  refine x_get hC fd_RX7_120 hH.1 0 rfl rfl dX7_isWord_1 ?_
  refine lv_bipush (v := (nI 119)) hx hb dX7_isWord_4 (by decide) ?_
  refine lv_icmp_ne (tgt := 25) hx hb dX7_isWord_6 (by decide) (fun c1 => ?_) (fun c1 => ?_)
  · have hf := xe c1 hf
    refine lv_iconst (v := (nI 0)) hx hb dX7_isWord_25 (by decide) ?_
    exact x_retz hC hr hlk (Or.inl rfl) hf dX7_isWord_26
  · have hf := xt c1 hf
    refine lv_aload_n hx hb dX7_isWord_9 rfl (lv_at hl 0 rfl) ?_
    refine x_get hC fd_RX7_114 hH.1 0 rfl rfl dX7_isWord_10 ?_
    refine lv_aload_n hx hb dX7_isWord_13 rfl (lv_at hl 0 rfl) ?_
    refine x_get hC fd_RX7_117 hH.1 0 rfl rfl dX7_isWord_14 ?_
    refine lv_isub hx hb dX7_isWord_17 ?_
    refine lv_aload_n hx hb dX7_isWord_18 rfl (lv_at hl 1 rfl) ?_
    obtain ⟨u2, hf2, hf⟩ := xb hf
    refine x_ran (x_runVs (rest := [.int (v_to - v_from)]) (As := []) hC mw_626 md_J0_length_8abf5 (c_J0_length_8abf5 (X := X) hf2) (x7_J0_length_8abf5 hf2) hH rfl hl.1 rfl rfl (Nat.le_of_ble_eq_true rfl) dX7_isWord_19 ⟨Nat.le_of_ble_eq_true rfl, Nat.le_of_ble_eq_true rfl⟩ ⟨rfl, rfl⟩ ⟨Nat.le_refl _, Nat.le_refl _⟩) rfl (fun hz2 => ?_)
    refine lv_icmp_eq (tgt := 27) hx hb dX7_isWord_22 (by decide) (fun c3 => ?_) (fun c3 => ?_)
    · have hf := xt c3 hf
      refine lv_iconst (v := (nI 0)) hx hb dX7_isWord_27 (by decide) ?_
      refine lv_istore_n (lv' := [(2, .int (nI 0)), (0, .ref h0), (1, .ref (X.2.2.2.2.1 p1))]) hx hb dX7_isWord_28 rfl hl (by decide) rfl (fun ls hl => ?_)
      exact L29 xN (nI 0) hf ls (lv_sub hl [1, 2, 0] rfl)
    · have hf := xe c3 hf
      refine lv_iconst (v := (nI 0)) hx hb dX7_isWord_25 (by decide) ?_
      exact x_retz hC hr hlk (Or.inl rfl) hf dX7_isWord_26
def f_X7_number (v_taped : Int32) (v_from : Int32) (v_to : Int32) (v_token : Int32) (v_value : Int32) (v_tape : (Nat → Int32)) (p1 : Int32) (p2 : Int32) : Option (Int32 × Int32 × Int32 × Int32 × Int32) :=
  (f_X7_next v_taped v_from v_to v_token v_value v_tape).bind fun u1 =>
  if u1.2.2.1 = (nI 48) then
    (f_X7_within u1.2.2.2 p1 p2).bind fun u3 =>
    if u3 = (nI 0) then
      some ((-1 : Int32), u1.1, u1.2.1, u1.2.2.1, u1.2.2.2)
    else
    some (u1.2.2.2, u1.1, u1.2.1, u1.2.2.1, u1.2.2.2)
  else
  some ((-1 : Int32), u1.1, u1.2.1, u1.2.2.1, u1.2.2.2)
set_option maxHeartbeats 4000000 in
set_option maxRecDepth 100000 in
theorem c_X7_number {l : Launch} {X : xG} {h0 h1 g0 g1 g2 g3 g4 g5 g6 g7 g8 g9 : Nat} {v_laws : Int32} {v_inForce : Int32} {v_depth : Int32} {v_miss : Int32} {v_ring : Int64} {v_size : Int32} {v_people : Int32} {v_seed : Int32} {v_taped : Int32} {v_from : Int32} {v_to : Int32} {v_token : Int32} {v_value : Int32} {v_imaged : Int32} {v_oldRing : Int64} {v_aheadRing : Int64} {v_tape : (Nat → Int32)} {p1 : Int32} {p2 : Int32} {u : Int32 × Int32 × Int32 × Int32 × Int32} (hf : f_X7_number v_taped v_from v_to v_token v_value v_tape p1 p2 = some u) : Met l yX7_number (xw yX7_number cX7_number 3 (some .int)) (xrm 2 41) (xPc [.ref h0, .int p1, .int p2] X [(h0, xO 7 [.int v_laws, .ref g0, .ref g1, .int v_inForce, .int v_depth, .int v_miss, .long v_ring, .int v_size, .int v_people, .ref g2, .int v_seed, .int v_taped, .ref h1, .int v_from, .int v_to, .int v_token, .int v_value, .ref g3, .ref g4, .ref g5, .ref g6, .int v_imaged, .ref g7, .long v_oldRing, .ref g8, .long v_aheadRing, .ref g9]), (h1, xI X 250 v_tape)]) (xQw True (.returned (some (.int u.1))) X [(h0, xO 7 [.int v_laws, .ref g0, .ref g1, .int v_inForce, .int v_depth, .int v_miss, .long v_ring, .int v_size, .int v_people, .ref g2, .int v_seed, .int v_taped, .ref h1, .int u.2.1, .int u.2.2.1, .int u.2.2.2.1, .int u.2.2.2.2, .ref g3, .ref g4, .ref g5, .ref g6, .int v_imaged, .ref g7, .long v_oldRing, .ref g8, .long v_aheadRing, .ref g9]), (h1, xI X 250 v_tape)] (xAs [(h0, xO 7 [.int v_laws, .ref g0, .ref g1, .int v_inForce, .int v_depth, .int v_miss, .long v_ring, .int v_size, .int v_people, .ref g2, .int v_seed, .int v_taped, .ref h1, .int v_from, .int v_to, .int v_token, .int v_value, .ref g3, .ref g4, .ref g5, .ref g6, .int v_imaged, .ref g7, .long v_oldRing, .ref g8, .long v_aheadRing, .ref g9]), (h1, xI X 250 v_tape)])) 0 0 (xAs [(h0, xO 7 [.int v_laws, .ref g0, .ref g1, .int v_inForce, .int v_depth, .int v_miss, .long v_ring, .int v_size, .int v_people, .ref g2, .int v_seed, .int v_taped, .ref h1, .int v_from, .int v_to, .int v_token, .int v_value, .ref g3, .ref g4, .ref g5, .ref g6, .int v_imaged, .ref g7, .long v_oldRing, .ref g8, .long v_aheadRing, .ref g9]), (h1, xI X 250 v_tape)]) := by
  refine xMetw (Qc := fun A => xQw True (.returned (some (.int u.1))) X [(h0, xO 7 [.int v_laws, .ref g0, .ref g1, .int v_inForce, .int v_depth, .int v_miss, .long v_ring, .int v_size, .int v_people, .ref g2, .int v_seed, .int v_taped, .ref h1, .int u.2.1, .int u.2.2.1, .int u.2.2.2.1, .int u.2.2.2.2, .ref g3, .ref g4, .ref g5, .ref g6, .int v_imaged, .ref g7, .long v_oldRing, .ref g8, .long v_aheadRing, .ref g9]), (h1, xI X 250 v_tape)] A) (n := 2) md_X7_number.1 (Nat.le_of_ble_eq_true rfl) ?_
  intro p e s m args below meth c ls A hC hr hlk hH hl
  have hl : lv_has ls 3 [(0, .ref h0), (1, .int p1), (2, .int p2)] := hl
  have hx := hC.1
  have hb := hC.2.1
  refine lv_aload_n hx hb dX7_number_0 rfl (lv_at hl 0 rfl) ?_
  obtain ⟨u1, hf1, hf⟩ := xb hf
  refine x_ranw (ws' := [(h0, xO 7 [.int v_laws, .ref g0, .ref g1, .int v_inForce, .int v_depth, .int v_miss, .long v_ring, .int v_size, .int v_people, .ref g2, .int v_seed, .int v_taped, .ref h1, .int u1.1, .int u1.2.1, .int u1.2.2.1, .int u1.2.2.2, .ref g3, .ref g4, .ref g5, .ref g6, .int v_imaged, .ref g7, .long v_oldRing, .ref g8, .long v_aheadRing, .ref g9]), (h1, xI X 250 v_tape)]) (x_runV (q0 := 0) (rest := []) (As := []) hC mw_607 md_X7_next (c_X7_next (X := X) hf1) hH [0, 1] rfl (by decide) rfl rfl rfl hl.1 rfl rfl (Nat.le_of_ble_eq_true rfl) dX7_number_1 ⟨Nat.le_of_ble_eq_true rfl, Nat.le_of_ble_eq_true rfl⟩ ⟨rfl, rfl⟩ ⟨Nat.le_refl _, Nat.le_refl _⟩) hH [0, 1] rfl rfl rfl rfl rfl (fun hz1 H locs hH => ?_)
  refine lv_aload_n hx hb dX7_number_4 rfl (lv_at hl 0 rfl) ?_
  refine x_get hC fd_RX7_120 hH.1 0 rfl rfl dX7_number_5 ?_
  refine lv_bipush (v := (nI 48)) hx hb dX7_number_8 (by decide) ?_
  refine lv_icmp_ne (tgt := 32) hx hb dX7_number_10 (by decide) (fun c2 => ?_) (fun c2 => ?_)
  · have hf := xe c2 hf
    refine lv_iconst (v := (-1 : Int32)) hx hb dX7_number_32 (by decide) ?_
    exact x_retiw (φ := fun _ => True) (f := fun u : Int32 × Int32 × Int32 × Int32 × Int32 => u.1) (wf := fun u : Int32 × Int32 × Int32 × Int32 × Int32 => [(h0, xO 7 [.int v_laws, .ref g0, .ref g1, .int v_inForce, .int v_depth, .int v_miss, .long v_ring, .int v_size, .int v_people, .ref g2, .int v_seed, .int v_taped, .ref h1, .int u.2.1, .int u.2.2.1, .int u.2.2.2.1, .int u.2.2.2.2, .ref g3, .ref g4, .ref g5, .ref g6, .int v_imaged, .ref g7, .long v_oldRing, .ref g8, .long v_aheadRing, .ref g9]), (h1, xI X 250 v_tape)]) hC hr hlk trivial hf hH rfl rfl dX7_number_33
  · have hf := xt c2 hf
    refine lv_aload_n hx hb dX7_number_13 rfl (lv_at hl 0 rfl) ?_
    refine x_get hC fd_RX7_129 hH.1 0 rfl rfl dX7_number_14 ?_
    refine lv_iload_n hx hb dX7_number_17 rfl (lv_at hl 1 rfl) ?_
    refine lv_iload_n hx hb dX7_number_18 rfl (lv_at hl 2 rfl) ?_
    obtain ⟨u3, hf3, hf⟩ := xb hf
    refine x_ran (x_runS (rest := []) (As := [.int u1.2.2.2, .int p1, .int p2]) hC mw_140 md_X7_within (c_X7_within (X := X) hf3) hH [] rfl (by decide) hl.1 rfl rfl (Nat.le_of_ble_eq_true rfl) dX7_number_19 ⟨Nat.le_of_ble_eq_true rfl, Nat.le_of_ble_eq_true rfl⟩ ⟨rfl, rfl⟩ ⟨Nat.le_refl _, Nat.le_refl _⟩) rfl (fun hz3 => ?_)
    refine lv_if_eq (tgt := 32) hx hb dX7_number_22 (by decide) (fun c4 => ?_) (fun c4 => ?_)
    · have hf := xt c4 hf
      refine lv_iconst (v := (-1 : Int32)) hx hb dX7_number_32 (by decide) ?_
      exact x_retiw (φ := fun _ => True) (f := fun u : Int32 × Int32 × Int32 × Int32 × Int32 => u.1) (wf := fun u : Int32 × Int32 × Int32 × Int32 × Int32 => [(h0, xO 7 [.int v_laws, .ref g0, .ref g1, .int v_inForce, .int v_depth, .int v_miss, .long v_ring, .int v_size, .int v_people, .ref g2, .int v_seed, .int v_taped, .ref h1, .int u.2.1, .int u.2.2.1, .int u.2.2.2.1, .int u.2.2.2.2, .ref g3, .ref g4, .ref g5, .ref g6, .int v_imaged, .ref g7, .long v_oldRing, .ref g8, .long v_aheadRing, .ref g9]), (h1, xI X 250 v_tape)]) hC hr hlk trivial hf hH rfl rfl dX7_number_33
    · have hf := xe c4 hf
      refine lv_aload_n hx hb dX7_number_25 rfl (lv_at hl 0 rfl) ?_
      refine x_get hC fd_RX7_129 hH.1 0 rfl rfl dX7_number_26 ?_
      refine lv_goto (tgt := 33) hx hb dX7_number_29 (by decide) ?_
      exact x_retiw (φ := fun _ => True) (f := fun u : Int32 × Int32 × Int32 × Int32 × Int32 => u.1) (wf := fun u : Int32 × Int32 × Int32 × Int32 × Int32 => [(h0, xO 7 [.int v_laws, .ref g0, .ref g1, .int v_inForce, .int v_depth, .int v_miss, .long v_ring, .int v_size, .int v_people, .ref g2, .int v_seed, .int v_taped, .ref h1, .int u.2.1, .int u.2.2.1, .int u.2.2.2.1, .int u.2.2.2.2, .ref g3, .ref g4, .ref g5, .ref g6, .int v_imaged, .ref g7, .long v_oldRing, .ref g8, .long v_aheadRing, .ref g9]), (h1, xI X 250 v_tape)]) hC hr hlk trivial hf hH rfl rfl dX7_number_33
def f_X7_isTold_L39 (v_tape : (Nat → Int32)) (x39_v_from : Int32) (x39_v_to : Int32) (x39_v_token : Int32) (x39_v_value : Int32) (s39 : Int32) : Option ((Int32 × Int32 × Int32 × Int32 × Int32) ⊕ (Int32)) :=
  if x39_v_to ≤ s39 then
    some (.inl ((nI 1), x39_v_from, x39_v_to, x39_v_token, x39_v_value))
  else
  if xout s39 250 then none else
  if (v_tape (xat s39)) = (nI 115) then
    some (.inr (s39 + (nI 1)))
  else
  if xout s39 250 then none else
  if (v_tape (xat s39)) = (nI 103) then
    some (.inr (s39 + (nI 1)))
  else
  some (.inl ((nI 0), x39_v_from, x39_v_to, x39_v_token, x39_v_value))
def f_X7_isTold (v_size : Int32) (v_taped : Int32) (v_from : Int32) (v_to : Int32) (v_token : Int32) (v_value : Int32) (v_tape : (Nat → Int32)) : Option (Int32 × Int32 × Int32 × Int32 × Int32) :=
  (f_X7_next v_taped v_from v_to v_token v_value v_tape).bind fun u1 =>
  if u1.2.2.1 = (nI 119) then
    if (u1.2.1 - u1.1) ≤ ((nI 40) - v_size) then
      xloop (f_X7_isTold_L39 v_tape u1.1 u1.2.1 u1.2.2.1 u1.2.2.2) xN u1.1
    else
    some ((nI 0), u1.1, u1.2.1, u1.2.2.1, u1.2.2.2)
  else
  some ((nI 0), u1.1, u1.2.1, u1.2.2.1, u1.2.2.2)
set_option maxHeartbeats 4000000 in
set_option maxRecDepth 100000 in
theorem c_X7_isTold {l : Launch} {X : xG} {h0 h1 g0 g1 g2 g3 g4 g5 g6 g7 g8 g9 : Nat} {v_laws : Int32} {v_inForce : Int32} {v_depth : Int32} {v_miss : Int32} {v_ring : Int64} {v_size : Int32} {v_people : Int32} {v_seed : Int32} {v_taped : Int32} {v_from : Int32} {v_to : Int32} {v_token : Int32} {v_value : Int32} {v_imaged : Int32} {v_oldRing : Int64} {v_aheadRing : Int64} {v_tape : (Nat → Int32)} {u : Int32 × Int32 × Int32 × Int32 × Int32} (hf : f_X7_isTold v_size v_taped v_from v_to v_token v_value v_tape = some u) : Met l yX7_isTold (xw yX7_isTold cX7_isTold 2 (some .boolean)) (xrm 2 41) (xPc [.ref h0] X [(h0, xO 7 [.int v_laws, .ref g0, .ref g1, .int v_inForce, .int v_depth, .int v_miss, .long v_ring, .int v_size, .int v_people, .ref g2, .int v_seed, .int v_taped, .ref h1, .int v_from, .int v_to, .int v_token, .int v_value, .ref g3, .ref g4, .ref g5, .ref g6, .int v_imaged, .ref g7, .long v_oldRing, .ref g8, .long v_aheadRing, .ref g9]), (h1, xI X 250 v_tape)]) (xQw (u.1 = 0 ∨ u.1 = 1) (.returned (some (.int u.1))) X [(h0, xO 7 [.int v_laws, .ref g0, .ref g1, .int v_inForce, .int v_depth, .int v_miss, .long v_ring, .int v_size, .int v_people, .ref g2, .int v_seed, .int v_taped, .ref h1, .int u.2.1, .int u.2.2.1, .int u.2.2.2.1, .int u.2.2.2.2, .ref g3, .ref g4, .ref g5, .ref g6, .int v_imaged, .ref g7, .long v_oldRing, .ref g8, .long v_aheadRing, .ref g9]), (h1, xI X 250 v_tape)] (xAs [(h0, xO 7 [.int v_laws, .ref g0, .ref g1, .int v_inForce, .int v_depth, .int v_miss, .long v_ring, .int v_size, .int v_people, .ref g2, .int v_seed, .int v_taped, .ref h1, .int v_from, .int v_to, .int v_token, .int v_value, .ref g3, .ref g4, .ref g5, .ref g6, .int v_imaged, .ref g7, .long v_oldRing, .ref g8, .long v_aheadRing, .ref g9]), (h1, xI X 250 v_tape)])) 0 0 (xAs [(h0, xO 7 [.int v_laws, .ref g0, .ref g1, .int v_inForce, .int v_depth, .int v_miss, .long v_ring, .int v_size, .int v_people, .ref g2, .int v_seed, .int v_taped, .ref h1, .int v_from, .int v_to, .int v_token, .int v_value, .ref g3, .ref g4, .ref g5, .ref g6, .int v_imaged, .ref g7, .long v_oldRing, .ref g8, .long v_aheadRing, .ref g9]), (h1, xI X 250 v_tape)]) := by
  refine xMetw (Qc := fun A => xQw (u.1 = 0 ∨ u.1 = 1) (.returned (some (.int u.1))) X [(h0, xO 7 [.int v_laws, .ref g0, .ref g1, .int v_inForce, .int v_depth, .int v_miss, .long v_ring, .int v_size, .int v_people, .ref g2, .int v_seed, .int v_taped, .ref h1, .int u.2.1, .int u.2.2.1, .int u.2.2.2.1, .int u.2.2.2.2, .ref g3, .ref g4, .ref g5, .ref g6, .int v_imaged, .ref g7, .long v_oldRing, .ref g8, .long v_aheadRing, .ref g9]), (h1, xI X 250 v_tape)] A) (n := 0) md_X7_isTold.1 (Nat.le_of_ble_eq_true rfl) ?_
  intro p e s m args below meth c ls A hC hr hlk hH hl
  have hl : lv_has ls 2 [(0, .ref h0)] := hl
  have hx := hC.1
  have hb := hC.2.1
  have L39 : ∀ (x39_v_from : Int32) (x39_v_to : Int32) (x39_v_token : Int32) (x39_v_value : Int32) (n : Nat) (s39 : Int32), xloop (f_X7_isTold_L39 v_tape x39_v_from x39_v_to x39_v_token x39_v_value) n s39 = some u → ∀ (H : Heap) (locs : List Loc), xH X A [(h0, xO 7 [.int v_laws, .ref g0, .ref g1, .int v_inForce, .int v_depth, .int v_miss, .long v_ring, .int v_size, .int v_people, .ref g2, .int v_seed, .int v_taped, .ref h1, .int x39_v_from, .int x39_v_to, .int x39_v_token, .int x39_v_value, .ref g3, .ref g4, .ref g5, .ref g6, .int v_imaged, .ref g7, .long v_oldRing, .ref g8, .long v_aheadRing, .ref g9]), (h1, xI X 250 v_tape)] s.heap H locs → ∀ (ls : Array Slot), lv_has ls 2 [(0, .ref h0), (1, .int s39)] → W p l e (xrm 2 41) s m args below meth c H locs 0 0 (MQ below (xQw (u.1 = 0 ∨ u.1 = 1) (.returned (some (.int u.1))) X [(h0, xO 7 [.int v_laws, .ref g0, .ref g1, .int v_inForce, .int v_depth, .int v_miss, .long v_ring, .int v_size, .int v_people, .ref g2, .int v_seed, .int v_taped, .ref h1, .int u.2.1, .int u.2.2.1, .int u.2.2.2.1, .int u.2.2.2.2, .ref g3, .ref g4, .ref g5, .ref g6, .int v_imaged, .ref g7, .long v_oldRing, .ref g8, .long v_aheadRing, .ref g9]), (h1, xI X 250 v_tape)] A) args s 0 0 A) (F0 m 39 ls []) := by
    intro x39_v_from x39_v_to x39_v_token x39_v_value n
    induction n with
    | zero => intro s39 hf; exact xloop_0 hf
    | succ n ih39 =>
      intro s39 hf H locs hH ls hl
      obtain ⟨o39, hf, ho39⟩ := xloop_s hf
      refine lv_iload_n hx hb dX7_isTold_39 rfl (lv_at hl 1 rfl) ?_
      refine lv_aload_n hx hb dX7_isTold_40 rfl (lv_at hl 0 rfl) ?_
      refine x_get hC fd_RX7_114 hH.1 0 rfl rfl dX7_isTold_41 ?_
      refine lv_icmp_ge (tgt := 77) hx hb dX7_isTold_44 (by decide) (fun c4 => ?_) (fun c4 => ?_)
      · have hf := xt c4 hf
        refine lv_iconst (v := (nI 1)) hx hb dX7_isTold_77 (by decide) ?_
        have hf := xo_ret hf ho39
        exact x_retzw (f := fun u : Int32 × Int32 × Int32 × Int32 × Int32 => u.1) (wf := fun u : Int32 × Int32 × Int32 × Int32 × Int32 => [(h0, xO 7 [.int v_laws, .ref g0, .ref g1, .int v_inForce, .int v_depth, .int v_miss, .long v_ring, .int v_size, .int v_people, .ref g2, .int v_seed, .int v_taped, .ref h1, .int u.2.1, .int u.2.2.1, .int u.2.2.2.1, .int u.2.2.2.2, .ref g3, .ref g4, .ref g5, .ref g6, .int v_imaged, .ref g7, .long v_oldRing, .ref g8, .long v_aheadRing, .ref g9]), (h1, xI X 250 v_tape)]) hC hr hlk (Or.inr rfl) hf hH rfl rfl dX7_isTold_78
      · have hf := xe c4 hf
        refine lv_aload_n hx hb dX7_isTold_47 rfl (lv_at hl 0 rfl) ?_
        refine x_get hC fd_RX7_19 hH.1 0 rfl rfl dX7_isTold_48 ?_
        refine lv_iload_n hx hb dX7_isTold_51 rfl (lv_at hl 1 rfl) ?_
        obtain ⟨n5, hf⟩ := xok hf
        refine x_iald hC hH.1 1 rfl n5 dX7_isTold_52 ?_
        refine lv_bipush (v := (nI 115)) hx hb dX7_isTold_53 (by decide) ?_
        refine lv_icmp_eq (tgt := 71) hx hb dX7_isTold_55 (by decide) (fun c6 => ?_) (fun c6 => ?_)
        · have hf := xt c6 hf
          refine lv_iinc (v := s39 + (nI 1)) (lv' := [(1, .int (s39 + (nI 1))), (0, .ref h0)]) hx hb dX7_isTold_71 hl (k := 1) rfl rfl (by decide) rfl (fun ls hl => ?_)
          refine lv_goto (tgt := 39) hx hb dX7_isTold_74 (by decide) ?_
          have hf := xo_go hf ho39
          exact ih39 (s39 + (nI 1)) hf _ _ hH ls (lv_sub hl [1, 0] rfl)
        · have hf := xe c6 hf
          refine lv_aload_n hx hb dX7_isTold_58 rfl (lv_at hl 0 rfl) ?_
          refine x_get hC fd_RX7_19 hH.1 0 rfl rfl dX7_isTold_59 ?_
          refine lv_iload_n hx hb dX7_isTold_62 rfl (lv_at hl 1 rfl) ?_
          obtain ⟨n7, hf⟩ := xok hf
          refine x_iald hC hH.1 1 rfl n7 dX7_isTold_63 ?_
          refine lv_bipush (v := (nI 103)) hx hb dX7_isTold_64 (by decide) ?_
          refine lv_icmp_eq (tgt := 71) hx hb dX7_isTold_66 (by decide) (fun c8 => ?_) (fun c8 => ?_)
          · have hf := xt c8 hf
            refine lv_iinc (v := s39 + (nI 1)) (lv' := [(1, .int (s39 + (nI 1))), (0, .ref h0)]) hx hb dX7_isTold_71 hl (k := 1) rfl rfl (by decide) rfl (fun ls hl => ?_)
            refine lv_goto (tgt := 39) hx hb dX7_isTold_74 (by decide) ?_
            have hf := xo_go hf ho39
            exact ih39 (s39 + (nI 1)) hf _ _ hH ls (lv_sub hl [1, 0] rfl)
          · have hf := xe c8 hf
            refine lv_iconst (v := (nI 0)) hx hb dX7_isTold_69 (by decide) ?_
            have hf := xo_ret hf ho39
            exact x_retzw (f := fun u : Int32 × Int32 × Int32 × Int32 × Int32 => u.1) (wf := fun u : Int32 × Int32 × Int32 × Int32 × Int32 => [(h0, xO 7 [.int v_laws, .ref g0, .ref g1, .int v_inForce, .int v_depth, .int v_miss, .long v_ring, .int v_size, .int v_people, .ref g2, .int v_seed, .int v_taped, .ref h1, .int u.2.1, .int u.2.2.1, .int u.2.2.2.1, .int u.2.2.2.2, .ref g3, .ref g4, .ref g5, .ref g6, .int v_imaged, .ref g7, .long v_oldRing, .ref g8, .long v_aheadRing, .ref g9]), (h1, xI X 250 v_tape)]) hC hr hlk (Or.inl rfl) hf hH rfl rfl dX7_isTold_70
  refine lv_aload_n hx hb dX7_isTold_0 rfl (lv_at hl 0 rfl) ?_
  obtain ⟨u1, hf1, hf⟩ := xb hf
  refine x_ranw (ws' := [(h0, xO 7 [.int v_laws, .ref g0, .ref g1, .int v_inForce, .int v_depth, .int v_miss, .long v_ring, .int v_size, .int v_people, .ref g2, .int v_seed, .int v_taped, .ref h1, .int u1.1, .int u1.2.1, .int u1.2.2.1, .int u1.2.2.2, .ref g3, .ref g4, .ref g5, .ref g6, .int v_imaged, .ref g7, .long v_oldRing, .ref g8, .long v_aheadRing, .ref g9]), (h1, xI X 250 v_tape)]) (x_runV (q0 := 0) (rest := []) (As := []) hC mw_607 md_X7_next (c_X7_next (X := X) hf1) hH [0, 1] rfl (by decide) rfl rfl rfl hl.1 rfl rfl (Nat.le_of_ble_eq_true rfl) dX7_isTold_1 ⟨Nat.le_of_ble_eq_true rfl, Nat.le_of_ble_eq_true rfl⟩ ⟨rfl, rfl⟩ ⟨Nat.le_refl _, Nat.le_refl _⟩) hH [0, 1] rfl rfl rfl rfl rfl (fun hz1 H locs hH => ?_)
  refine lv_aload_n hx hb dX7_isTold_4 rfl (lv_at hl 0 rfl) ?_
  refine x_get hC fd_RX7_120 hH.1 0 rfl rfl dX7_isTold_5 ?_
  refine lv_bipush (v := (nI 119)) hx hb dX7_isTold_8 (by decide) ?_
  refine lv_icmp_ne (tgt := 32) hx hb dX7_isTold_10 (by decide) (fun c2 => ?_) (fun c2 => ?_)
  · have hf := xe c2 hf
    refine lv_iconst (v := (nI 0)) hx hb dX7_isTold_32 (by decide) ?_
    exact x_retzw (f := fun u : Int32 × Int32 × Int32 × Int32 × Int32 => u.1) (wf := fun u : Int32 × Int32 × Int32 × Int32 × Int32 => [(h0, xO 7 [.int v_laws, .ref g0, .ref g1, .int v_inForce, .int v_depth, .int v_miss, .long v_ring, .int v_size, .int v_people, .ref g2, .int v_seed, .int v_taped, .ref h1, .int u.2.1, .int u.2.2.1, .int u.2.2.2.1, .int u.2.2.2.2, .ref g3, .ref g4, .ref g5, .ref g6, .int v_imaged, .ref g7, .long v_oldRing, .ref g8, .long v_aheadRing, .ref g9]), (h1, xI X 250 v_tape)]) hC hr hlk (Or.inl rfl) hf hH rfl rfl dX7_isTold_33
  · have hf := xt c2 hf
    refine lv_aload_n hx hb dX7_isTold_13 rfl (lv_at hl 0 rfl) ?_
    refine x_get hC fd_RX7_114 hH.1 0 rfl rfl dX7_isTold_14 ?_
    refine lv_aload_n hx hb dX7_isTold_17 rfl (lv_at hl 0 rfl) ?_
    refine x_get hC fd_RX7_117 hH.1 0 rfl rfl dX7_isTold_18 ?_
    refine lv_isub hx hb dX7_isTold_21 ?_
    refine lv_bipush (v := (nI 40)) hx hb dX7_isTold_22 (by decide) ?_
    refine lv_aload_n hx hb dX7_isTold_24 rfl (lv_at hl 0 rfl) ?_
    refine x_get hC fd_RX7_62 hH.1 0 rfl rfl dX7_isTold_25 ?_
    refine lv_isub hx hb dX7_isTold_28 ?_
    refine lv_icmp_le (tgt := 34) hx hb dX7_isTold_29 (by decide) (fun c3 => ?_) (fun c3 => ?_)
    · have hf := xt c3 hf
      refine lv_aload_n hx hb dX7_isTold_34 rfl (lv_at hl 0 rfl) ?_
      refine x_get hC fd_RX7_117 hH.1 0 rfl rfl dX7_isTold_35 ?_
      refine lv_istore_n (lv' := [(1, .int u1.1), (0, .ref h0)]) hx hb dX7_isTold_38 rfl hl (by decide) rfl (fun ls hl => ?_)
      exact L39 u1.1 u1.2.1 u1.2.2.1 u1.2.2.2 xN u1.1 hf _ _ hH ls (lv_sub hl [1, 0] rfl)
    · have hf := xe c3 hf
      refine lv_iconst (v := (nI 0)) hx hb dX7_isTold_32 (by decide) ?_
      exact x_retzw (f := fun u : Int32 × Int32 × Int32 × Int32 × Int32 => u.1) (wf := fun u : Int32 × Int32 × Int32 × Int32 × Int32 => [(h0, xO 7 [.int v_laws, .ref g0, .ref g1, .int v_inForce, .int v_depth, .int v_miss, .long v_ring, .int v_size, .int v_people, .ref g2, .int v_seed, .int v_taped, .ref h1, .int u.2.1, .int u.2.2.1, .int u.2.2.2.1, .int u.2.2.2.2, .ref g3, .ref g4, .ref g5, .ref g6, .int v_imaged, .ref g7, .long v_oldRing, .ref g8, .long v_aheadRing, .ref g9]), (h1, xI X 250 v_tape)]) hC hr hlk (Or.inl rfl) hf hH rfl rfl dX7_isTold_33
def f_X7_statement_L189 (v_laws : Int32) (v_inForce : Int32) (v_depth : Int32) (v_miss : Int32) (v_people : Int32) (v_ages : (Nat → Int32)) (v_kind : (Nat → Int32)) (v_own : (Nat → Int32)) (v_tape : (Nat → Int32)) (x189_v_from : Int32) (x189_v_to : Int32) (x189_v_token : Int32) (x189_v_value : Int32) (s189 : Int32 × Int64 × Int32) : Option ((Int32 × Int32 × Int32 × Int32 × Int32 × Int64 × Int32 × Int32 × Int32 × Int32 × Int32 × Int32 × (Nat → Int32) × (Nat → Int32) × (Nat → Int32)) ⊕ (Int32 × Int64 × Int32)) :=
  if x189_v_to ≤ s189.1 then
    some (.inl ((nI 1), v_laws, v_inForce, v_depth, v_miss, s189.2.1, s189.2.2, v_people, x189_v_from, x189_v_to, x189_v_token, x189_v_value, v_ages, v_kind, v_own))
  else
  if xout s189.1 250 then none else
  if (v_tape (xat s189.1)) = (nI 115) then
    (f_X7_adds s189.2.1 s189.2.2 (nI 1)).bind fun u26 =>
    some (.inr (s189.1 + (nI 1), u26.1, u26.2))
  else
  (f_X7_adds s189.2.1 s189.2.2 (nI 0)).bind fun u25 =>
  some (.inr (s189.1 + (nI 1), u25.1, u25.2))
def f_X7_statement_J43 (v_laws : Int32) (v_inForce : Int32) (v_depth : Int32) (v_miss : Int32) (v_ring : Int64) (v_size : Int32) (v_people : Int32) (v_ages : (Nat → Int32)) (v_kind : (Nat → Int32)) (v_own : (Nat → Int32)) (j43_1 : Int32) (j43_v_from : Int32) (j43_v_to : Int32) (j43_v_token : Int32) (j43_v_value : Int32) (j43_s0 : Int32) : Option (Int32 × Int32 × Int32 × Int32 × Int32 × Int64 × Int32 × Int32 × Int32 × Int32 × Int32 × Int32 × (Nat → Int32) × (Nat → Int32) × (Nat → Int32)) :=
  if j43_s0 = (-1 : Int32) then
    some ((nI 0), v_laws, v_inForce, v_depth, v_miss, v_ring, v_size, v_people, j43_v_from, j43_v_to, j43_v_token, j43_v_value, v_ages, v_kind, v_own)
  else
  (f_X7_newLaw v_laws v_kind v_own j43_1 j43_s0).bind fun u38 =>
  some ((nI 1), u38.2.1, v_inForce, v_depth, v_miss, v_ring, v_size, v_people, j43_v_from, j43_v_to, j43_v_token, j43_v_value, v_ages, u38.2.2.1, u38.2.2.2)
def f_X7_statement (v_laws : Int32) (v_inForce : Int32) (v_depth : Int32) (v_miss : Int32) (v_ring : Int64) (v_size : Int32) (v_people : Int32) (v_taped : Int32) (v_from : Int32) (v_to : Int32) (v_token : Int32) (v_value : Int32) (v_ages : (Nat → Int32)) (v_kind : (Nat → Int32)) (v_own : (Nat → Int32)) (v_tape : (Nat → Int32)) : Option (Int32 × Int32 × Int32 × Int32 × Int32 × Int64 × Int32 × Int32 × Int32 × Int32 × Int32 × Int32 × (Nat → Int32) × (Nat → Int32) × (Nat → Int32)) :=
  (f_X7_isWord v_from v_to v_token v_tape 0).bind fun u1 =>
  if u1 = (nI 0) then
    (f_X7_isWord v_from v_to v_token v_tape 1).bind fun u3 =>
    if u3 = (nI 0) then
      (f_X7_isWord v_from v_to v_token v_tape 2).bind fun u5 =>
      if u5 = (nI 0) then
        (f_X7_isWord v_from v_to v_token v_tape 3).bind fun u7 =>
        if u7 = (nI 0) then
          (f_X7_isWord v_from v_to v_token v_tape 4).bind fun u9 =>
          if u9 = (nI 0) then
            (f_X7_isWord v_from v_to v_token v_tape 5).bind fun u11 =>
            if u11 = (nI 0) then
              (f_X7_isWord v_from v_to v_token v_tape 6).bind fun u13 =>
              if u13 = (nI 0) then
                some ((nI 0), v_laws, v_inForce, v_depth, v_miss, v_ring, v_size, v_people, v_from, v_to, v_token, v_value, v_ages, v_kind, v_own)
              else
              some ((nI 1), v_laws, v_inForce, v_depth, v_miss, (lN 0), (nI 0), v_people, v_from, v_to, v_token, v_value, v_ages, v_kind, v_own)
            else
            if v_people = (nI 10) then
              some ((nI 0), v_laws, v_inForce, v_depth, v_miss, v_ring, v_size, v_people, v_from, v_to, v_token, v_value, v_ages, v_kind, v_own)
            else
            (f_X7_number v_taped v_from v_to v_token v_value v_tape (nI 1) (nI 99)).bind fun u16 =>
            if u16.1 = (-1 : Int32) then
              some ((nI 0), v_laws, v_inForce, v_depth, v_miss, v_ring, v_size, v_people, u16.2.1, u16.2.2.1, u16.2.2.2.1, u16.2.2.2.2, v_ages, v_kind, v_own)
            else
            (f_X7_newOne v_people v_ages u16.1).bind fun u18 =>
            some ((nI 1), v_laws, v_inForce, v_depth, v_miss, v_ring, v_size, u18.2.1, u16.2.1, u16.2.2.1, u16.2.2.2.1, u16.2.2.2.2, u18.2.2, v_kind, v_own)
          else
          if v_size = (nI 40) then
            some ((nI 0), v_laws, v_inForce, v_depth, v_miss, v_ring, v_size, v_people, v_from, v_to, v_token, v_value, v_ages, v_kind, v_own)
          else
          (f_X7_isTold v_size v_taped v_from v_to v_token v_value v_tape).bind fun u20 =>
          if u20.1 = (nI 0) then
            some ((nI 0), v_laws, v_inForce, v_depth, v_miss, v_ring, v_size, v_people, u20.2.1, u20.2.2.1, u20.2.2.2.1, u20.2.2.2.2, v_ages, v_kind, v_own)
          else
          xloop (f_X7_statement_L189 v_laws v_inForce v_depth v_miss v_people v_ages v_kind v_own v_tape u20.2.1 u20.2.2.1 u20.2.2.2.1 u20.2.2.2.2) xN (u20.2.1, v_ring, v_size)
        else
        (f_X7_number v_taped v_from v_to v_token v_value v_tape (nI 0) (nI 100)).bind fun u27 =>
        if u27.1 = (-1 : Int32) then
          some ((nI 0), v_laws, v_inForce, v_depth, v_miss, v_ring, v_size, v_people, u27.2.1, u27.2.2.1, u27.2.2.2.1, u27.2.2.2.2, v_ages, v_kind, v_own)
        else
        some ((nI 1), v_laws, v_inForce, v_depth, u27.1, v_ring, v_size, v_people, u27.2.1, u27.2.2.1, u27.2.2.2.1, u27.2.2.2.2, v_ages, v_kind, v_own)
      else
      (f_X7_number v_taped v_from v_to v_token v_value v_tape (nI 0) (nI 9)).bind fun u29 =>
      if u29.1 = (-1 : Int32) then
        some ((nI 0), v_laws, v_inForce, v_depth, v_miss, v_ring, v_size, v_people, u29.2.1, u29.2.2.1, u29.2.2.2.1, u29.2.2.2.2, v_ages, v_kind, v_own)
      else
      some ((nI 1), v_laws, v_inForce, u29.1, v_miss, v_ring, v_size, v_people, u29.2.1, u29.2.2.1, u29.2.2.2.1, u29.2.2.2.2, v_ages, v_kind, v_own)
    else
    (f_X7_number v_taped v_from v_to v_token v_value v_tape (nI 0) (v_laws - (nI 1))).bind fun u31 =>
    if u31.1 = (-1 : Int32) then
      some ((nI 0), v_laws, v_inForce, v_depth, v_miss, v_ring, v_size, v_people, u31.2.1, u31.2.2.1, u31.2.2.2.1, u31.2.2.2.2, v_ages, v_kind, v_own)
    else
    some ((nI 1), v_laws, u31.1, v_depth, v_miss, v_ring, v_size, v_people, u31.2.1, u31.2.2.1, u31.2.2.2.1, u31.2.2.2.2, v_ages, v_kind, v_own)
  else
  if v_laws = (nI 6) then
    some ((nI 0), v_laws, v_inForce, v_depth, v_miss, v_ring, v_size, v_people, v_from, v_to, v_token, v_value, v_ages, v_kind, v_own)
  else
  (f_X7_number v_taped v_from v_to v_token v_value v_tape (nI 0) (nI 5)).bind fun u34 =>
  if u34.1 = (-1 : Int32) then
    f_X7_statement_J43 v_laws v_inForce v_depth v_miss v_ring v_size v_people v_ages v_kind v_own u34.1 u34.2.1 u34.2.2.1 u34.2.2.2.1 u34.2.2.2.2 (-1 : Int32)
  else
  (f_X7_number v_taped u34.2.1 u34.2.2.1 u34.2.2.2.1 u34.2.2.2.2 v_tape (nI 0) (nI 9)).bind fun u36 =>
  f_X7_statement_J43 v_laws v_inForce v_depth v_miss v_ring v_size v_people v_ages v_kind v_own u34.1 u36.2.1 u36.2.2.1 u36.2.2.2.1 u36.2.2.2.2 u36.1
set_option maxHeartbeats 4000000 in
set_option maxRecDepth 100000 in
theorem c_X7_statement {l : Launch} {X : xG} {h0 h1 h2 h3 h4 g0 g1 g2 g3 g4 g5 g6 : Nat} {v_laws : Int32} {v_inForce : Int32} {v_depth : Int32} {v_miss : Int32} {v_ring : Int64} {v_size : Int32} {v_people : Int32} {v_seed : Int32} {v_taped : Int32} {v_from : Int32} {v_to : Int32} {v_token : Int32} {v_value : Int32} {v_imaged : Int32} {v_oldRing : Int64} {v_aheadRing : Int64} {v_ages : (Nat → Int32)} {v_kind : (Nat → Int32)} {v_own : (Nat → Int32)} {v_tape : (Nat → Int32)} {u : Int32 × Int32 × Int32 × Int32 × Int32 × Int64 × Int32 × Int32 × Int32 × Int32 × Int32 × Int32 × (Nat → Int32) × (Nat → Int32) × (Nat → Int32)} (hf : f_X7_statement v_laws v_inForce v_depth v_miss v_ring v_size v_people v_taped v_from v_to v_token v_value v_ages v_kind v_own v_tape = some u) : Met l yX7_statement (xw yX7_statement cX7_statement 3 (some .boolean)) (xrm 5 107) (xPc [.ref h0] X [(h0, xO 7 [.int v_laws, .ref h2, .ref h3, .int v_inForce, .int v_depth, .int v_miss, .long v_ring, .int v_size, .int v_people, .ref h1, .int v_seed, .int v_taped, .ref h4, .int v_from, .int v_to, .int v_token, .int v_value, .ref g0, .ref g1, .ref g2, .ref g3, .int v_imaged, .ref g4, .long v_oldRing, .ref g5, .long v_aheadRing, .ref g6]), (h1, xI X 10 v_ages), (h2, xI X 6 v_kind), (h3, xI X 6 v_own), (h4, xI X 250 v_tape)]) (xQw (u.1 = 0 ∨ u.1 = 1) (.returned (some (.int u.1))) X [(h0, xO 7 [.int u.2.1, .ref h2, .ref h3, .int u.2.2.1, .int u.2.2.2.1, .int u.2.2.2.2.1, .long u.2.2.2.2.2.1, .int u.2.2.2.2.2.2.1, .int u.2.2.2.2.2.2.2.1, .ref h1, .int v_seed, .int v_taped, .ref h4, .int u.2.2.2.2.2.2.2.2.1, .int u.2.2.2.2.2.2.2.2.2.1, .int u.2.2.2.2.2.2.2.2.2.2.1, .int u.2.2.2.2.2.2.2.2.2.2.2.1, .ref g0, .ref g1, .ref g2, .ref g3, .int v_imaged, .ref g4, .long v_oldRing, .ref g5, .long v_aheadRing, .ref g6]), (h1, xI X 10 u.2.2.2.2.2.2.2.2.2.2.2.2.1), (h2, xI X 6 u.2.2.2.2.2.2.2.2.2.2.2.2.2.1), (h3, xI X 6 u.2.2.2.2.2.2.2.2.2.2.2.2.2.2), (h4, xI X 250 v_tape)] (xAs [(h0, xO 7 [.int v_laws, .ref h2, .ref h3, .int v_inForce, .int v_depth, .int v_miss, .long v_ring, .int v_size, .int v_people, .ref h1, .int v_seed, .int v_taped, .ref h4, .int v_from, .int v_to, .int v_token, .int v_value, .ref g0, .ref g1, .ref g2, .ref g3, .int v_imaged, .ref g4, .long v_oldRing, .ref g5, .long v_aheadRing, .ref g6]), (h1, xI X 10 v_ages), (h2, xI X 6 v_kind), (h3, xI X 6 v_own), (h4, xI X 250 v_tape)])) 0 0 (xAs [(h0, xO 7 [.int v_laws, .ref h2, .ref h3, .int v_inForce, .int v_depth, .int v_miss, .long v_ring, .int v_size, .int v_people, .ref h1, .int v_seed, .int v_taped, .ref h4, .int v_from, .int v_to, .int v_token, .int v_value, .ref g0, .ref g1, .ref g2, .ref g3, .int v_imaged, .ref g4, .long v_oldRing, .ref g5, .long v_aheadRing, .ref g6]), (h1, xI X 10 v_ages), (h2, xI X 6 v_kind), (h3, xI X 6 v_own), (h4, xI X 250 v_tape)]) := by
  refine xMetw (Qc := fun A => xQw (u.1 = 0 ∨ u.1 = 1) (.returned (some (.int u.1))) X [(h0, xO 7 [.int u.2.1, .ref h2, .ref h3, .int u.2.2.1, .int u.2.2.2.1, .int u.2.2.2.2.1, .long u.2.2.2.2.2.1, .int u.2.2.2.2.2.2.1, .int u.2.2.2.2.2.2.2.1, .ref h1, .int v_seed, .int v_taped, .ref h4, .int u.2.2.2.2.2.2.2.2.1, .int u.2.2.2.2.2.2.2.2.2.1, .int u.2.2.2.2.2.2.2.2.2.2.1, .int u.2.2.2.2.2.2.2.2.2.2.2.1, .ref g0, .ref g1, .ref g2, .ref g3, .int v_imaged, .ref g4, .long v_oldRing, .ref g5, .long v_aheadRing, .ref g6]), (h1, xI X 10 u.2.2.2.2.2.2.2.2.2.2.2.2.1), (h2, xI X 6 u.2.2.2.2.2.2.2.2.2.2.2.2.2.1), (h3, xI X 6 u.2.2.2.2.2.2.2.2.2.2.2.2.2.2), (h4, xI X 250 v_tape)] A) (n := 0) md_X7_statement.1 (Nat.le_of_ble_eq_true rfl) ?_
  intro p e s m args below meth c ls A hC hr hlk hH hl
  have hl : lv_has ls 3 [(0, .ref h0)] := hl
  have hx := hC.1
  have hb := hC.2.1
  have L189 : ∀ (x189_v_from : Int32) (x189_v_to : Int32) (x189_v_token : Int32) (x189_v_value : Int32) (n : Nat) (s189 : Int32 × Int64 × Int32), xloop (f_X7_statement_L189 v_laws v_inForce v_depth v_miss v_people v_ages v_kind v_own v_tape x189_v_from x189_v_to x189_v_token x189_v_value) n s189 = some u → ∀ (H : Heap) (locs : List Loc), xH X A [(h0, xO 7 [.int v_laws, .ref h2, .ref h3, .int v_inForce, .int v_depth, .int v_miss, .long s189.2.1, .int s189.2.2, .int v_people, .ref h1, .int v_seed, .int v_taped, .ref h4, .int x189_v_from, .int x189_v_to, .int x189_v_token, .int x189_v_value, .ref g0, .ref g1, .ref g2, .ref g3, .int v_imaged, .ref g4, .long v_oldRing, .ref g5, .long v_aheadRing, .ref g6]), (h1, xI X 10 v_ages), (h2, xI X 6 v_kind), (h3, xI X 6 v_own), (h4, xI X 250 v_tape)] s.heap H locs → ∀ (ls : Array Slot), lv_has ls 3 [(0, .ref h0), (2, .int s189.1)] → W p l e (xrm 5 107) s m args below meth c H locs 0 0 (MQ below (xQw (u.1 = 0 ∨ u.1 = 1) (.returned (some (.int u.1))) X [(h0, xO 7 [.int u.2.1, .ref h2, .ref h3, .int u.2.2.1, .int u.2.2.2.1, .int u.2.2.2.2.1, .long u.2.2.2.2.2.1, .int u.2.2.2.2.2.2.1, .int u.2.2.2.2.2.2.2.1, .ref h1, .int v_seed, .int v_taped, .ref h4, .int u.2.2.2.2.2.2.2.2.1, .int u.2.2.2.2.2.2.2.2.2.1, .int u.2.2.2.2.2.2.2.2.2.2.1, .int u.2.2.2.2.2.2.2.2.2.2.2.1, .ref g0, .ref g1, .ref g2, .ref g3, .int v_imaged, .ref g4, .long v_oldRing, .ref g5, .long v_aheadRing, .ref g6]), (h1, xI X 10 u.2.2.2.2.2.2.2.2.2.2.2.2.1), (h2, xI X 6 u.2.2.2.2.2.2.2.2.2.2.2.2.2.1), (h3, xI X 6 u.2.2.2.2.2.2.2.2.2.2.2.2.2.2), (h4, xI X 250 v_tape)] A) args s 0 0 A) (F0 m 189 ls []) := by
    intro x189_v_from x189_v_to x189_v_token x189_v_value n
    induction n with
    | zero => intro s189 hf; exact xloop_0 hf
    | succ n ih189 =>
      intro s189 hf H locs hH ls hl
      obtain ⟨o189, hf, ho189⟩ := xloop_s hf
      refine lv_iload_n hx hb dX7_statement_189 rfl (lv_at hl 1 rfl) ?_
      refine lv_aload_n hx hb dX7_statement_190 rfl (lv_at hl 0 rfl) ?_
      refine x_get hC fd_RX7_114 hH.1 0 rfl rfl dX7_statement_191 ?_
      refine lv_icmp_ge (tgt := 223) hx hb dX7_statement_194 (by decide) (fun c22 => ?_) (fun c22 => ?_)
      · have hf := xt c22 hf
        refine lv_iconst (v := (nI 1)) hx hb dX7_statement_223 (by decide) ?_
        have hf := xo_ret hf ho189
        exact x_retzw (f := fun u : Int32 × Int32 × Int32 × Int32 × Int32 × Int64 × Int32 × Int32 × Int32 × Int32 × Int32 × Int32 × (Nat → Int32) × (Nat → Int32) × (Nat → Int32) => u.1) (wf := fun u : Int32 × Int32 × Int32 × Int32 × Int32 × Int64 × Int32 × Int32 × Int32 × Int32 × Int32 × Int32 × (Nat → Int32) × (Nat → Int32) × (Nat → Int32) => [(h0, xO 7 [.int u.2.1, .ref h2, .ref h3, .int u.2.2.1, .int u.2.2.2.1, .int u.2.2.2.2.1, .long u.2.2.2.2.2.1, .int u.2.2.2.2.2.2.1, .int u.2.2.2.2.2.2.2.1, .ref h1, .int v_seed, .int v_taped, .ref h4, .int u.2.2.2.2.2.2.2.2.1, .int u.2.2.2.2.2.2.2.2.2.1, .int u.2.2.2.2.2.2.2.2.2.2.1, .int u.2.2.2.2.2.2.2.2.2.2.2.1, .ref g0, .ref g1, .ref g2, .ref g3, .int v_imaged, .ref g4, .long v_oldRing, .ref g5, .long v_aheadRing, .ref g6]), (h1, xI X 10 u.2.2.2.2.2.2.2.2.2.2.2.2.1), (h2, xI X 6 u.2.2.2.2.2.2.2.2.2.2.2.2.2.1), (h3, xI X 6 u.2.2.2.2.2.2.2.2.2.2.2.2.2.2), (h4, xI X 250 v_tape)]) hC hr hlk (Or.inr rfl) hf hH rfl rfl dX7_statement_224
      · have hf := xe c22 hf
        refine lv_aload_n hx hb dX7_statement_197 rfl (lv_at hl 0 rfl) ?_
        refine lv_aload_n hx hb dX7_statement_198 rfl (lv_at hl 0 rfl) ?_
        refine x_get hC fd_RX7_19 hH.1 0 rfl rfl dX7_statement_199 ?_
        refine lv_iload_n hx hb dX7_statement_202 rfl (lv_at hl 1 rfl) ?_
        obtain ⟨n23, hf⟩ := xok hf
        refine x_iald hC hH.1 4 rfl n23 dX7_statement_203 ?_
        refine lv_bipush (v := (nI 115)) hx hb dX7_statement_204 (by decide) ?_
        refine lv_icmp_ne (tgt := 213) hx hb dX7_statement_206 (by decide) (fun c24 => ?_) (fun c24 => ?_)
        · have hf := xe c24 hf
          refine lv_iconst (v := (nI 0)) hx hb dX7_statement_213 (by decide) ?_
          obtain ⟨u25, hf25, hf⟩ := xb hf
          refine x_ranw (ws' := [(h0, xO 7 [.int v_laws, .ref h2, .ref h3, .int v_inForce, .int v_depth, .int v_miss, .long u25.1, .int u25.2, .int v_people, .ref h1, .int v_seed, .int v_taped, .ref h4, .int x189_v_from, .int x189_v_to, .int x189_v_token, .int x189_v_value, .ref g0, .ref g1, .ref g2, .ref g3, .int v_imaged, .ref g4, .long v_oldRing, .ref g5, .long v_aheadRing, .ref g6]), (h1, xI X 10 v_ages), (h2, xI X 6 v_kind), (h3, xI X 6 v_own), (h4, xI X 250 v_tape)]) (x_runV (q0 := 0) (rest := []) (As := [.int (nI 0)]) hC mw_636 md_X7_adds (c_X7_adds (X := X) hf25) hH [0] rfl (by decide) rfl rfl rfl hl.1 rfl rfl (Nat.le_of_ble_eq_true rfl) dX7_statement_214 ⟨Nat.le_of_ble_eq_true rfl, Nat.le_of_ble_eq_true rfl⟩ ⟨rfl, rfl⟩ ⟨Nat.le_refl _, Nat.le_refl _⟩) hH [0] rfl rfl rfl rfl rfl (fun hz25 H locs hH => ?_)
          refine lv_iinc (v := s189.1 + (nI 1)) (lv' := [(2, .int (s189.1 + (nI 1))), (0, .ref h0)]) hx hb dX7_statement_217 hl (k := 1) rfl rfl (by decide) rfl (fun ls hl => ?_)
          refine lv_goto (tgt := 189) hx hb dX7_statement_220 (by decide) ?_
          have hf := xo_go hf ho189
          exact ih189 (s189.1 + (nI 1), u25.1, u25.2) hf _ _ hH ls (lv_sub hl [1, 0] rfl)
        · have hf := xt c24 hf
          refine lv_iconst (v := (nI 1)) hx hb dX7_statement_209 (by decide) ?_
          refine lv_goto (tgt := 214) hx hb dX7_statement_210 (by decide) ?_
          obtain ⟨u26, hf26, hf⟩ := xb hf
          refine x_ranw (ws' := [(h0, xO 7 [.int v_laws, .ref h2, .ref h3, .int v_inForce, .int v_depth, .int v_miss, .long u26.1, .int u26.2, .int v_people, .ref h1, .int v_seed, .int v_taped, .ref h4, .int x189_v_from, .int x189_v_to, .int x189_v_token, .int x189_v_value, .ref g0, .ref g1, .ref g2, .ref g3, .int v_imaged, .ref g4, .long v_oldRing, .ref g5, .long v_aheadRing, .ref g6]), (h1, xI X 10 v_ages), (h2, xI X 6 v_kind), (h3, xI X 6 v_own), (h4, xI X 250 v_tape)]) (x_runV (q0 := 0) (rest := []) (As := [.int (nI 1)]) hC mw_636 md_X7_adds (c_X7_adds (X := X) hf26) hH [0] rfl (by decide) rfl rfl rfl hl.1 rfl rfl (Nat.le_of_ble_eq_true rfl) dX7_statement_214 ⟨Nat.le_of_ble_eq_true rfl, Nat.le_of_ble_eq_true rfl⟩ ⟨rfl, rfl⟩ ⟨Nat.le_refl _, Nat.le_refl _⟩) hH [0] rfl rfl rfl rfl rfl (fun hz26 H locs hH => ?_)
          refine lv_iinc (v := s189.1 + (nI 1)) (lv' := [(2, .int (s189.1 + (nI 1))), (0, .ref h0)]) hx hb dX7_statement_217 hl (k := 1) rfl rfl (by decide) rfl (fun ls hl => ?_)
          refine lv_goto (tgt := 189) hx hb dX7_statement_220 (by decide) ?_
          have hf := xo_go hf ho189
          exact ih189 (s189.1 + (nI 1), u26.1, u26.2) hf _ _ hH ls (lv_sub hl [1, 0] rfl)
  have J43 : ∀ (j43_1 : Int32) (j43_v_from : Int32) (j43_v_to : Int32) (j43_v_token : Int32) (j43_v_value : Int32) (j43_s0 : Int32), f_X7_statement_J43 v_laws v_inForce v_depth v_miss v_ring v_size v_people v_ages v_kind v_own j43_1 j43_v_from j43_v_to j43_v_token j43_v_value j43_s0 = some u → ∀ (H : Heap) (locs : List Loc), xH X A [(h0, xO 7 [.int v_laws, .ref h2, .ref h3, .int v_inForce, .int v_depth, .int v_miss, .long v_ring, .int v_size, .int v_people, .ref h1, .int v_seed, .int v_taped, .ref h4, .int j43_v_from, .int j43_v_to, .int j43_v_token, .int j43_v_value, .ref g0, .ref g1, .ref g2, .ref g3, .int v_imaged, .ref g4, .long v_oldRing, .ref g5, .long v_aheadRing, .ref g6]), (h1, xI X 10 v_ages), (h2, xI X 6 v_kind), (h3, xI X 6 v_own), (h4, xI X 250 v_tape)] s.heap H locs → ∀ (ls : Array Slot), lv_has ls 3 [(0, .ref h0), (1, .int j43_1)] → W p l e (xrm 5 107) s m args below meth c H locs 0 0 (MQ below (xQw (u.1 = 0 ∨ u.1 = 1) (.returned (some (.int u.1))) X [(h0, xO 7 [.int u.2.1, .ref h2, .ref h3, .int u.2.2.1, .int u.2.2.2.1, .int u.2.2.2.2.1, .long u.2.2.2.2.2.1, .int u.2.2.2.2.2.2.1, .int u.2.2.2.2.2.2.2.1, .ref h1, .int v_seed, .int v_taped, .ref h4, .int u.2.2.2.2.2.2.2.2.1, .int u.2.2.2.2.2.2.2.2.2.1, .int u.2.2.2.2.2.2.2.2.2.2.1, .int u.2.2.2.2.2.2.2.2.2.2.2.1, .ref g0, .ref g1, .ref g2, .ref g3, .int v_imaged, .ref g4, .long v_oldRing, .ref g5, .long v_aheadRing, .ref g6]), (h1, xI X 10 u.2.2.2.2.2.2.2.2.2.2.2.2.1), (h2, xI X 6 u.2.2.2.2.2.2.2.2.2.2.2.2.2.1), (h3, xI X 6 u.2.2.2.2.2.2.2.2.2.2.2.2.2.2), (h4, xI X 250 v_tape)] A) args s 0 0 A) (F0 m 43 ls [.int j43_s0]) := by
    intro j43_1 j43_v_from j43_v_to j43_v_token j43_v_value j43_s0 hf H locs hH ls hl
    refine lv_istore_n (lv' := [(2, .int j43_s0), (0, .ref h0), (1, .int j43_1)]) hx hb dX7_statement_43 rfl hl (by decide) rfl (fun ls hl => ?_)
    refine lv_iload_n hx hb dX7_statement_44 rfl (lv_at hl 0 rfl) ?_
    refine lv_iconst (v := (-1 : Int32)) hx hb dX7_statement_45 (by decide) ?_
    refine lv_icmp_ne (tgt := 51) hx hb dX7_statement_46 (by decide) (fun c37 => ?_) (fun c37 => ?_)
    · have hf := xe c37 hf
      refine lv_aload_n hx hb dX7_statement_51 rfl (lv_at hl 1 rfl) ?_
      refine lv_iload_n hx hb dX7_statement_52 rfl (lv_at hl 2 rfl) ?_
      refine lv_iload_n hx hb dX7_statement_53 rfl (lv_at hl 0 rfl) ?_
      obtain ⟨u38, hf38, hf⟩ := xb hf
      refine x_ranw (ws' := [(h0, xO 7 [.int u38.2.1, .ref h2, .ref h3, .int v_inForce, .int v_depth, .int v_miss, .long v_ring, .int v_size, .int v_people, .ref h1, .int v_seed, .int v_taped, .ref h4, .int j43_v_from, .int j43_v_to, .int j43_v_token, .int j43_v_value, .ref g0, .ref g1, .ref g2, .ref g3, .int v_imaged, .ref g4, .long v_oldRing, .ref g5, .long v_aheadRing, .ref g6]), (h1, xI X 10 v_ages), (h2, xI X 6 u38.2.2.1), (h3, xI X 6 u38.2.2.2), (h4, xI X 250 v_tape)]) (x_runV (q0 := 0) (rest := []) (As := [.int j43_1, .int j43_s0]) hC mw_363 md_X7_newLaw (c_X7_newLaw (X := X) hf38) hH [0, 2, 3] rfl (by decide) rfl rfl rfl hl.1 rfl rfl (Nat.le_of_ble_eq_true rfl) dX7_statement_54 ⟨Nat.le_of_ble_eq_true rfl, Nat.le_of_ble_eq_true rfl⟩ ⟨rfl, rfl⟩ ⟨Nat.le_refl _, Nat.le_refl _⟩) hH [0, 2, 3] rfl rfl rfl rfl rfl (fun hz38 H locs hH => ?_)
      refine lv_pop hx hb dX7_statement_57 rfl ?_
      refine lv_iconst (v := (nI 1)) hx hb dX7_statement_58 (by decide) ?_
      exact x_retzw (f := fun u : Int32 × Int32 × Int32 × Int32 × Int32 × Int64 × Int32 × Int32 × Int32 × Int32 × Int32 × Int32 × (Nat → Int32) × (Nat → Int32) × (Nat → Int32) => u.1) (wf := fun u : Int32 × Int32 × Int32 × Int32 × Int32 × Int64 × Int32 × Int32 × Int32 × Int32 × Int32 × Int32 × (Nat → Int32) × (Nat → Int32) × (Nat → Int32) => [(h0, xO 7 [.int u.2.1, .ref h2, .ref h3, .int u.2.2.1, .int u.2.2.2.1, .int u.2.2.2.2.1, .long u.2.2.2.2.2.1, .int u.2.2.2.2.2.2.1, .int u.2.2.2.2.2.2.2.1, .ref h1, .int v_seed, .int v_taped, .ref h4, .int u.2.2.2.2.2.2.2.2.1, .int u.2.2.2.2.2.2.2.2.2.1, .int u.2.2.2.2.2.2.2.2.2.2.1, .int u.2.2.2.2.2.2.2.2.2.2.2.1, .ref g0, .ref g1, .ref g2, .ref g3, .int v_imaged, .ref g4, .long v_oldRing, .ref g5, .long v_aheadRing, .ref g6]), (h1, xI X 10 u.2.2.2.2.2.2.2.2.2.2.2.2.1), (h2, xI X 6 u.2.2.2.2.2.2.2.2.2.2.2.2.2.1), (h3, xI X 6 u.2.2.2.2.2.2.2.2.2.2.2.2.2.2), (h4, xI X 250 v_tape)]) hC hr hlk (Or.inr rfl) hf hH rfl rfl dX7_statement_59
    · have hf := xt c37 hf
      refine lv_iconst (v := (nI 0)) hx hb dX7_statement_49 (by decide) ?_
      exact x_retzw (f := fun u : Int32 × Int32 × Int32 × Int32 × Int32 × Int64 × Int32 × Int32 × Int32 × Int32 × Int32 × Int32 × (Nat → Int32) × (Nat → Int32) × (Nat → Int32) => u.1) (wf := fun u : Int32 × Int32 × Int32 × Int32 × Int32 × Int64 × Int32 × Int32 × Int32 × Int32 × Int32 × Int32 × (Nat → Int32) × (Nat → Int32) × (Nat → Int32) => [(h0, xO 7 [.int u.2.1, .ref h2, .ref h3, .int u.2.2.1, .int u.2.2.2.1, .int u.2.2.2.2.1, .long u.2.2.2.2.2.1, .int u.2.2.2.2.2.2.1, .int u.2.2.2.2.2.2.2.1, .ref h1, .int v_seed, .int v_taped, .ref h4, .int u.2.2.2.2.2.2.2.2.1, .int u.2.2.2.2.2.2.2.2.2.1, .int u.2.2.2.2.2.2.2.2.2.2.1, .int u.2.2.2.2.2.2.2.2.2.2.2.1, .ref g0, .ref g1, .ref g2, .ref g3, .int v_imaged, .ref g4, .long v_oldRing, .ref g5, .long v_aheadRing, .ref g6]), (h1, xI X 10 u.2.2.2.2.2.2.2.2.2.2.2.2.1), (h2, xI X 6 u.2.2.2.2.2.2.2.2.2.2.2.2.2.1), (h3, xI X 6 u.2.2.2.2.2.2.2.2.2.2.2.2.2.2), (h4, xI X 250 v_tape)]) hC hr hlk (Or.inl rfl) hf hH rfl rfl dX7_statement_50
  refine lv_aload_n hx hb dX7_statement_0 rfl (lv_at hl 0 rfl) ?_
  refine x_ldcS (i := 0) hC (List.mem_of_getElem? (i := 7) rfl) dX7_statement_1 ?_
  obtain ⟨u1, hf1, hf⟩ := xb hf
  refine x_ran (x_runV (q0 := 0) (rest := []) (As := [.ref (X.2.2.2.2.1 0)]) hC mw_622 md_X7_isWord (c_X7_isWord (X := X) hf1) hH [0, 4] rfl (by decide) rfl rfl rfl hl.1 rfl rfl (Nat.le_of_ble_eq_true rfl) dX7_statement_3 ⟨Nat.le_of_ble_eq_true rfl, Nat.le_of_ble_eq_true rfl⟩ ⟨rfl, rfl⟩ ⟨Nat.le_refl _, Nat.le_refl _⟩) rfl (fun hz1 => ?_)
  refine lv_if_eq (tgt := 60) hx hb dX7_statement_6 (by decide) (fun c2 => ?_) (fun c2 => ?_)
  · have hf := xt c2 hf
    refine lv_aload_n hx hb dX7_statement_60 rfl (lv_at hl 0 rfl) ?_
    refine x_ldcS (i := 1) hC (List.mem_of_getElem? (i := 8) rfl) dX7_statement_61 ?_
    obtain ⟨u3, hf3, hf⟩ := xb hf
    refine x_ran (x_runV (q0 := 0) (rest := []) (As := [.ref (X.2.2.2.2.1 1)]) hC mw_622 md_X7_isWord (c_X7_isWord (X := X) hf3) hH [0, 4] rfl (by decide) rfl rfl rfl hl.1 rfl rfl (Nat.le_of_ble_eq_true rfl) dX7_statement_63 ⟨Nat.le_of_ble_eq_true rfl, Nat.le_of_ble_eq_true rfl⟩ ⟨rfl, rfl⟩ ⟨Nat.le_refl _, Nat.le_refl _⟩) rfl (fun hz3 => ?_)
    refine lv_if_eq (tgt := 95) hx hb dX7_statement_66 (by decide) (fun c4 => ?_) (fun c4 => ?_)
    · have hf := xt c4 hf
      refine lv_aload_n hx hb dX7_statement_95 rfl (lv_at hl 0 rfl) ?_
      refine x_ldcS (i := 2) hC (List.mem_of_getElem? (i := 9) rfl) dX7_statement_96 ?_
      obtain ⟨u5, hf5, hf⟩ := xb hf
      refine x_ran (x_runV (q0 := 0) (rest := []) (As := [.ref (X.2.2.2.2.1 2)]) hC mw_622 md_X7_isWord (c_X7_isWord (X := X) hf5) hH [0, 4] rfl (by decide) rfl rfl rfl hl.1 rfl rfl (Nat.le_of_ble_eq_true rfl) dX7_statement_98 ⟨Nat.le_of_ble_eq_true rfl, Nat.le_of_ble_eq_true rfl⟩ ⟨rfl, rfl⟩ ⟨Nat.le_refl _, Nat.le_refl _⟩) rfl (fun hz5 => ?_)
      refine lv_if_eq (tgt := 126) hx hb dX7_statement_101 (by decide) (fun c6 => ?_) (fun c6 => ?_)
      · have hf := xt c6 hf
        refine lv_aload_n hx hb dX7_statement_126 rfl (lv_at hl 0 rfl) ?_
        refine x_ldcS (i := 3) hC (List.mem_of_getElem? (i := 10) rfl) dX7_statement_127 ?_
        obtain ⟨u7, hf7, hf⟩ := xb hf
        refine x_ran (x_runV (q0 := 0) (rest := []) (As := [.ref (X.2.2.2.2.1 3)]) hC mw_622 md_X7_isWord (c_X7_isWord (X := X) hf7) hH [0, 4] rfl (by decide) rfl rfl rfl hl.1 rfl rfl (Nat.le_of_ble_eq_true rfl) dX7_statement_129 ⟨Nat.le_of_ble_eq_true rfl, Nat.le_of_ble_eq_true rfl⟩ ⟨rfl, rfl⟩ ⟨Nat.le_refl _, Nat.le_refl _⟩) rfl (fun hz7 => ?_)
        refine lv_if_eq (tgt := 157) hx hb dX7_statement_132 (by decide) (fun c8 => ?_) (fun c8 => ?_)
        · have hf := xt c8 hf
          refine lv_aload_n hx hb dX7_statement_157 rfl (lv_at hl 0 rfl) ?_
          refine x_ldcS (i := 4) hC (List.mem_of_getElem? (i := 11) rfl) dX7_statement_158 ?_
          obtain ⟨u9, hf9, hf⟩ := xb hf
          refine x_ran (x_runV (q0 := 0) (rest := []) (As := [.ref (X.2.2.2.2.1 4)]) hC mw_622 md_X7_isWord (c_X7_isWord (X := X) hf9) hH [0, 4] rfl (by decide) rfl rfl rfl hl.1 rfl rfl (Nat.le_of_ble_eq_true rfl) dX7_statement_160 ⟨Nat.le_of_ble_eq_true rfl, Nat.le_of_ble_eq_true rfl⟩ ⟨rfl, rfl⟩ ⟨Nat.le_refl _, Nat.le_refl _⟩) rfl (fun hz9 => ?_)
          refine lv_if_eq (tgt := 225) hx hb dX7_statement_163 (by decide) (fun c10 => ?_) (fun c10 => ?_)
          · have hf := xt c10 hf
            refine lv_aload_n hx hb dX7_statement_225 rfl (lv_at hl 0 rfl) ?_
            refine x_ldcS (i := 5) hC (List.mem_of_getElem? (i := 12) rfl) dX7_statement_226 ?_
            obtain ⟨u11, hf11, hf⟩ := xb hf
            refine x_ran (x_runV (q0 := 0) (rest := []) (As := [.ref (X.2.2.2.2.1 5)]) hC mw_622 md_X7_isWord (c_X7_isWord (X := X) hf11) hH [0, 4] rfl (by decide) rfl rfl rfl hl.1 rfl rfl (Nat.le_of_ble_eq_true rfl) dX7_statement_228 ⟨Nat.le_of_ble_eq_true rfl, Nat.le_of_ble_eq_true rfl⟩ ⟨rfl, rfl⟩ ⟨Nat.le_refl _, Nat.le_refl _⟩) rfl (fun hz11 => ?_)
            refine lv_if_eq (tgt := 268) hx hb dX7_statement_231 (by decide) (fun c12 => ?_) (fun c12 => ?_)
            · have hf := xt c12 hf
              refine lv_aload_n hx hb dX7_statement_268 rfl (lv_at hl 0 rfl) ?_
              refine x_ldcS (i := 6) hC (List.mem_of_getElem? (i := 13) rfl) dX7_statement_269 ?_
              obtain ⟨u13, hf13, hf⟩ := xb hf
              refine x_ran (x_runV (q0 := 0) (rest := []) (As := [.ref (X.2.2.2.2.1 6)]) hC mw_622 md_X7_isWord (c_X7_isWord (X := X) hf13) hH [0, 4] rfl (by decide) rfl rfl rfl hl.1 rfl rfl (Nat.le_of_ble_eq_true rfl) dX7_statement_271 ⟨Nat.le_of_ble_eq_true rfl, Nat.le_of_ble_eq_true rfl⟩ ⟨rfl, rfl⟩ ⟨Nat.le_refl _, Nat.le_refl _⟩) rfl (fun hz13 => ?_)
              refine lv_if_ne (tgt := 279) hx hb dX7_statement_274 (by decide) (fun c14 => ?_) (fun c14 => ?_)
              · have hf := xe c14 hf
                refine lv_aload_n hx hb dX7_statement_279 rfl (lv_at hl 0 rfl) ?_
                refine lv_lconst (v := (lN 0)) hx hb dX7_statement_280 (by decide) ?_
                refine x_put (ws' := [(h0, xO 7 [.int v_laws, .ref h2, .ref h3, .int v_inForce, .int v_depth, .int v_miss, .long (lN 0), .int v_size, .int v_people, .ref h1, .int v_seed, .int v_taped, .ref h4, .int v_from, .int v_to, .int v_token, .int v_value, .ref g0, .ref g1, .ref g2, .ref g3, .int v_imaged, .ref g4, .long v_oldRing, .ref g5, .long v_aheadRing, .ref g6]), (h1, xI X 10 v_ages), (h2, xI X 6 v_kind), (h3, xI X 6 v_own), (h4, xI X 250 v_tape)]) hC fd_RX7_90 hH 0 rfl (Nat.le_of_ble_eq_true rfl) rfl rfl dX7_statement_281 rfl (fun H locs hH => ?_)
                refine lv_aload_n hx hb dX7_statement_284 rfl (lv_at hl 0 rfl) ?_
                refine lv_iconst (v := (nI 0)) hx hb dX7_statement_285 (by decide) ?_
                refine x_put (ws' := [(h0, xO 7 [.int v_laws, .ref h2, .ref h3, .int v_inForce, .int v_depth, .int v_miss, .long (lN 0), .int (nI 0), .int v_people, .ref h1, .int v_seed, .int v_taped, .ref h4, .int v_from, .int v_to, .int v_token, .int v_value, .ref g0, .ref g1, .ref g2, .ref g3, .int v_imaged, .ref g4, .long v_oldRing, .ref g5, .long v_aheadRing, .ref g6]), (h1, xI X 10 v_ages), (h2, xI X 6 v_kind), (h3, xI X 6 v_own), (h4, xI X 250 v_tape)]) hC fd_RX7_62 hH 0 rfl (Nat.le_of_ble_eq_true rfl) rfl rfl dX7_statement_286 rfl (fun H locs hH => ?_)
                refine lv_iconst (v := (nI 1)) hx hb dX7_statement_289 (by decide) ?_
                exact x_retzw (f := fun u : Int32 × Int32 × Int32 × Int32 × Int32 × Int64 × Int32 × Int32 × Int32 × Int32 × Int32 × Int32 × (Nat → Int32) × (Nat → Int32) × (Nat → Int32) => u.1) (wf := fun u : Int32 × Int32 × Int32 × Int32 × Int32 × Int64 × Int32 × Int32 × Int32 × Int32 × Int32 × Int32 × (Nat → Int32) × (Nat → Int32) × (Nat → Int32) => [(h0, xO 7 [.int u.2.1, .ref h2, .ref h3, .int u.2.2.1, .int u.2.2.2.1, .int u.2.2.2.2.1, .long u.2.2.2.2.2.1, .int u.2.2.2.2.2.2.1, .int u.2.2.2.2.2.2.2.1, .ref h1, .int v_seed, .int v_taped, .ref h4, .int u.2.2.2.2.2.2.2.2.1, .int u.2.2.2.2.2.2.2.2.2.1, .int u.2.2.2.2.2.2.2.2.2.2.1, .int u.2.2.2.2.2.2.2.2.2.2.2.1, .ref g0, .ref g1, .ref g2, .ref g3, .int v_imaged, .ref g4, .long v_oldRing, .ref g5, .long v_aheadRing, .ref g6]), (h1, xI X 10 u.2.2.2.2.2.2.2.2.2.2.2.2.1), (h2, xI X 6 u.2.2.2.2.2.2.2.2.2.2.2.2.2.1), (h3, xI X 6 u.2.2.2.2.2.2.2.2.2.2.2.2.2.2), (h4, xI X 250 v_tape)]) hC hr hlk (Or.inr rfl) hf hH rfl rfl dX7_statement_290
              · have hf := xt c14 hf
                refine lv_iconst (v := (nI 0)) hx hb dX7_statement_277 (by decide) ?_
                exact x_retzw (f := fun u : Int32 × Int32 × Int32 × Int32 × Int32 × Int64 × Int32 × Int32 × Int32 × Int32 × Int32 × Int32 × (Nat → Int32) × (Nat → Int32) × (Nat → Int32) => u.1) (wf := fun u : Int32 × Int32 × Int32 × Int32 × Int32 × Int64 × Int32 × Int32 × Int32 × Int32 × Int32 × Int32 × (Nat → Int32) × (Nat → Int32) × (Nat → Int32) => [(h0, xO 7 [.int u.2.1, .ref h2, .ref h3, .int u.2.2.1, .int u.2.2.2.1, .int u.2.2.2.2.1, .long u.2.2.2.2.2.1, .int u.2.2.2.2.2.2.1, .int u.2.2.2.2.2.2.2.1, .ref h1, .int v_seed, .int v_taped, .ref h4, .int u.2.2.2.2.2.2.2.2.1, .int u.2.2.2.2.2.2.2.2.2.1, .int u.2.2.2.2.2.2.2.2.2.2.1, .int u.2.2.2.2.2.2.2.2.2.2.2.1, .ref g0, .ref g1, .ref g2, .ref g3, .int v_imaged, .ref g4, .long v_oldRing, .ref g5, .long v_aheadRing, .ref g6]), (h1, xI X 10 u.2.2.2.2.2.2.2.2.2.2.2.2.1), (h2, xI X 6 u.2.2.2.2.2.2.2.2.2.2.2.2.2.1), (h3, xI X 6 u.2.2.2.2.2.2.2.2.2.2.2.2.2.2), (h4, xI X 250 v_tape)]) hC hr hlk (Or.inl rfl) hf hH rfl rfl dX7_statement_278
            · have hf := xe c12 hf
              refine lv_aload_n hx hb dX7_statement_234 rfl (lv_at hl 0 rfl) ?_
              refine x_get hC fd_RX7_59 hH.1 0 rfl rfl dX7_statement_235 ?_
              refine lv_bipush (v := (nI 10)) hx hb dX7_statement_238 (by decide) ?_
              refine lv_icmp_ne (tgt := 245) hx hb dX7_statement_240 (by decide) (fun c15 => ?_) (fun c15 => ?_)
              · have hf := xe c15 hf
                refine lv_aload_n hx hb dX7_statement_245 rfl (lv_at hl 0 rfl) ?_
                refine lv_iconst (v := (nI 1)) hx hb dX7_statement_246 (by decide) ?_
                refine lv_bipush (v := (nI 99)) hx hb dX7_statement_247 (by decide) ?_
                obtain ⟨u16, hf16, hf⟩ := xb hf
                refine x_ranw (ws' := [(h0, xO 7 [.int v_laws, .ref h2, .ref h3, .int v_inForce, .int v_depth, .int v_miss, .long v_ring, .int v_size, .int v_people, .ref h1, .int v_seed, .int v_taped, .ref h4, .int u16.2.1, .int u16.2.2.1, .int u16.2.2.2.1, .int u16.2.2.2.2, .ref g0, .ref g1, .ref g2, .ref g3, .int v_imaged, .ref g4, .long v_oldRing, .ref g5, .long v_aheadRing, .ref g6]), (h1, xI X 10 v_ages), (h2, xI X 6 v_kind), (h3, xI X 6 v_own), (h4, xI X 250 v_tape)]) (x_runV (q0 := 0) (rest := []) (As := [.int (nI 1), .int (nI 99)]) hC mw_628 md_X7_number (c_X7_number (X := X) hf16) hH [0, 4] rfl (by decide) rfl rfl rfl hl.1 rfl rfl (Nat.le_of_ble_eq_true rfl) dX7_statement_249 ⟨Nat.le_of_ble_eq_true rfl, Nat.le_of_ble_eq_true rfl⟩ ⟨rfl, rfl⟩ ⟨Nat.le_refl _, Nat.le_refl _⟩) hH [0, 4] rfl rfl rfl rfl rfl (fun hz16 H locs hH => ?_)
                refine lv_istore_n (lv' := [(1, .int u16.1), (0, .ref h0)]) hx hb dX7_statement_252 rfl hl (by decide) rfl (fun ls hl => ?_)
                refine lv_iload_n hx hb dX7_statement_253 rfl (lv_at hl 0 rfl) ?_
                refine lv_iconst (v := (-1 : Int32)) hx hb dX7_statement_254 (by decide) ?_
                refine lv_icmp_ne (tgt := 260) hx hb dX7_statement_255 (by decide) (fun c17 => ?_) (fun c17 => ?_)
                · have hf := xe c17 hf
                  refine lv_aload_n hx hb dX7_statement_260 rfl (lv_at hl 1 rfl) ?_
                  refine lv_iload_n hx hb dX7_statement_261 rfl (lv_at hl 0 rfl) ?_
                  obtain ⟨u18, hf18, hf⟩ := xb hf
                  refine x_ranw (ws' := [(h0, xO 7 [.int v_laws, .ref h2, .ref h3, .int v_inForce, .int v_depth, .int v_miss, .long v_ring, .int v_size, .int u18.2.1, .ref h1, .int v_seed, .int v_taped, .ref h4, .int u16.2.1, .int u16.2.2.1, .int u16.2.2.2.1, .int u16.2.2.2.2, .ref g0, .ref g1, .ref g2, .ref g3, .int v_imaged, .ref g4, .long v_oldRing, .ref g5, .long v_aheadRing, .ref g6]), (h1, xI X 10 u18.2.2), (h2, xI X 6 v_kind), (h3, xI X 6 v_own), (h4, xI X 250 v_tape)]) (x_runV (q0 := 0) (rest := []) (As := [.int u16.1]) hC mw_407 md_X7_newOne (c_X7_newOne (X := X) hf18) hH [0, 1] rfl (by decide) rfl rfl rfl hl.1 rfl rfl (Nat.le_of_ble_eq_true rfl) dX7_statement_262 ⟨Nat.le_of_ble_eq_true rfl, Nat.le_of_ble_eq_true rfl⟩ ⟨rfl, rfl⟩ ⟨Nat.le_refl _, Nat.le_refl _⟩) hH [0, 1] rfl rfl rfl rfl rfl (fun hz18 H locs hH => ?_)
                  refine lv_pop hx hb dX7_statement_265 rfl ?_
                  refine lv_iconst (v := (nI 1)) hx hb dX7_statement_266 (by decide) ?_
                  exact x_retzw (f := fun u : Int32 × Int32 × Int32 × Int32 × Int32 × Int64 × Int32 × Int32 × Int32 × Int32 × Int32 × Int32 × (Nat → Int32) × (Nat → Int32) × (Nat → Int32) => u.1) (wf := fun u : Int32 × Int32 × Int32 × Int32 × Int32 × Int64 × Int32 × Int32 × Int32 × Int32 × Int32 × Int32 × (Nat → Int32) × (Nat → Int32) × (Nat → Int32) => [(h0, xO 7 [.int u.2.1, .ref h2, .ref h3, .int u.2.2.1, .int u.2.2.2.1, .int u.2.2.2.2.1, .long u.2.2.2.2.2.1, .int u.2.2.2.2.2.2.1, .int u.2.2.2.2.2.2.2.1, .ref h1, .int v_seed, .int v_taped, .ref h4, .int u.2.2.2.2.2.2.2.2.1, .int u.2.2.2.2.2.2.2.2.2.1, .int u.2.2.2.2.2.2.2.2.2.2.1, .int u.2.2.2.2.2.2.2.2.2.2.2.1, .ref g0, .ref g1, .ref g2, .ref g3, .int v_imaged, .ref g4, .long v_oldRing, .ref g5, .long v_aheadRing, .ref g6]), (h1, xI X 10 u.2.2.2.2.2.2.2.2.2.2.2.2.1), (h2, xI X 6 u.2.2.2.2.2.2.2.2.2.2.2.2.2.1), (h3, xI X 6 u.2.2.2.2.2.2.2.2.2.2.2.2.2.2), (h4, xI X 250 v_tape)]) hC hr hlk (Or.inr rfl) hf hH rfl rfl dX7_statement_267
                · have hf := xt c17 hf
                  refine lv_iconst (v := (nI 0)) hx hb dX7_statement_258 (by decide) ?_
                  exact x_retzw (f := fun u : Int32 × Int32 × Int32 × Int32 × Int32 × Int64 × Int32 × Int32 × Int32 × Int32 × Int32 × Int32 × (Nat → Int32) × (Nat → Int32) × (Nat → Int32) => u.1) (wf := fun u : Int32 × Int32 × Int32 × Int32 × Int32 × Int64 × Int32 × Int32 × Int32 × Int32 × Int32 × Int32 × (Nat → Int32) × (Nat → Int32) × (Nat → Int32) => [(h0, xO 7 [.int u.2.1, .ref h2, .ref h3, .int u.2.2.1, .int u.2.2.2.1, .int u.2.2.2.2.1, .long u.2.2.2.2.2.1, .int u.2.2.2.2.2.2.1, .int u.2.2.2.2.2.2.2.1, .ref h1, .int v_seed, .int v_taped, .ref h4, .int u.2.2.2.2.2.2.2.2.1, .int u.2.2.2.2.2.2.2.2.2.1, .int u.2.2.2.2.2.2.2.2.2.2.1, .int u.2.2.2.2.2.2.2.2.2.2.2.1, .ref g0, .ref g1, .ref g2, .ref g3, .int v_imaged, .ref g4, .long v_oldRing, .ref g5, .long v_aheadRing, .ref g6]), (h1, xI X 10 u.2.2.2.2.2.2.2.2.2.2.2.2.1), (h2, xI X 6 u.2.2.2.2.2.2.2.2.2.2.2.2.2.1), (h3, xI X 6 u.2.2.2.2.2.2.2.2.2.2.2.2.2.2), (h4, xI X 250 v_tape)]) hC hr hlk (Or.inl rfl) hf hH rfl rfl dX7_statement_259
              · have hf := xt c15 hf
                refine lv_iconst (v := (nI 0)) hx hb dX7_statement_243 (by decide) ?_
                exact x_retzw (f := fun u : Int32 × Int32 × Int32 × Int32 × Int32 × Int64 × Int32 × Int32 × Int32 × Int32 × Int32 × Int32 × (Nat → Int32) × (Nat → Int32) × (Nat → Int32) => u.1) (wf := fun u : Int32 × Int32 × Int32 × Int32 × Int32 × Int64 × Int32 × Int32 × Int32 × Int32 × Int32 × Int32 × (Nat → Int32) × (Nat → Int32) × (Nat → Int32) => [(h0, xO 7 [.int u.2.1, .ref h2, .ref h3, .int u.2.2.1, .int u.2.2.2.1, .int u.2.2.2.2.1, .long u.2.2.2.2.2.1, .int u.2.2.2.2.2.2.1, .int u.2.2.2.2.2.2.2.1, .ref h1, .int v_seed, .int v_taped, .ref h4, .int u.2.2.2.2.2.2.2.2.1, .int u.2.2.2.2.2.2.2.2.2.1, .int u.2.2.2.2.2.2.2.2.2.2.1, .int u.2.2.2.2.2.2.2.2.2.2.2.1, .ref g0, .ref g1, .ref g2, .ref g3, .int v_imaged, .ref g4, .long v_oldRing, .ref g5, .long v_aheadRing, .ref g6]), (h1, xI X 10 u.2.2.2.2.2.2.2.2.2.2.2.2.1), (h2, xI X 6 u.2.2.2.2.2.2.2.2.2.2.2.2.2.1), (h3, xI X 6 u.2.2.2.2.2.2.2.2.2.2.2.2.2.2), (h4, xI X 250 v_tape)]) hC hr hlk (Or.inl rfl) hf hH rfl rfl dX7_statement_244
          · have hf := xe c10 hf
            refine lv_aload_n hx hb dX7_statement_166 rfl (lv_at hl 0 rfl) ?_
            refine x_get hC fd_RX7_62 hH.1 0 rfl rfl dX7_statement_167 ?_
            refine lv_bipush (v := (nI 40)) hx hb dX7_statement_170 (by decide) ?_
            refine lv_icmp_eq (tgt := 182) hx hb dX7_statement_172 (by decide) (fun c19 => ?_) (fun c19 => ?_)
            · have hf := xt c19 hf
              refine lv_iconst (v := (nI 0)) hx hb dX7_statement_182 (by decide) ?_
              exact x_retzw (f := fun u : Int32 × Int32 × Int32 × Int32 × Int32 × Int64 × Int32 × Int32 × Int32 × Int32 × Int32 × Int32 × (Nat → Int32) × (Nat → Int32) × (Nat → Int32) => u.1) (wf := fun u : Int32 × Int32 × Int32 × Int32 × Int32 × Int64 × Int32 × Int32 × Int32 × Int32 × Int32 × Int32 × (Nat → Int32) × (Nat → Int32) × (Nat → Int32) => [(h0, xO 7 [.int u.2.1, .ref h2, .ref h3, .int u.2.2.1, .int u.2.2.2.1, .int u.2.2.2.2.1, .long u.2.2.2.2.2.1, .int u.2.2.2.2.2.2.1, .int u.2.2.2.2.2.2.2.1, .ref h1, .int v_seed, .int v_taped, .ref h4, .int u.2.2.2.2.2.2.2.2.1, .int u.2.2.2.2.2.2.2.2.2.1, .int u.2.2.2.2.2.2.2.2.2.2.1, .int u.2.2.2.2.2.2.2.2.2.2.2.1, .ref g0, .ref g1, .ref g2, .ref g3, .int v_imaged, .ref g4, .long v_oldRing, .ref g5, .long v_aheadRing, .ref g6]), (h1, xI X 10 u.2.2.2.2.2.2.2.2.2.2.2.2.1), (h2, xI X 6 u.2.2.2.2.2.2.2.2.2.2.2.2.2.1), (h3, xI X 6 u.2.2.2.2.2.2.2.2.2.2.2.2.2.2), (h4, xI X 250 v_tape)]) hC hr hlk (Or.inl rfl) hf hH rfl rfl dX7_statement_183
            · have hf := xe c19 hf
              refine lv_aload_n hx hb dX7_statement_175 rfl (lv_at hl 0 rfl) ?_
              obtain ⟨u20, hf20, hf⟩ := xb hf
              refine x_ranw (ws' := [(h0, xO 7 [.int v_laws, .ref h2, .ref h3, .int v_inForce, .int v_depth, .int v_miss, .long v_ring, .int v_size, .int v_people, .ref h1, .int v_seed, .int v_taped, .ref h4, .int u20.2.1, .int u20.2.2.1, .int u20.2.2.2.1, .int u20.2.2.2.2, .ref g0, .ref g1, .ref g2, .ref g3, .int v_imaged, .ref g4, .long v_oldRing, .ref g5, .long v_aheadRing, .ref g6]), (h1, xI X 10 v_ages), (h2, xI X 6 v_kind), (h3, xI X 6 v_own), (h4, xI X 250 v_tape)]) (x_runV (q0 := 0) (rest := []) (As := []) hC mw_632 md_X7_isTold (c_X7_isTold (X := X) hf20) hH [0, 4] rfl (by decide) rfl rfl rfl hl.1 rfl rfl (Nat.le_of_ble_eq_true rfl) dX7_statement_176 ⟨Nat.le_of_ble_eq_true rfl, Nat.le_of_ble_eq_true rfl⟩ ⟨rfl, rfl⟩ ⟨Nat.le_refl _, Nat.le_refl _⟩) hH [0, 4] rfl rfl rfl rfl rfl (fun hz20 H locs hH => ?_)
              refine lv_if_ne (tgt := 184) hx hb dX7_statement_179 (by decide) (fun c21 => ?_) (fun c21 => ?_)
              · have hf := xe c21 hf
                refine lv_aload_n hx hb dX7_statement_184 rfl (lv_at hl 0 rfl) ?_
                refine x_get hC fd_RX7_117 hH.1 0 rfl rfl dX7_statement_185 ?_
                refine lv_istore_n (lv' := [(2, .int u20.2.1), (0, .ref h0)]) hx hb dX7_statement_188 rfl hl (by decide) rfl (fun ls hl => ?_)
                exact L189 u20.2.1 u20.2.2.1 u20.2.2.2.1 u20.2.2.2.2 xN (u20.2.1, v_ring, v_size) hf _ _ hH ls (lv_sub hl [1, 0] rfl)
              · have hf := xt c21 hf
                refine lv_iconst (v := (nI 0)) hx hb dX7_statement_182 (by decide) ?_
                exact x_retzw (f := fun u : Int32 × Int32 × Int32 × Int32 × Int32 × Int64 × Int32 × Int32 × Int32 × Int32 × Int32 × Int32 × (Nat → Int32) × (Nat → Int32) × (Nat → Int32) => u.1) (wf := fun u : Int32 × Int32 × Int32 × Int32 × Int32 × Int64 × Int32 × Int32 × Int32 × Int32 × Int32 × Int32 × (Nat → Int32) × (Nat → Int32) × (Nat → Int32) => [(h0, xO 7 [.int u.2.1, .ref h2, .ref h3, .int u.2.2.1, .int u.2.2.2.1, .int u.2.2.2.2.1, .long u.2.2.2.2.2.1, .int u.2.2.2.2.2.2.1, .int u.2.2.2.2.2.2.2.1, .ref h1, .int v_seed, .int v_taped, .ref h4, .int u.2.2.2.2.2.2.2.2.1, .int u.2.2.2.2.2.2.2.2.2.1, .int u.2.2.2.2.2.2.2.2.2.2.1, .int u.2.2.2.2.2.2.2.2.2.2.2.1, .ref g0, .ref g1, .ref g2, .ref g3, .int v_imaged, .ref g4, .long v_oldRing, .ref g5, .long v_aheadRing, .ref g6]), (h1, xI X 10 u.2.2.2.2.2.2.2.2.2.2.2.2.1), (h2, xI X 6 u.2.2.2.2.2.2.2.2.2.2.2.2.2.1), (h3, xI X 6 u.2.2.2.2.2.2.2.2.2.2.2.2.2.2), (h4, xI X 250 v_tape)]) hC hr hlk (Or.inl rfl) hf hH rfl rfl dX7_statement_183
        · have hf := xe c8 hf
          refine lv_aload_n hx hb dX7_statement_135 rfl (lv_at hl 0 rfl) ?_
          refine lv_iconst (v := (nI 0)) hx hb dX7_statement_136 (by decide) ?_
          refine lv_bipush (v := (nI 100)) hx hb dX7_statement_137 (by decide) ?_
          obtain ⟨u27, hf27, hf⟩ := xb hf
          refine x_ranw (ws' := [(h0, xO 7 [.int v_laws, .ref h2, .ref h3, .int v_inForce, .int v_depth, .int v_miss, .long v_ring, .int v_size, .int v_people, .ref h1, .int v_seed, .int v_taped, .ref h4, .int u27.2.1, .int u27.2.2.1, .int u27.2.2.2.1, .int u27.2.2.2.2, .ref g0, .ref g1, .ref g2, .ref g3, .int v_imaged, .ref g4, .long v_oldRing, .ref g5, .long v_aheadRing, .ref g6]), (h1, xI X 10 v_ages), (h2, xI X 6 v_kind), (h3, xI X 6 v_own), (h4, xI X 250 v_tape)]) (x_runV (q0 := 0) (rest := []) (As := [.int (nI 0), .int (nI 100)]) hC mw_628 md_X7_number (c_X7_number (X := X) hf27) hH [0, 4] rfl (by decide) rfl rfl rfl hl.1 rfl rfl (Nat.le_of_ble_eq_true rfl) dX7_statement_139 ⟨Nat.le_of_ble_eq_true rfl, Nat.le_of_ble_eq_true rfl⟩ ⟨rfl, rfl⟩ ⟨Nat.le_refl _, Nat.le_refl _⟩) hH [0, 4] rfl rfl rfl rfl rfl (fun hz27 H locs hH => ?_)
          refine lv_istore_n (lv' := [(1, .int u27.1), (0, .ref h0)]) hx hb dX7_statement_142 rfl hl (by decide) rfl (fun ls hl => ?_)
          refine lv_iload_n hx hb dX7_statement_143 rfl (lv_at hl 0 rfl) ?_
          refine lv_iconst (v := (-1 : Int32)) hx hb dX7_statement_144 (by decide) ?_
          refine lv_icmp_ne (tgt := 150) hx hb dX7_statement_145 (by decide) (fun c28 => ?_) (fun c28 => ?_)
          · have hf := xe c28 hf
            refine lv_aload_n hx hb dX7_statement_150 rfl (lv_at hl 1 rfl) ?_
            refine lv_iload_n hx hb dX7_statement_151 rfl (lv_at hl 0 rfl) ?_
            refine x_put (ws' := [(h0, xO 7 [.int v_laws, .ref h2, .ref h3, .int v_inForce, .int v_depth, .int u27.1, .long v_ring, .int v_size, .int v_people, .ref h1, .int v_seed, .int v_taped, .ref h4, .int u27.2.1, .int u27.2.2.1, .int u27.2.2.2.1, .int u27.2.2.2.2, .ref g0, .ref g1, .ref g2, .ref g3, .int v_imaged, .ref g4, .long v_oldRing, .ref g5, .long v_aheadRing, .ref g6]), (h1, xI X 10 v_ages), (h2, xI X 6 v_kind), (h3, xI X 6 v_own), (h4, xI X 250 v_tape)]) hC fd_RX7_105 hH 0 rfl (Nat.le_of_ble_eq_true rfl) rfl rfl dX7_statement_152 rfl (fun H locs hH => ?_)
            refine lv_iconst (v := (nI 1)) hx hb dX7_statement_155 (by decide) ?_
            exact x_retzw (f := fun u : Int32 × Int32 × Int32 × Int32 × Int32 × Int64 × Int32 × Int32 × Int32 × Int32 × Int32 × Int32 × (Nat → Int32) × (Nat → Int32) × (Nat → Int32) => u.1) (wf := fun u : Int32 × Int32 × Int32 × Int32 × Int32 × Int64 × Int32 × Int32 × Int32 × Int32 × Int32 × Int32 × (Nat → Int32) × (Nat → Int32) × (Nat → Int32) => [(h0, xO 7 [.int u.2.1, .ref h2, .ref h3, .int u.2.2.1, .int u.2.2.2.1, .int u.2.2.2.2.1, .long u.2.2.2.2.2.1, .int u.2.2.2.2.2.2.1, .int u.2.2.2.2.2.2.2.1, .ref h1, .int v_seed, .int v_taped, .ref h4, .int u.2.2.2.2.2.2.2.2.1, .int u.2.2.2.2.2.2.2.2.2.1, .int u.2.2.2.2.2.2.2.2.2.2.1, .int u.2.2.2.2.2.2.2.2.2.2.2.1, .ref g0, .ref g1, .ref g2, .ref g3, .int v_imaged, .ref g4, .long v_oldRing, .ref g5, .long v_aheadRing, .ref g6]), (h1, xI X 10 u.2.2.2.2.2.2.2.2.2.2.2.2.1), (h2, xI X 6 u.2.2.2.2.2.2.2.2.2.2.2.2.2.1), (h3, xI X 6 u.2.2.2.2.2.2.2.2.2.2.2.2.2.2), (h4, xI X 250 v_tape)]) hC hr hlk (Or.inr rfl) hf hH rfl rfl dX7_statement_156
          · have hf := xt c28 hf
            refine lv_iconst (v := (nI 0)) hx hb dX7_statement_148 (by decide) ?_
            exact x_retzw (f := fun u : Int32 × Int32 × Int32 × Int32 × Int32 × Int64 × Int32 × Int32 × Int32 × Int32 × Int32 × Int32 × (Nat → Int32) × (Nat → Int32) × (Nat → Int32) => u.1) (wf := fun u : Int32 × Int32 × Int32 × Int32 × Int32 × Int64 × Int32 × Int32 × Int32 × Int32 × Int32 × Int32 × (Nat → Int32) × (Nat → Int32) × (Nat → Int32) => [(h0, xO 7 [.int u.2.1, .ref h2, .ref h3, .int u.2.2.1, .int u.2.2.2.1, .int u.2.2.2.2.1, .long u.2.2.2.2.2.1, .int u.2.2.2.2.2.2.1, .int u.2.2.2.2.2.2.2.1, .ref h1, .int v_seed, .int v_taped, .ref h4, .int u.2.2.2.2.2.2.2.2.1, .int u.2.2.2.2.2.2.2.2.2.1, .int u.2.2.2.2.2.2.2.2.2.2.1, .int u.2.2.2.2.2.2.2.2.2.2.2.1, .ref g0, .ref g1, .ref g2, .ref g3, .int v_imaged, .ref g4, .long v_oldRing, .ref g5, .long v_aheadRing, .ref g6]), (h1, xI X 10 u.2.2.2.2.2.2.2.2.2.2.2.2.1), (h2, xI X 6 u.2.2.2.2.2.2.2.2.2.2.2.2.2.1), (h3, xI X 6 u.2.2.2.2.2.2.2.2.2.2.2.2.2.2), (h4, xI X 250 v_tape)]) hC hr hlk (Or.inl rfl) hf hH rfl rfl dX7_statement_149
      · have hf := xe c6 hf
        refine lv_aload_n hx hb dX7_statement_104 rfl (lv_at hl 0 rfl) ?_
        refine lv_iconst (v := (nI 0)) hx hb dX7_statement_105 (by decide) ?_
        refine lv_bipush (v := (nI 9)) hx hb dX7_statement_106 (by decide) ?_
        obtain ⟨u29, hf29, hf⟩ := xb hf
        refine x_ranw (ws' := [(h0, xO 7 [.int v_laws, .ref h2, .ref h3, .int v_inForce, .int v_depth, .int v_miss, .long v_ring, .int v_size, .int v_people, .ref h1, .int v_seed, .int v_taped, .ref h4, .int u29.2.1, .int u29.2.2.1, .int u29.2.2.2.1, .int u29.2.2.2.2, .ref g0, .ref g1, .ref g2, .ref g3, .int v_imaged, .ref g4, .long v_oldRing, .ref g5, .long v_aheadRing, .ref g6]), (h1, xI X 10 v_ages), (h2, xI X 6 v_kind), (h3, xI X 6 v_own), (h4, xI X 250 v_tape)]) (x_runV (q0 := 0) (rest := []) (As := [.int (nI 0), .int (nI 9)]) hC mw_628 md_X7_number (c_X7_number (X := X) hf29) hH [0, 4] rfl (by decide) rfl rfl rfl hl.1 rfl rfl (Nat.le_of_ble_eq_true rfl) dX7_statement_108 ⟨Nat.le_of_ble_eq_true rfl, Nat.le_of_ble_eq_true rfl⟩ ⟨rfl, rfl⟩ ⟨Nat.le_refl _, Nat.le_refl _⟩) hH [0, 4] rfl rfl rfl rfl rfl (fun hz29 H locs hH => ?_)
        refine lv_istore_n (lv' := [(1, .int u29.1), (0, .ref h0)]) hx hb dX7_statement_111 rfl hl (by decide) rfl (fun ls hl => ?_)
        refine lv_iload_n hx hb dX7_statement_112 rfl (lv_at hl 0 rfl) ?_
        refine lv_iconst (v := (-1 : Int32)) hx hb dX7_statement_113 (by decide) ?_
        refine lv_icmp_ne (tgt := 119) hx hb dX7_statement_114 (by decide) (fun c30 => ?_) (fun c30 => ?_)
        · have hf := xe c30 hf
          refine lv_aload_n hx hb dX7_statement_119 rfl (lv_at hl 1 rfl) ?_
          refine lv_iload_n hx hb dX7_statement_120 rfl (lv_at hl 0 rfl) ?_
          refine x_put (ws' := [(h0, xO 7 [.int v_laws, .ref h2, .ref h3, .int v_inForce, .int u29.1, .int v_miss, .long v_ring, .int v_size, .int v_people, .ref h1, .int v_seed, .int v_taped, .ref h4, .int u29.2.1, .int u29.2.2.1, .int u29.2.2.2.1, .int u29.2.2.2.2, .ref g0, .ref g1, .ref g2, .ref g3, .int v_imaged, .ref g4, .long v_oldRing, .ref g5, .long v_aheadRing, .ref g6]), (h1, xI X 10 v_ages), (h2, xI X 6 v_kind), (h3, xI X 6 v_own), (h4, xI X 250 v_tape)]) hC fd_RX7_45 hH 0 rfl (Nat.le_of_ble_eq_true rfl) rfl rfl dX7_statement_121 rfl (fun H locs hH => ?_)
          refine lv_iconst (v := (nI 1)) hx hb dX7_statement_124 (by decide) ?_
          exact x_retzw (f := fun u : Int32 × Int32 × Int32 × Int32 × Int32 × Int64 × Int32 × Int32 × Int32 × Int32 × Int32 × Int32 × (Nat → Int32) × (Nat → Int32) × (Nat → Int32) => u.1) (wf := fun u : Int32 × Int32 × Int32 × Int32 × Int32 × Int64 × Int32 × Int32 × Int32 × Int32 × Int32 × Int32 × (Nat → Int32) × (Nat → Int32) × (Nat → Int32) => [(h0, xO 7 [.int u.2.1, .ref h2, .ref h3, .int u.2.2.1, .int u.2.2.2.1, .int u.2.2.2.2.1, .long u.2.2.2.2.2.1, .int u.2.2.2.2.2.2.1, .int u.2.2.2.2.2.2.2.1, .ref h1, .int v_seed, .int v_taped, .ref h4, .int u.2.2.2.2.2.2.2.2.1, .int u.2.2.2.2.2.2.2.2.2.1, .int u.2.2.2.2.2.2.2.2.2.2.1, .int u.2.2.2.2.2.2.2.2.2.2.2.1, .ref g0, .ref g1, .ref g2, .ref g3, .int v_imaged, .ref g4, .long v_oldRing, .ref g5, .long v_aheadRing, .ref g6]), (h1, xI X 10 u.2.2.2.2.2.2.2.2.2.2.2.2.1), (h2, xI X 6 u.2.2.2.2.2.2.2.2.2.2.2.2.2.1), (h3, xI X 6 u.2.2.2.2.2.2.2.2.2.2.2.2.2.2), (h4, xI X 250 v_tape)]) hC hr hlk (Or.inr rfl) hf hH rfl rfl dX7_statement_125
        · have hf := xt c30 hf
          refine lv_iconst (v := (nI 0)) hx hb dX7_statement_117 (by decide) ?_
          exact x_retzw (f := fun u : Int32 × Int32 × Int32 × Int32 × Int32 × Int64 × Int32 × Int32 × Int32 × Int32 × Int32 × Int32 × (Nat → Int32) × (Nat → Int32) × (Nat → Int32) => u.1) (wf := fun u : Int32 × Int32 × Int32 × Int32 × Int32 × Int64 × Int32 × Int32 × Int32 × Int32 × Int32 × Int32 × (Nat → Int32) × (Nat → Int32) × (Nat → Int32) => [(h0, xO 7 [.int u.2.1, .ref h2, .ref h3, .int u.2.2.1, .int u.2.2.2.1, .int u.2.2.2.2.1, .long u.2.2.2.2.2.1, .int u.2.2.2.2.2.2.1, .int u.2.2.2.2.2.2.2.1, .ref h1, .int v_seed, .int v_taped, .ref h4, .int u.2.2.2.2.2.2.2.2.1, .int u.2.2.2.2.2.2.2.2.2.1, .int u.2.2.2.2.2.2.2.2.2.2.1, .int u.2.2.2.2.2.2.2.2.2.2.2.1, .ref g0, .ref g1, .ref g2, .ref g3, .int v_imaged, .ref g4, .long v_oldRing, .ref g5, .long v_aheadRing, .ref g6]), (h1, xI X 10 u.2.2.2.2.2.2.2.2.2.2.2.2.1), (h2, xI X 6 u.2.2.2.2.2.2.2.2.2.2.2.2.2.1), (h3, xI X 6 u.2.2.2.2.2.2.2.2.2.2.2.2.2.2), (h4, xI X 250 v_tape)]) hC hr hlk (Or.inl rfl) hf hH rfl rfl dX7_statement_118
    · have hf := xe c4 hf
      refine lv_aload_n hx hb dX7_statement_69 rfl (lv_at hl 0 rfl) ?_
      refine lv_iconst (v := (nI 0)) hx hb dX7_statement_70 (by decide) ?_
      refine lv_aload_n hx hb dX7_statement_71 rfl (lv_at hl 0 rfl) ?_
      refine x_get hC fd_RX7_52 hH.1 0 rfl rfl dX7_statement_72 ?_
      refine lv_iconst (v := (nI 1)) hx hb dX7_statement_75 (by decide) ?_
      refine lv_isub hx hb dX7_statement_76 ?_
      obtain ⟨u31, hf31, hf⟩ := xb hf
      refine x_ranw (ws' := [(h0, xO 7 [.int v_laws, .ref h2, .ref h3, .int v_inForce, .int v_depth, .int v_miss, .long v_ring, .int v_size, .int v_people, .ref h1, .int v_seed, .int v_taped, .ref h4, .int u31.2.1, .int u31.2.2.1, .int u31.2.2.2.1, .int u31.2.2.2.2, .ref g0, .ref g1, .ref g2, .ref g3, .int v_imaged, .ref g4, .long v_oldRing, .ref g5, .long v_aheadRing, .ref g6]), (h1, xI X 10 v_ages), (h2, xI X 6 v_kind), (h3, xI X 6 v_own), (h4, xI X 250 v_tape)]) (x_runV (q0 := 0) (rest := []) (As := [.int (nI 0), .int (v_laws - (nI 1))]) hC mw_628 md_X7_number (c_X7_number (X := X) hf31) hH [0, 4] rfl (by decide) rfl rfl rfl hl.1 rfl rfl (Nat.le_of_ble_eq_true rfl) dX7_statement_77 ⟨Nat.le_of_ble_eq_true rfl, Nat.le_of_ble_eq_true rfl⟩ ⟨rfl, rfl⟩ ⟨Nat.le_refl _, Nat.le_refl _⟩) hH [0, 4] rfl rfl rfl rfl rfl (fun hz31 H locs hH => ?_)
      refine lv_istore_n (lv' := [(1, .int u31.1), (0, .ref h0)]) hx hb dX7_statement_80 rfl hl (by decide) rfl (fun ls hl => ?_)
      refine lv_iload_n hx hb dX7_statement_81 rfl (lv_at hl 0 rfl) ?_
      refine lv_iconst (v := (-1 : Int32)) hx hb dX7_statement_82 (by decide) ?_
      refine lv_icmp_ne (tgt := 88) hx hb dX7_statement_83 (by decide) (fun c32 => ?_) (fun c32 => ?_)
      · have hf := xe c32 hf
        refine lv_aload_n hx hb dX7_statement_88 rfl (lv_at hl 1 rfl) ?_
        refine lv_iload_n hx hb dX7_statement_89 rfl (lv_at hl 0 rfl) ?_
        refine x_put (ws' := [(h0, xO 7 [.int v_laws, .ref h2, .ref h3, .int u31.1, .int v_depth, .int v_miss, .long v_ring, .int v_size, .int v_people, .ref h1, .int v_seed, .int v_taped, .ref h4, .int u31.2.1, .int u31.2.2.1, .int u31.2.2.2.1, .int u31.2.2.2.2, .ref g0, .ref g1, .ref g2, .ref g3, .int v_imaged, .ref g4, .long v_oldRing, .ref g5, .long v_aheadRing, .ref g6]), (h1, xI X 10 v_ages), (h2, xI X 6 v_kind), (h3, xI X 6 v_own), (h4, xI X 250 v_tape)]) hC fd_RX7_102 hH 0 rfl (Nat.le_of_ble_eq_true rfl) rfl rfl dX7_statement_90 rfl (fun H locs hH => ?_)
        refine lv_iconst (v := (nI 1)) hx hb dX7_statement_93 (by decide) ?_
        exact x_retzw (f := fun u : Int32 × Int32 × Int32 × Int32 × Int32 × Int64 × Int32 × Int32 × Int32 × Int32 × Int32 × Int32 × (Nat → Int32) × (Nat → Int32) × (Nat → Int32) => u.1) (wf := fun u : Int32 × Int32 × Int32 × Int32 × Int32 × Int64 × Int32 × Int32 × Int32 × Int32 × Int32 × Int32 × (Nat → Int32) × (Nat → Int32) × (Nat → Int32) => [(h0, xO 7 [.int u.2.1, .ref h2, .ref h3, .int u.2.2.1, .int u.2.2.2.1, .int u.2.2.2.2.1, .long u.2.2.2.2.2.1, .int u.2.2.2.2.2.2.1, .int u.2.2.2.2.2.2.2.1, .ref h1, .int v_seed, .int v_taped, .ref h4, .int u.2.2.2.2.2.2.2.2.1, .int u.2.2.2.2.2.2.2.2.2.1, .int u.2.2.2.2.2.2.2.2.2.2.1, .int u.2.2.2.2.2.2.2.2.2.2.2.1, .ref g0, .ref g1, .ref g2, .ref g3, .int v_imaged, .ref g4, .long v_oldRing, .ref g5, .long v_aheadRing, .ref g6]), (h1, xI X 10 u.2.2.2.2.2.2.2.2.2.2.2.2.1), (h2, xI X 6 u.2.2.2.2.2.2.2.2.2.2.2.2.2.1), (h3, xI X 6 u.2.2.2.2.2.2.2.2.2.2.2.2.2.2), (h4, xI X 250 v_tape)]) hC hr hlk (Or.inr rfl) hf hH rfl rfl dX7_statement_94
      · have hf := xt c32 hf
        refine lv_iconst (v := (nI 0)) hx hb dX7_statement_86 (by decide) ?_
        exact x_retzw (f := fun u : Int32 × Int32 × Int32 × Int32 × Int32 × Int64 × Int32 × Int32 × Int32 × Int32 × Int32 × Int32 × (Nat → Int32) × (Nat → Int32) × (Nat → Int32) => u.1) (wf := fun u : Int32 × Int32 × Int32 × Int32 × Int32 × Int64 × Int32 × Int32 × Int32 × Int32 × Int32 × Int32 × (Nat → Int32) × (Nat → Int32) × (Nat → Int32) => [(h0, xO 7 [.int u.2.1, .ref h2, .ref h3, .int u.2.2.1, .int u.2.2.2.1, .int u.2.2.2.2.1, .long u.2.2.2.2.2.1, .int u.2.2.2.2.2.2.1, .int u.2.2.2.2.2.2.2.1, .ref h1, .int v_seed, .int v_taped, .ref h4, .int u.2.2.2.2.2.2.2.2.1, .int u.2.2.2.2.2.2.2.2.2.1, .int u.2.2.2.2.2.2.2.2.2.2.1, .int u.2.2.2.2.2.2.2.2.2.2.2.1, .ref g0, .ref g1, .ref g2, .ref g3, .int v_imaged, .ref g4, .long v_oldRing, .ref g5, .long v_aheadRing, .ref g6]), (h1, xI X 10 u.2.2.2.2.2.2.2.2.2.2.2.2.1), (h2, xI X 6 u.2.2.2.2.2.2.2.2.2.2.2.2.2.1), (h3, xI X 6 u.2.2.2.2.2.2.2.2.2.2.2.2.2.2), (h4, xI X 250 v_tape)]) hC hr hlk (Or.inl rfl) hf hH rfl rfl dX7_statement_87
  · have hf := xe c2 hf
    refine lv_aload_n hx hb dX7_statement_9 rfl (lv_at hl 0 rfl) ?_
    refine x_get hC fd_RX7_52 hH.1 0 rfl rfl dX7_statement_10 ?_
    refine lv_bipush (v := (nI 6)) hx hb dX7_statement_13 (by decide) ?_
    refine lv_icmp_ne (tgt := 20) hx hb dX7_statement_15 (by decide) (fun c33 => ?_) (fun c33 => ?_)
    · have hf := xe c33 hf
      refine lv_aload_n hx hb dX7_statement_20 rfl (lv_at hl 0 rfl) ?_
      refine lv_iconst (v := (nI 0)) hx hb dX7_statement_21 (by decide) ?_
      refine lv_iconst (v := (nI 5)) hx hb dX7_statement_22 (by decide) ?_
      obtain ⟨u34, hf34, hf⟩ := xb hf
      refine x_ranw (ws' := [(h0, xO 7 [.int v_laws, .ref h2, .ref h3, .int v_inForce, .int v_depth, .int v_miss, .long v_ring, .int v_size, .int v_people, .ref h1, .int v_seed, .int v_taped, .ref h4, .int u34.2.1, .int u34.2.2.1, .int u34.2.2.2.1, .int u34.2.2.2.2, .ref g0, .ref g1, .ref g2, .ref g3, .int v_imaged, .ref g4, .long v_oldRing, .ref g5, .long v_aheadRing, .ref g6]), (h1, xI X 10 v_ages), (h2, xI X 6 v_kind), (h3, xI X 6 v_own), (h4, xI X 250 v_tape)]) (x_runV (q0 := 0) (rest := []) (As := [.int (nI 0), .int (nI 5)]) hC mw_628 md_X7_number (c_X7_number (X := X) hf34) hH [0, 4] rfl (by decide) rfl rfl rfl hl.1 rfl rfl (Nat.le_of_ble_eq_true rfl) dX7_statement_23 ⟨Nat.le_of_ble_eq_true rfl, Nat.le_of_ble_eq_true rfl⟩ ⟨rfl, rfl⟩ ⟨Nat.le_refl _, Nat.le_refl _⟩) hH [0, 4] rfl rfl rfl rfl rfl (fun hz34 H locs hH => ?_)
      refine lv_istore_n (lv' := [(1, .int u34.1), (0, .ref h0)]) hx hb dX7_statement_26 rfl hl (by decide) rfl (fun ls hl => ?_)
      refine lv_iload_n hx hb dX7_statement_27 rfl (lv_at hl 0 rfl) ?_
      refine lv_iconst (v := (-1 : Int32)) hx hb dX7_statement_28 (by decide) ?_
      refine lv_icmp_ne (tgt := 36) hx hb dX7_statement_29 (by decide) (fun c35 => ?_) (fun c35 => ?_)
      · have hf := xe c35 hf
        refine lv_aload_n hx hb dX7_statement_36 rfl (lv_at hl 1 rfl) ?_
        refine lv_iconst (v := (nI 0)) hx hb dX7_statement_37 (by decide) ?_
        refine lv_bipush (v := (nI 9)) hx hb dX7_statement_38 (by decide) ?_
        obtain ⟨u36, hf36, hf⟩ := xb hf
        refine x_ranw (ws' := [(h0, xO 7 [.int v_laws, .ref h2, .ref h3, .int v_inForce, .int v_depth, .int v_miss, .long v_ring, .int v_size, .int v_people, .ref h1, .int v_seed, .int v_taped, .ref h4, .int u36.2.1, .int u36.2.2.1, .int u36.2.2.2.1, .int u36.2.2.2.2, .ref g0, .ref g1, .ref g2, .ref g3, .int v_imaged, .ref g4, .long v_oldRing, .ref g5, .long v_aheadRing, .ref g6]), (h1, xI X 10 v_ages), (h2, xI X 6 v_kind), (h3, xI X 6 v_own), (h4, xI X 250 v_tape)]) (x_runV (q0 := 0) (rest := []) (As := [.int (nI 0), .int (nI 9)]) hC mw_628 md_X7_number (c_X7_number (X := X) hf36) hH [0, 4] rfl (by decide) rfl rfl rfl hl.1 rfl rfl (Nat.le_of_ble_eq_true rfl) dX7_statement_40 ⟨Nat.le_of_ble_eq_true rfl, Nat.le_of_ble_eq_true rfl⟩ ⟨rfl, rfl⟩ ⟨Nat.le_refl _, Nat.le_refl _⟩) hH [0, 4] rfl rfl rfl rfl rfl (fun hz36 H locs hH => ?_)
        exact J43 u34.1 u36.2.1 u36.2.2.1 u36.2.2.2.1 u36.2.2.2.2 u36.1 hf _ _ hH ls (lv_sub hl [1, 0] rfl)
      · have hf := xt c35 hf
        refine lv_iconst (v := (-1 : Int32)) hx hb dX7_statement_32 (by decide) ?_
        refine lv_goto (tgt := 43) hx hb dX7_statement_33 (by decide) ?_
        exact J43 u34.1 u34.2.1 u34.2.2.1 u34.2.2.2.1 u34.2.2.2.2 (-1 : Int32) hf _ _ hH ls (lv_sub hl [1, 0] rfl)
    · have hf := xt c33 hf
      refine lv_iconst (v := (nI 0)) hx hb dX7_statement_18 (by decide) ?_
      exact x_retzw (f := fun u : Int32 × Int32 × Int32 × Int32 × Int32 × Int64 × Int32 × Int32 × Int32 × Int32 × Int32 × Int32 × (Nat → Int32) × (Nat → Int32) × (Nat → Int32) => u.1) (wf := fun u : Int32 × Int32 × Int32 × Int32 × Int32 × Int64 × Int32 × Int32 × Int32 × Int32 × Int32 × Int32 × (Nat → Int32) × (Nat → Int32) × (Nat → Int32) => [(h0, xO 7 [.int u.2.1, .ref h2, .ref h3, .int u.2.2.1, .int u.2.2.2.1, .int u.2.2.2.2.1, .long u.2.2.2.2.2.1, .int u.2.2.2.2.2.2.1, .int u.2.2.2.2.2.2.2.1, .ref h1, .int v_seed, .int v_taped, .ref h4, .int u.2.2.2.2.2.2.2.2.1, .int u.2.2.2.2.2.2.2.2.2.1, .int u.2.2.2.2.2.2.2.2.2.2.1, .int u.2.2.2.2.2.2.2.2.2.2.2.1, .ref g0, .ref g1, .ref g2, .ref g3, .int v_imaged, .ref g4, .long v_oldRing, .ref g5, .long v_aheadRing, .ref g6]), (h1, xI X 10 u.2.2.2.2.2.2.2.2.2.2.2.2.1), (h2, xI X 6 u.2.2.2.2.2.2.2.2.2.2.2.2.2.1), (h3, xI X 6 u.2.2.2.2.2.2.2.2.2.2.2.2.2.2), (h4, xI X 250 v_tape)]) hC hr hlk (Or.inl rfl) hf hH rfl rfl dX7_statement_19
def f_X7_keep_L37 (v_laws : Int32) (v_inForce : Int32) (v_depth : Int32) (v_miss : Int32) (v_size : Int32) (v_people : Int32) (v_seed : Int32) (v_ages : (Nat → Int32)) (s37 : Int32 × (Nat → Int32)) : Option ((((Nat → Int32)) ⊕ (Int32 × (Nat → Int32))) ⊕ (Int32 × (Nat → Int32))) :=
  if (nI 10) ≤ s37.1 then
    some (.inl (.inl (upd (upd (upd (upd (upd (upd (upd s37.2 (xat (nI 22)) v_laws) (xat (nI 23)) v_inForce) (xat (nI 24)) v_depth) (xat (nI 25)) v_miss) (xat (nI 26)) v_size) (xat (nI 27)) v_people) (xat (nI 28)) v_seed)))
  else
  if xout s37.1 10 then none else
  if xout ((nI 12) + s37.1) 29 then none else
  some (.inr (s37.1 + (nI 1), upd s37.2 (xat ((nI 12) + s37.1)) (v_ages (xat s37.1))))
def f_X7_keep_L2 (v_laws : Int32) (v_inForce : Int32) (v_depth : Int32) (v_miss : Int32) (v_size : Int32) (v_people : Int32) (v_seed : Int32) (v_ages : (Nat → Int32)) (v_kind : (Nat → Int32)) (v_own : (Nat → Int32)) (s2 : Int32 × (Nat → Int32)) : Option (((Nat → Int32)) ⊕ (Int32 × (Nat → Int32))) :=
  if (nI 6) ≤ s2.1 then
    xloop (f_X7_keep_L37 v_laws v_inForce v_depth v_miss v_size v_people v_seed v_ages) xN ((nI 0), s2.2)
  else
  if xout s2.1 6 then none else
  if xout s2.1 29 then none else
  if xout s2.1 6 then none else
  if xout ((nI 6) + s2.1) 29 then none else
  some (.inr (s2.1 + (nI 1), upd (upd s2.2 (xat s2.1) (v_kind (xat s2.1))) (xat ((nI 6) + s2.1)) (v_own (xat s2.1))))
def f_X7_keep (v_laws : Int32) (v_inForce : Int32) (v_depth : Int32) (v_miss : Int32) (v_size : Int32) (v_people : Int32) (v_seed : Int32) (v_ages : (Nat → Int32)) (v_kind : (Nat → Int32)) (v_own : (Nat → Int32)) (v_o1 : (Nat → Int32)) : Option ((Nat → Int32)) :=
  xloop (f_X7_keep_L2 v_laws v_inForce v_depth v_miss v_size v_people v_seed v_ages v_kind v_own) xN ((nI 0), v_o1)
set_option maxHeartbeats 4000000 in
set_option maxRecDepth 100000 in
theorem c_X7_keep {l : Launch} {X : xG} {h0 h1 h2 h3 h4 g0 g1 g2 g3 g4 g5 g6 g7 : Nat} {v_laws : Int32} {v_inForce : Int32} {v_depth : Int32} {v_miss : Int32} {v_ring : Int64} {v_size : Int32} {v_people : Int32} {v_seed : Int32} {v_taped : Int32} {v_from : Int32} {v_to : Int32} {v_token : Int32} {v_value : Int32} {v_imaged : Int32} {v_oldRing : Int64} {v_aheadRing : Int64} {v_ages : (Nat → Int32)} {v_kind : (Nat → Int32)} {v_own : (Nat → Int32)} {v_o1 : (Nat → Int32)} {u : (Nat → Int32)} (hf : f_X7_keep v_laws v_inForce v_depth v_miss v_size v_people v_seed v_ages v_kind v_own v_o1 = some u) : Met l yX7_keep (xw yX7_keep cX7_keep 3 none) (xrm 0 0) (xPc [.ref h0, .ref h4] X [(h0, xO 7 [.int v_laws, .ref h2, .ref h3, .int v_inForce, .int v_depth, .int v_miss, .long v_ring, .int v_size, .int v_people, .ref h1, .int v_seed, .int v_taped, .ref g0, .int v_from, .int v_to, .int v_token, .int v_value, .ref g1, .ref g2, .ref g3, .ref g4, .int v_imaged, .ref g5, .long v_oldRing, .ref g6, .long v_aheadRing, .ref g7]), (h1, xI X 10 v_ages), (h2, xI X 6 v_kind), (h3, xI X 6 v_own), (h4, xI X 29 v_o1)]) (xQw True (.returned none) X [(h0, xO 7 [.int v_laws, .ref h2, .ref h3, .int v_inForce, .int v_depth, .int v_miss, .long v_ring, .int v_size, .int v_people, .ref h1, .int v_seed, .int v_taped, .ref g0, .int v_from, .int v_to, .int v_token, .int v_value, .ref g1, .ref g2, .ref g3, .ref g4, .int v_imaged, .ref g5, .long v_oldRing, .ref g6, .long v_aheadRing, .ref g7]), (h1, xI X 10 v_ages), (h2, xI X 6 v_kind), (h3, xI X 6 v_own), (h4, xI X 29 u)] (xAs [(h0, xO 7 [.int v_laws, .ref h2, .ref h3, .int v_inForce, .int v_depth, .int v_miss, .long v_ring, .int v_size, .int v_people, .ref h1, .int v_seed, .int v_taped, .ref g0, .int v_from, .int v_to, .int v_token, .int v_value, .ref g1, .ref g2, .ref g3, .ref g4, .int v_imaged, .ref g5, .long v_oldRing, .ref g6, .long v_aheadRing, .ref g7]), (h1, xI X 10 v_ages), (h2, xI X 6 v_kind), (h3, xI X 6 v_own), (h4, xI X 29 v_o1)])) 0 0 (xAs [(h0, xO 7 [.int v_laws, .ref h2, .ref h3, .int v_inForce, .int v_depth, .int v_miss, .long v_ring, .int v_size, .int v_people, .ref h1, .int v_seed, .int v_taped, .ref g0, .int v_from, .int v_to, .int v_token, .int v_value, .ref g1, .ref g2, .ref g3, .ref g4, .int v_imaged, .ref g5, .long v_oldRing, .ref g6, .long v_aheadRing, .ref g7]), (h1, xI X 10 v_ages), (h2, xI X 6 v_kind), (h3, xI X 6 v_own), (h4, xI X 29 v_o1)]) := by
  refine xMetw (Qc := fun A => xQw True (.returned none) X [(h0, xO 7 [.int v_laws, .ref h2, .ref h3, .int v_inForce, .int v_depth, .int v_miss, .long v_ring, .int v_size, .int v_people, .ref h1, .int v_seed, .int v_taped, .ref g0, .int v_from, .int v_to, .int v_token, .int v_value, .ref g1, .ref g2, .ref g3, .ref g4, .int v_imaged, .ref g5, .long v_oldRing, .ref g6, .long v_aheadRing, .ref g7]), (h1, xI X 10 v_ages), (h2, xI X 6 v_kind), (h3, xI X 6 v_own), (h4, xI X 29 u)] A) (n := 1) md_X7_keep.1 (Nat.le_of_ble_eq_true rfl) ?_
  intro p e s m args below meth c ls A hC hr hlk hH hl
  have hl : lv_has ls 3 [(0, .ref h0), (1, .ref h4)] := hl
  have hx := hC.1
  have hb := hC.2.1
  have L2 : ∀ (n : Nat) (s2 : Int32 × (Nat → Int32)), xloop (f_X7_keep_L2 v_laws v_inForce v_depth v_miss v_size v_people v_seed v_ages v_kind v_own) n s2 = some u → ∀ (H : Heap) (locs : List Loc), xH X A [(h0, xO 7 [.int v_laws, .ref h2, .ref h3, .int v_inForce, .int v_depth, .int v_miss, .long v_ring, .int v_size, .int v_people, .ref h1, .int v_seed, .int v_taped, .ref g0, .int v_from, .int v_to, .int v_token, .int v_value, .ref g1, .ref g2, .ref g3, .ref g4, .int v_imaged, .ref g5, .long v_oldRing, .ref g6, .long v_aheadRing, .ref g7]), (h1, xI X 10 v_ages), (h2, xI X 6 v_kind), (h3, xI X 6 v_own), (h4, xI X 29 s2.2)] s.heap H locs → ∀ (ls : Array Slot), lv_has ls 3 [(0, .ref h0), (1, .ref h4), (2, .int s2.1)] → W p l e (xrm 0 0) s m args below meth c H locs 0 0 (MQ below (xQw True (.returned none) X [(h0, xO 7 [.int v_laws, .ref h2, .ref h3, .int v_inForce, .int v_depth, .int v_miss, .long v_ring, .int v_size, .int v_people, .ref h1, .int v_seed, .int v_taped, .ref g0, .int v_from, .int v_to, .int v_token, .int v_value, .ref g1, .ref g2, .ref g3, .ref g4, .int v_imaged, .ref g5, .long v_oldRing, .ref g6, .long v_aheadRing, .ref g7]), (h1, xI X 10 v_ages), (h2, xI X 6 v_kind), (h3, xI X 6 v_own), (h4, xI X 29 u)] A) args s 0 0 A) (F0 m 2 ls []) := by
    intro  n
    induction n with
    | zero => intro s2 hf; exact xloop_0 hf
    | succ n ih2 =>
      intro s2 hf H locs hH ls hl
      obtain ⟨o2, hf, ho2⟩ := xloop_s hf
      have L37 : ∀ (n : Nat) (s37 : Int32 × (Nat → Int32)), xloop (f_X7_keep_L37 v_laws v_inForce v_depth v_miss v_size v_people v_seed v_ages) n s37 = some o2 → ∀ (H : Heap) (locs : List Loc), xH X A [(h0, xO 7 [.int v_laws, .ref h2, .ref h3, .int v_inForce, .int v_depth, .int v_miss, .long v_ring, .int v_size, .int v_people, .ref h1, .int v_seed, .int v_taped, .ref g0, .int v_from, .int v_to, .int v_token, .int v_value, .ref g1, .ref g2, .ref g3, .ref g4, .int v_imaged, .ref g5, .long v_oldRing, .ref g6, .long v_aheadRing, .ref g7]), (h1, xI X 10 v_ages), (h2, xI X 6 v_kind), (h3, xI X 6 v_own), (h4, xI X 29 s37.2)] s.heap H locs → ∀ (ls : Array Slot), lv_has ls 3 [(0, .ref h0), (1, .ref h4), (2, .int s37.1)] → W p l e (xrm 0 0) s m args below meth c H locs 0 0 (MQ below (xQw True (.returned none) X [(h0, xO 7 [.int v_laws, .ref h2, .ref h3, .int v_inForce, .int v_depth, .int v_miss, .long v_ring, .int v_size, .int v_people, .ref h1, .int v_seed, .int v_taped, .ref g0, .int v_from, .int v_to, .int v_token, .int v_value, .ref g1, .ref g2, .ref g3, .ref g4, .int v_imaged, .ref g5, .long v_oldRing, .ref g6, .long v_aheadRing, .ref g7]), (h1, xI X 10 v_ages), (h2, xI X 6 v_kind), (h3, xI X 6 v_own), (h4, xI X 29 u)] A) args s 0 0 A) (F0 m 37 ls []) := by
        intro  n
        induction n with
        | zero => intro s37 hf; exact xloop_0 hf
        | succ n ih37 =>
          intro s37 hf H locs hH ls hl
          obtain ⟨o37, hf, ho37⟩ := xloop_s hf
          refine lv_iload_n hx hb dX7_keep_37 rfl (lv_at hl 2 rfl) ?_
          refine lv_bipush (v := (nI 10)) hx hb dX7_keep_38 (by decide) ?_
          refine lv_icmp_ge (tgt := 61) hx hb dX7_keep_40 (by decide) (fun c2 => ?_) (fun c2 => ?_)
          · have hf := xt c2 hf
            refine lv_aload_n hx hb dX7_keep_61 rfl (lv_at hl 1 rfl) ?_
            refine lv_bipush (v := (nI 22)) hx hb dX7_keep_62 (by decide) ?_
            refine lv_aload_n hx hb dX7_keep_64 rfl (lv_at hl 0 rfl) ?_
            refine x_get hC fd_RX7_52 hH.1 0 rfl rfl dX7_keep_65 ?_
            refine x_iast (ws' := [(h0, xO 7 [.int v_laws, .ref h2, .ref h3, .int v_inForce, .int v_depth, .int v_miss, .long v_ring, .int v_size, .int v_people, .ref h1, .int v_seed, .int v_taped, .ref g0, .int v_from, .int v_to, .int v_token, .int v_value, .ref g1, .ref g2, .ref g3, .ref g4, .int v_imaged, .ref g5, .long v_oldRing, .ref g6, .long v_aheadRing, .ref g7]), (h1, xI X 10 v_ages), (h2, xI X 6 v_kind), (h3, xI X 6 v_own), (h4, xI X 29 (upd s37.2 (xat (nI 22)) v_laws))]) hC hH 4 rfl (by decide) dX7_keep_68 rfl (fun H locs hH => ?_)
            refine lv_aload_n hx hb dX7_keep_69 rfl (lv_at hl 1 rfl) ?_
            refine lv_bipush (v := (nI 23)) hx hb dX7_keep_70 (by decide) ?_
            refine lv_aload_n hx hb dX7_keep_72 rfl (lv_at hl 0 rfl) ?_
            refine x_get hC fd_RX7_102 hH.1 0 rfl rfl dX7_keep_73 ?_
            refine x_iast (ws' := [(h0, xO 7 [.int v_laws, .ref h2, .ref h3, .int v_inForce, .int v_depth, .int v_miss, .long v_ring, .int v_size, .int v_people, .ref h1, .int v_seed, .int v_taped, .ref g0, .int v_from, .int v_to, .int v_token, .int v_value, .ref g1, .ref g2, .ref g3, .ref g4, .int v_imaged, .ref g5, .long v_oldRing, .ref g6, .long v_aheadRing, .ref g7]), (h1, xI X 10 v_ages), (h2, xI X 6 v_kind), (h3, xI X 6 v_own), (h4, xI X 29 (upd (upd s37.2 (xat (nI 22)) v_laws) (xat (nI 23)) v_inForce))]) hC hH 4 rfl (by decide) dX7_keep_76 rfl (fun H locs hH => ?_)
            refine lv_aload_n hx hb dX7_keep_77 rfl (lv_at hl 1 rfl) ?_
            refine lv_bipush (v := (nI 24)) hx hb dX7_keep_78 (by decide) ?_
            refine lv_aload_n hx hb dX7_keep_80 rfl (lv_at hl 0 rfl) ?_
            refine x_get hC fd_RX7_45 hH.1 0 rfl rfl dX7_keep_81 ?_
            refine x_iast (ws' := [(h0, xO 7 [.int v_laws, .ref h2, .ref h3, .int v_inForce, .int v_depth, .int v_miss, .long v_ring, .int v_size, .int v_people, .ref h1, .int v_seed, .int v_taped, .ref g0, .int v_from, .int v_to, .int v_token, .int v_value, .ref g1, .ref g2, .ref g3, .ref g4, .int v_imaged, .ref g5, .long v_oldRing, .ref g6, .long v_aheadRing, .ref g7]), (h1, xI X 10 v_ages), (h2, xI X 6 v_kind), (h3, xI X 6 v_own), (h4, xI X 29 (upd (upd (upd s37.2 (xat (nI 22)) v_laws) (xat (nI 23)) v_inForce) (xat (nI 24)) v_depth))]) hC hH 4 rfl (by decide) dX7_keep_84 rfl (fun H locs hH => ?_)
            refine lv_aload_n hx hb dX7_keep_85 rfl (lv_at hl 1 rfl) ?_
            refine lv_bipush (v := (nI 25)) hx hb dX7_keep_86 (by decide) ?_
            refine lv_aload_n hx hb dX7_keep_88 rfl (lv_at hl 0 rfl) ?_
            refine x_get hC fd_RX7_105 hH.1 0 rfl rfl dX7_keep_89 ?_
            refine x_iast (ws' := [(h0, xO 7 [.int v_laws, .ref h2, .ref h3, .int v_inForce, .int v_depth, .int v_miss, .long v_ring, .int v_size, .int v_people, .ref h1, .int v_seed, .int v_taped, .ref g0, .int v_from, .int v_to, .int v_token, .int v_value, .ref g1, .ref g2, .ref g3, .ref g4, .int v_imaged, .ref g5, .long v_oldRing, .ref g6, .long v_aheadRing, .ref g7]), (h1, xI X 10 v_ages), (h2, xI X 6 v_kind), (h3, xI X 6 v_own), (h4, xI X 29 (upd (upd (upd (upd s37.2 (xat (nI 22)) v_laws) (xat (nI 23)) v_inForce) (xat (nI 24)) v_depth) (xat (nI 25)) v_miss))]) hC hH 4 rfl (by decide) dX7_keep_92 rfl (fun H locs hH => ?_)
            refine lv_aload_n hx hb dX7_keep_93 rfl (lv_at hl 1 rfl) ?_
            refine lv_bipush (v := (nI 26)) hx hb dX7_keep_94 (by decide) ?_
            refine lv_aload_n hx hb dX7_keep_96 rfl (lv_at hl 0 rfl) ?_
            refine x_get hC fd_RX7_62 hH.1 0 rfl rfl dX7_keep_97 ?_
            refine x_iast (ws' := [(h0, xO 7 [.int v_laws, .ref h2, .ref h3, .int v_inForce, .int v_depth, .int v_miss, .long v_ring, .int v_size, .int v_people, .ref h1, .int v_seed, .int v_taped, .ref g0, .int v_from, .int v_to, .int v_token, .int v_value, .ref g1, .ref g2, .ref g3, .ref g4, .int v_imaged, .ref g5, .long v_oldRing, .ref g6, .long v_aheadRing, .ref g7]), (h1, xI X 10 v_ages), (h2, xI X 6 v_kind), (h3, xI X 6 v_own), (h4, xI X 29 (upd (upd (upd (upd (upd s37.2 (xat (nI 22)) v_laws) (xat (nI 23)) v_inForce) (xat (nI 24)) v_depth) (xat (nI 25)) v_miss) (xat (nI 26)) v_size))]) hC hH 4 rfl (by decide) dX7_keep_100 rfl (fun H locs hH => ?_)
            refine lv_aload_n hx hb dX7_keep_101 rfl (lv_at hl 1 rfl) ?_
            refine lv_bipush (v := (nI 27)) hx hb dX7_keep_102 (by decide) ?_
            refine lv_aload_n hx hb dX7_keep_104 rfl (lv_at hl 0 rfl) ?_
            refine x_get hC fd_RX7_59 hH.1 0 rfl rfl dX7_keep_105 ?_
            refine x_iast (ws' := [(h0, xO 7 [.int v_laws, .ref h2, .ref h3, .int v_inForce, .int v_depth, .int v_miss, .long v_ring, .int v_size, .int v_people, .ref h1, .int v_seed, .int v_taped, .ref g0, .int v_from, .int v_to, .int v_token, .int v_value, .ref g1, .ref g2, .ref g3, .ref g4, .int v_imaged, .ref g5, .long v_oldRing, .ref g6, .long v_aheadRing, .ref g7]), (h1, xI X 10 v_ages), (h2, xI X 6 v_kind), (h3, xI X 6 v_own), (h4, xI X 29 (upd (upd (upd (upd (upd (upd s37.2 (xat (nI 22)) v_laws) (xat (nI 23)) v_inForce) (xat (nI 24)) v_depth) (xat (nI 25)) v_miss) (xat (nI 26)) v_size) (xat (nI 27)) v_people))]) hC hH 4 rfl (by decide) dX7_keep_108 rfl (fun H locs hH => ?_)
            refine lv_aload_n hx hb dX7_keep_109 rfl (lv_at hl 1 rfl) ?_
            refine lv_bipush (v := (nI 28)) hx hb dX7_keep_110 (by decide) ?_
            refine lv_aload_n hx hb dX7_keep_112 rfl (lv_at hl 0 rfl) ?_
            refine x_get hC fd_RX7_49 hH.1 0 rfl rfl dX7_keep_113 ?_
            refine x_iast (ws' := [(h0, xO 7 [.int v_laws, .ref h2, .ref h3, .int v_inForce, .int v_depth, .int v_miss, .long v_ring, .int v_size, .int v_people, .ref h1, .int v_seed, .int v_taped, .ref g0, .int v_from, .int v_to, .int v_token, .int v_value, .ref g1, .ref g2, .ref g3, .ref g4, .int v_imaged, .ref g5, .long v_oldRing, .ref g6, .long v_aheadRing, .ref g7]), (h1, xI X 10 v_ages), (h2, xI X 6 v_kind), (h3, xI X 6 v_own), (h4, xI X 29 (upd (upd (upd (upd (upd (upd (upd s37.2 (xat (nI 22)) v_laws) (xat (nI 23)) v_inForce) (xat (nI 24)) v_depth) (xat (nI 25)) v_miss) (xat (nI 26)) v_size) (xat (nI 27)) v_people) (xat (nI 28)) v_seed))]) hC hH 4 rfl (by decide) dX7_keep_116 rfl (fun H locs hH => ?_)
            have hf := xo_ret hf ho37
            have hf := xo_ret hf ho2
            exact x_retvw (φ := fun _ => True) (wf := fun u : (Nat → Int32) => [(h0, xO 7 [.int v_laws, .ref h2, .ref h3, .int v_inForce, .int v_depth, .int v_miss, .long v_ring, .int v_size, .int v_people, .ref h1, .int v_seed, .int v_taped, .ref g0, .int v_from, .int v_to, .int v_token, .int v_value, .ref g1, .ref g2, .ref g3, .ref g4, .int v_imaged, .ref g5, .long v_oldRing, .ref g6, .long v_aheadRing, .ref g7]), (h1, xI X 10 v_ages), (h2, xI X 6 v_kind), (h3, xI X 6 v_own), (h4, xI X 29 u)]) hC hr hlk trivial hf hH rfl dX7_keep_117
          · have hf := xe c2 hf
            refine lv_aload_n hx hb dX7_keep_43 rfl (lv_at hl 1 rfl) ?_
            refine lv_bipush (v := (nI 12)) hx hb dX7_keep_44 (by decide) ?_
            refine lv_iload_n hx hb dX7_keep_46 rfl (lv_at hl 2 rfl) ?_
            refine lv_iadd hx hb dX7_keep_47 ?_
            refine lv_aload_n hx hb dX7_keep_48 rfl (lv_at hl 0 rfl) ?_
            refine x_get hC fd_RX7_16 hH.1 0 rfl rfl dX7_keep_49 ?_
            refine lv_iload_n hx hb dX7_keep_52 rfl (lv_at hl 2 rfl) ?_
            obtain ⟨n10, hf⟩ := xok hf
            refine x_iald hC hH.1 1 rfl n10 dX7_keep_53 ?_
            obtain ⟨n11, hf⟩ := xok hf
            refine x_iast (ws' := [(h0, xO 7 [.int v_laws, .ref h2, .ref h3, .int v_inForce, .int v_depth, .int v_miss, .long v_ring, .int v_size, .int v_people, .ref h1, .int v_seed, .int v_taped, .ref g0, .int v_from, .int v_to, .int v_token, .int v_value, .ref g1, .ref g2, .ref g3, .ref g4, .int v_imaged, .ref g5, .long v_oldRing, .ref g6, .long v_aheadRing, .ref g7]), (h1, xI X 10 v_ages), (h2, xI X 6 v_kind), (h3, xI X 6 v_own), (h4, xI X 29 (upd s37.2 (xat ((nI 12) + s37.1)) (v_ages (xat s37.1))))]) hC hH 4 rfl n11 dX7_keep_54 rfl (fun H locs hH => ?_)
            refine lv_iinc (v := s37.1 + (nI 1)) (lv' := [(2, .int (s37.1 + (nI 1))), (0, .ref h0), (1, .ref h4)]) hx hb dX7_keep_55 hl (k := 2) rfl rfl (by decide) rfl (fun ls hl => ?_)
            refine lv_goto (tgt := 37) hx hb dX7_keep_58 (by decide) ?_
            have hf := xo_go hf ho37
            exact ih37 (s37.1 + (nI 1), upd s37.2 (xat ((nI 12) + s37.1)) (v_ages (xat s37.1))) hf _ _ hH ls (lv_sub hl [1, 2, 0] rfl)
      refine lv_iload_n hx hb dX7_keep_2 rfl (lv_at hl 2 rfl) ?_
      refine lv_bipush (v := (nI 6)) hx hb dX7_keep_3 (by decide) ?_
      refine lv_icmp_ge (tgt := 35) hx hb dX7_keep_5 (by decide) (fun c1 => ?_) (fun c1 => ?_)
      · have hf := xt c1 hf
        refine lv_iconst (v := (nI 0)) hx hb dX7_keep_35 (by decide) ?_
        refine lv_istore_n (lv' := [(2, .int (nI 0)), (0, .ref h0), (1, .ref h4)]) hx hb dX7_keep_36 rfl hl (by decide) rfl (fun ls hl => ?_)
        exact L37 xN ((nI 0), s2.2) hf _ _ hH ls (lv_sub hl [1, 2, 0] rfl)
      · have hf := xe c1 hf
        refine lv_aload_n hx hb dX7_keep_8 rfl (lv_at hl 1 rfl) ?_
        refine lv_iload_n hx hb dX7_keep_9 rfl (lv_at hl 2 rfl) ?_
        refine lv_aload_n hx hb dX7_keep_10 rfl (lv_at hl 0 rfl) ?_
        refine x_get hC fd_RX7_7 hH.1 0 rfl rfl dX7_keep_11 ?_
        refine lv_iload_n hx hb dX7_keep_14 rfl (lv_at hl 2 rfl) ?_
        obtain ⟨n12, hf⟩ := xok hf
        refine x_iald hC hH.1 2 rfl n12 dX7_keep_15 ?_
        obtain ⟨n13, hf⟩ := xok hf
        refine x_iast (ws' := [(h0, xO 7 [.int v_laws, .ref h2, .ref h3, .int v_inForce, .int v_depth, .int v_miss, .long v_ring, .int v_size, .int v_people, .ref h1, .int v_seed, .int v_taped, .ref g0, .int v_from, .int v_to, .int v_token, .int v_value, .ref g1, .ref g2, .ref g3, .ref g4, .int v_imaged, .ref g5, .long v_oldRing, .ref g6, .long v_aheadRing, .ref g7]), (h1, xI X 10 v_ages), (h2, xI X 6 v_kind), (h3, xI X 6 v_own), (h4, xI X 29 (upd s2.2 (xat s2.1) (v_kind (xat s2.1))))]) hC hH 4 rfl n13 dX7_keep_16 rfl (fun H locs hH => ?_)
        refine lv_aload_n hx hb dX7_keep_17 rfl (lv_at hl 1 rfl) ?_
        refine lv_bipush (v := (nI 6)) hx hb dX7_keep_18 (by decide) ?_
        refine lv_iload_n hx hb dX7_keep_20 rfl (lv_at hl 2 rfl) ?_
        refine lv_iadd hx hb dX7_keep_21 ?_
        refine lv_aload_n hx hb dX7_keep_22 rfl (lv_at hl 0 rfl) ?_
        refine x_get hC fd_RX7_13 hH.1 0 rfl rfl dX7_keep_23 ?_
        refine lv_iload_n hx hb dX7_keep_26 rfl (lv_at hl 2 rfl) ?_
        obtain ⟨n14, hf⟩ := xok hf
        refine x_iald hC hH.1 3 rfl n14 dX7_keep_27 ?_
        obtain ⟨n15, hf⟩ := xok hf
        refine x_iast (ws' := [(h0, xO 7 [.int v_laws, .ref h2, .ref h3, .int v_inForce, .int v_depth, .int v_miss, .long v_ring, .int v_size, .int v_people, .ref h1, .int v_seed, .int v_taped, .ref g0, .int v_from, .int v_to, .int v_token, .int v_value, .ref g1, .ref g2, .ref g3, .ref g4, .int v_imaged, .ref g5, .long v_oldRing, .ref g6, .long v_aheadRing, .ref g7]), (h1, xI X 10 v_ages), (h2, xI X 6 v_kind), (h3, xI X 6 v_own), (h4, xI X 29 (upd (upd s2.2 (xat s2.1) (v_kind (xat s2.1))) (xat ((nI 6) + s2.1)) (v_own (xat s2.1))))]) hC hH 4 rfl n15 dX7_keep_28 rfl (fun H locs hH => ?_)
        refine lv_iinc (v := s2.1 + (nI 1)) (lv' := [(2, .int (s2.1 + (nI 1))), (0, .ref h0), (1, .ref h4)]) hx hb dX7_keep_29 hl (k := 2) rfl rfl (by decide) rfl (fun ls hl => ?_)
        refine lv_goto (tgt := 2) hx hb dX7_keep_32 (by decide) ?_
        have hf := xo_go hf ho2
        exact ih2 (s2.1 + (nI 1), upd (upd s2.2 (xat s2.1) (v_kind (xat s2.1))) (xat ((nI 6) + s2.1)) (v_own (xat s2.1))) hf _ _ hH ls (lv_sub hl [1, 2, 0] rfl)
  refine lv_iconst (v := (nI 0)) hx hb dX7_keep_0 (by decide) ?_
  refine lv_istore_n (lv' := [(2, .int (nI 0)), (0, .ref h0), (1, .ref h4)]) hx hb dX7_keep_1 rfl hl (by decide) rfl (fun ls hl => ?_)
  exact L2 xN ((nI 0), v_o1) hf _ _ hH ls (lv_sub hl [1, 2, 0] rfl)
def f_X7_again_L37 (v_o1 : (Nat → Int32)) (s2 : Int32 × (Nat → Int32) × (Nat → Int32)) (s37 : Int32 × (Nat → Int32)) : Option (((Int32 × Int32 × Int32 × Int32 × Int32 × Int32 × Int32 × (Nat → Int32) × (Nat → Int32) × (Nat → Int32)) ⊕ (Int32 × (Nat → Int32) × (Nat → Int32))) ⊕ (Int32 × (Nat → Int32))) :=
  if (nI 10) ≤ s37.1 then
    some (.inl (.inl (v_o1 (xat (nI 22)), v_o1 (xat (nI 23)), v_o1 (xat (nI 24)), v_o1 (xat (nI 25)), v_o1 (xat (nI 26)), v_o1 (xat (nI 27)), v_o1 (xat (nI 28)), s37.2, s2.2.1, s2.2.2)))
  else
  if xout ((nI 12) + s37.1) 29 then none else
  if xout s37.1 10 then none else
  some (.inr (s37.1 + (nI 1), upd s37.2 (xat s37.1) (v_o1 (xat ((nI 12) + s37.1)))))
def f_X7_again_L2 (v_ages : (Nat → Int32)) (v_o1 : (Nat → Int32)) (s2 : Int32 × (Nat → Int32) × (Nat → Int32)) : Option ((Int32 × Int32 × Int32 × Int32 × Int32 × Int32 × Int32 × (Nat → Int32) × (Nat → Int32) × (Nat → Int32)) ⊕ (Int32 × (Nat → Int32) × (Nat → Int32))) :=
  if (nI 6) ≤ s2.1 then
    xloop (f_X7_again_L37 v_o1 s2) xN ((nI 0), v_ages)
  else
  if xout s2.1 29 then none else
  if xout s2.1 6 then none else
  if xout ((nI 6) + s2.1) 29 then none else
  if xout s2.1 6 then none else
  some (.inr (s2.1 + (nI 1), upd s2.2.1 (xat s2.1) (v_o1 (xat s2.1)), upd s2.2.2 (xat s2.1) (v_o1 (xat ((nI 6) + s2.1)))))
def f_X7_again (v_laws : Int32) (v_inForce : Int32) (v_depth : Int32) (v_miss : Int32) (v_size : Int32) (v_people : Int32) (v_seed : Int32) (v_ages : (Nat → Int32)) (v_kind : (Nat → Int32)) (v_own : (Nat → Int32)) (v_o1 : (Nat → Int32)) : Option (Int32 × Int32 × Int32 × Int32 × Int32 × Int32 × Int32 × (Nat → Int32) × (Nat → Int32) × (Nat → Int32)) :=
  xloop (f_X7_again_L2 v_ages v_o1) xN ((nI 0), v_kind, v_own)
set_option maxHeartbeats 4000000 in
set_option maxRecDepth 100000 in
theorem c_X7_again {l : Launch} {X : xG} {h0 h1 h2 h3 h4 g0 g1 g2 g3 g4 g5 g6 g7 : Nat} {v_laws : Int32} {v_inForce : Int32} {v_depth : Int32} {v_miss : Int32} {v_ring : Int64} {v_size : Int32} {v_people : Int32} {v_seed : Int32} {v_taped : Int32} {v_from : Int32} {v_to : Int32} {v_token : Int32} {v_value : Int32} {v_imaged : Int32} {v_oldRing : Int64} {v_aheadRing : Int64} {v_ages : (Nat → Int32)} {v_kind : (Nat → Int32)} {v_own : (Nat → Int32)} {v_o1 : (Nat → Int32)} {u : Int32 × Int32 × Int32 × Int32 × Int32 × Int32 × Int32 × (Nat → Int32) × (Nat → Int32) × (Nat → Int32)} (hf : f_X7_again v_laws v_inForce v_depth v_miss v_size v_people v_seed v_ages v_kind v_own v_o1 = some u) : Met l yX7_again (xw yX7_again cX7_again 3 none) (xrm 0 0) (xPc [.ref h0, .ref h4] X [(h0, xO 7 [.int v_laws, .ref h2, .ref h3, .int v_inForce, .int v_depth, .int v_miss, .long v_ring, .int v_size, .int v_people, .ref h1, .int v_seed, .int v_taped, .ref g0, .int v_from, .int v_to, .int v_token, .int v_value, .ref g1, .ref g2, .ref g3, .ref g4, .int v_imaged, .ref g5, .long v_oldRing, .ref g6, .long v_aheadRing, .ref g7]), (h1, xI X 10 v_ages), (h2, xI X 6 v_kind), (h3, xI X 6 v_own), (h4, xI X 29 v_o1)]) (xQw True (.returned none) X [(h0, xO 7 [.int u.1, .ref h2, .ref h3, .int u.2.1, .int u.2.2.1, .int u.2.2.2.1, .long v_ring, .int u.2.2.2.2.1, .int u.2.2.2.2.2.1, .ref h1, .int u.2.2.2.2.2.2.1, .int v_taped, .ref g0, .int v_from, .int v_to, .int v_token, .int v_value, .ref g1, .ref g2, .ref g3, .ref g4, .int v_imaged, .ref g5, .long v_oldRing, .ref g6, .long v_aheadRing, .ref g7]), (h1, xI X 10 u.2.2.2.2.2.2.2.1), (h2, xI X 6 u.2.2.2.2.2.2.2.2.1), (h3, xI X 6 u.2.2.2.2.2.2.2.2.2), (h4, xI X 29 v_o1)] (xAs [(h0, xO 7 [.int v_laws, .ref h2, .ref h3, .int v_inForce, .int v_depth, .int v_miss, .long v_ring, .int v_size, .int v_people, .ref h1, .int v_seed, .int v_taped, .ref g0, .int v_from, .int v_to, .int v_token, .int v_value, .ref g1, .ref g2, .ref g3, .ref g4, .int v_imaged, .ref g5, .long v_oldRing, .ref g6, .long v_aheadRing, .ref g7]), (h1, xI X 10 v_ages), (h2, xI X 6 v_kind), (h3, xI X 6 v_own), (h4, xI X 29 v_o1)])) 0 0 (xAs [(h0, xO 7 [.int v_laws, .ref h2, .ref h3, .int v_inForce, .int v_depth, .int v_miss, .long v_ring, .int v_size, .int v_people, .ref h1, .int v_seed, .int v_taped, .ref g0, .int v_from, .int v_to, .int v_token, .int v_value, .ref g1, .ref g2, .ref g3, .ref g4, .int v_imaged, .ref g5, .long v_oldRing, .ref g6, .long v_aheadRing, .ref g7]), (h1, xI X 10 v_ages), (h2, xI X 6 v_kind), (h3, xI X 6 v_own), (h4, xI X 29 v_o1)]) := by
  refine xMetw (Qc := fun A => xQw True (.returned none) X [(h0, xO 7 [.int u.1, .ref h2, .ref h3, .int u.2.1, .int u.2.2.1, .int u.2.2.2.1, .long v_ring, .int u.2.2.2.2.1, .int u.2.2.2.2.2.1, .ref h1, .int u.2.2.2.2.2.2.1, .int v_taped, .ref g0, .int v_from, .int v_to, .int v_token, .int v_value, .ref g1, .ref g2, .ref g3, .ref g4, .int v_imaged, .ref g5, .long v_oldRing, .ref g6, .long v_aheadRing, .ref g7]), (h1, xI X 10 u.2.2.2.2.2.2.2.1), (h2, xI X 6 u.2.2.2.2.2.2.2.2.1), (h3, xI X 6 u.2.2.2.2.2.2.2.2.2), (h4, xI X 29 v_o1)] A) (n := 1) md_X7_again.1 (Nat.le_of_ble_eq_true rfl) ?_
  intro p e s m args below meth c ls A hC hr hlk hH hl
  have hl : lv_has ls 3 [(0, .ref h0), (1, .ref h4)] := hl
  have hx := hC.1
  have hb := hC.2.1
  have L2 : ∀ (n : Nat) (s2 : Int32 × (Nat → Int32) × (Nat → Int32)), xloop (f_X7_again_L2 v_ages v_o1) n s2 = some u → ∀ (H : Heap) (locs : List Loc), xH X A [(h0, xO 7 [.int v_laws, .ref h2, .ref h3, .int v_inForce, .int v_depth, .int v_miss, .long v_ring, .int v_size, .int v_people, .ref h1, .int v_seed, .int v_taped, .ref g0, .int v_from, .int v_to, .int v_token, .int v_value, .ref g1, .ref g2, .ref g3, .ref g4, .int v_imaged, .ref g5, .long v_oldRing, .ref g6, .long v_aheadRing, .ref g7]), (h1, xI X 10 v_ages), (h2, xI X 6 s2.2.1), (h3, xI X 6 s2.2.2), (h4, xI X 29 v_o1)] s.heap H locs → ∀ (ls : Array Slot), lv_has ls 3 [(0, .ref h0), (1, .ref h4), (2, .int s2.1)] → W p l e (xrm 0 0) s m args below meth c H locs 0 0 (MQ below (xQw True (.returned none) X [(h0, xO 7 [.int u.1, .ref h2, .ref h3, .int u.2.1, .int u.2.2.1, .int u.2.2.2.1, .long v_ring, .int u.2.2.2.2.1, .int u.2.2.2.2.2.1, .ref h1, .int u.2.2.2.2.2.2.1, .int v_taped, .ref g0, .int v_from, .int v_to, .int v_token, .int v_value, .ref g1, .ref g2, .ref g3, .ref g4, .int v_imaged, .ref g5, .long v_oldRing, .ref g6, .long v_aheadRing, .ref g7]), (h1, xI X 10 u.2.2.2.2.2.2.2.1), (h2, xI X 6 u.2.2.2.2.2.2.2.2.1), (h3, xI X 6 u.2.2.2.2.2.2.2.2.2), (h4, xI X 29 v_o1)] A) args s 0 0 A) (F0 m 2 ls []) := by
    intro  n
    induction n with
    | zero => intro s2 hf; exact xloop_0 hf
    | succ n ih2 =>
      intro s2 hf H locs hH ls hl
      obtain ⟨o2, hf, ho2⟩ := xloop_s hf
      have L37 : ∀ (n : Nat) (s37 : Int32 × (Nat → Int32)), xloop (f_X7_again_L37 v_o1 s2) n s37 = some o2 → ∀ (H : Heap) (locs : List Loc), xH X A [(h0, xO 7 [.int v_laws, .ref h2, .ref h3, .int v_inForce, .int v_depth, .int v_miss, .long v_ring, .int v_size, .int v_people, .ref h1, .int v_seed, .int v_taped, .ref g0, .int v_from, .int v_to, .int v_token, .int v_value, .ref g1, .ref g2, .ref g3, .ref g4, .int v_imaged, .ref g5, .long v_oldRing, .ref g6, .long v_aheadRing, .ref g7]), (h1, xI X 10 s37.2), (h2, xI X 6 s2.2.1), (h3, xI X 6 s2.2.2), (h4, xI X 29 v_o1)] s.heap H locs → ∀ (ls : Array Slot), lv_has ls 3 [(0, .ref h0), (1, .ref h4), (2, .int s37.1)] → W p l e (xrm 0 0) s m args below meth c H locs 0 0 (MQ below (xQw True (.returned none) X [(h0, xO 7 [.int u.1, .ref h2, .ref h3, .int u.2.1, .int u.2.2.1, .int u.2.2.2.1, .long v_ring, .int u.2.2.2.2.1, .int u.2.2.2.2.2.1, .ref h1, .int u.2.2.2.2.2.2.1, .int v_taped, .ref g0, .int v_from, .int v_to, .int v_token, .int v_value, .ref g1, .ref g2, .ref g3, .ref g4, .int v_imaged, .ref g5, .long v_oldRing, .ref g6, .long v_aheadRing, .ref g7]), (h1, xI X 10 u.2.2.2.2.2.2.2.1), (h2, xI X 6 u.2.2.2.2.2.2.2.2.1), (h3, xI X 6 u.2.2.2.2.2.2.2.2.2), (h4, xI X 29 v_o1)] A) args s 0 0 A) (F0 m 37 ls []) := by
        intro  n
        induction n with
        | zero => intro s37 hf; exact xloop_0 hf
        | succ n ih37 =>
          intro s37 hf H locs hH ls hl
          obtain ⟨o37, hf, ho37⟩ := xloop_s hf
          refine lv_iload_n hx hb dX7_again_37 rfl (lv_at hl 2 rfl) ?_
          refine lv_bipush (v := (nI 10)) hx hb dX7_again_38 (by decide) ?_
          refine lv_icmp_ge (tgt := 61) hx hb dX7_again_40 (by decide) (fun c2 => ?_) (fun c2 => ?_)
          · have hf := xt c2 hf
            refine lv_aload_n hx hb dX7_again_61 rfl (lv_at hl 0 rfl) ?_
            refine lv_aload_n hx hb dX7_again_62 rfl (lv_at hl 1 rfl) ?_
            refine lv_bipush (v := (nI 22)) hx hb dX7_again_63 (by decide) ?_
            refine x_iald hC hH.1 4 rfl (by decide) dX7_again_65 ?_
            refine x_put (ws' := [(h0, xO 7 [.int (v_o1 (xat (nI 22))), .ref h2, .ref h3, .int v_inForce, .int v_depth, .int v_miss, .long v_ring, .int v_size, .int v_people, .ref h1, .int v_seed, .int v_taped, .ref g0, .int v_from, .int v_to, .int v_token, .int v_value, .ref g1, .ref g2, .ref g3, .ref g4, .int v_imaged, .ref g5, .long v_oldRing, .ref g6, .long v_aheadRing, .ref g7]), (h1, xI X 10 s37.2), (h2, xI X 6 s2.2.1), (h3, xI X 6 s2.2.2), (h4, xI X 29 v_o1)]) hC fd_RX7_52 hH 0 rfl (Nat.le_of_ble_eq_true rfl) rfl rfl dX7_again_66 rfl (fun H locs hH => ?_)
            refine lv_aload_n hx hb dX7_again_69 rfl (lv_at hl 0 rfl) ?_
            refine lv_aload_n hx hb dX7_again_70 rfl (lv_at hl 1 rfl) ?_
            refine lv_bipush (v := (nI 23)) hx hb dX7_again_71 (by decide) ?_
            refine x_iald hC hH.1 4 rfl (by decide) dX7_again_73 ?_
            refine x_put (ws' := [(h0, xO 7 [.int (v_o1 (xat (nI 22))), .ref h2, .ref h3, .int (v_o1 (xat (nI 23))), .int v_depth, .int v_miss, .long v_ring, .int v_size, .int v_people, .ref h1, .int v_seed, .int v_taped, .ref g0, .int v_from, .int v_to, .int v_token, .int v_value, .ref g1, .ref g2, .ref g3, .ref g4, .int v_imaged, .ref g5, .long v_oldRing, .ref g6, .long v_aheadRing, .ref g7]), (h1, xI X 10 s37.2), (h2, xI X 6 s2.2.1), (h3, xI X 6 s2.2.2), (h4, xI X 29 v_o1)]) hC fd_RX7_102 hH 0 rfl (Nat.le_of_ble_eq_true rfl) rfl rfl dX7_again_74 rfl (fun H locs hH => ?_)
            refine lv_aload_n hx hb dX7_again_77 rfl (lv_at hl 0 rfl) ?_
            refine lv_aload_n hx hb dX7_again_78 rfl (lv_at hl 1 rfl) ?_
            refine lv_bipush (v := (nI 24)) hx hb dX7_again_79 (by decide) ?_
            refine x_iald hC hH.1 4 rfl (by decide) dX7_again_81 ?_
            refine x_put (ws' := [(h0, xO 7 [.int (v_o1 (xat (nI 22))), .ref h2, .ref h3, .int (v_o1 (xat (nI 23))), .int (v_o1 (xat (nI 24))), .int v_miss, .long v_ring, .int v_size, .int v_people, .ref h1, .int v_seed, .int v_taped, .ref g0, .int v_from, .int v_to, .int v_token, .int v_value, .ref g1, .ref g2, .ref g3, .ref g4, .int v_imaged, .ref g5, .long v_oldRing, .ref g6, .long v_aheadRing, .ref g7]), (h1, xI X 10 s37.2), (h2, xI X 6 s2.2.1), (h3, xI X 6 s2.2.2), (h4, xI X 29 v_o1)]) hC fd_RX7_45 hH 0 rfl (Nat.le_of_ble_eq_true rfl) rfl rfl dX7_again_82 rfl (fun H locs hH => ?_)
            refine lv_aload_n hx hb dX7_again_85 rfl (lv_at hl 0 rfl) ?_
            refine lv_aload_n hx hb dX7_again_86 rfl (lv_at hl 1 rfl) ?_
            refine lv_bipush (v := (nI 25)) hx hb dX7_again_87 (by decide) ?_
            refine x_iald hC hH.1 4 rfl (by decide) dX7_again_89 ?_
            refine x_put (ws' := [(h0, xO 7 [.int (v_o1 (xat (nI 22))), .ref h2, .ref h3, .int (v_o1 (xat (nI 23))), .int (v_o1 (xat (nI 24))), .int (v_o1 (xat (nI 25))), .long v_ring, .int v_size, .int v_people, .ref h1, .int v_seed, .int v_taped, .ref g0, .int v_from, .int v_to, .int v_token, .int v_value, .ref g1, .ref g2, .ref g3, .ref g4, .int v_imaged, .ref g5, .long v_oldRing, .ref g6, .long v_aheadRing, .ref g7]), (h1, xI X 10 s37.2), (h2, xI X 6 s2.2.1), (h3, xI X 6 s2.2.2), (h4, xI X 29 v_o1)]) hC fd_RX7_105 hH 0 rfl (Nat.le_of_ble_eq_true rfl) rfl rfl dX7_again_90 rfl (fun H locs hH => ?_)
            refine lv_aload_n hx hb dX7_again_93 rfl (lv_at hl 0 rfl) ?_
            refine lv_aload_n hx hb dX7_again_94 rfl (lv_at hl 1 rfl) ?_
            refine lv_bipush (v := (nI 26)) hx hb dX7_again_95 (by decide) ?_
            refine x_iald hC hH.1 4 rfl (by decide) dX7_again_97 ?_
            refine x_put (ws' := [(h0, xO 7 [.int (v_o1 (xat (nI 22))), .ref h2, .ref h3, .int (v_o1 (xat (nI 23))), .int (v_o1 (xat (nI 24))), .int (v_o1 (xat (nI 25))), .long v_ring, .int (v_o1 (xat (nI 26))), .int v_people, .ref h1, .int v_seed, .int v_taped, .ref g0, .int v_from, .int v_to, .int v_token, .int v_value, .ref g1, .ref g2, .ref g3, .ref g4, .int v_imaged, .ref g5, .long v_oldRing, .ref g6, .long v_aheadRing, .ref g7]), (h1, xI X 10 s37.2), (h2, xI X 6 s2.2.1), (h3, xI X 6 s2.2.2), (h4, xI X 29 v_o1)]) hC fd_RX7_62 hH 0 rfl (Nat.le_of_ble_eq_true rfl) rfl rfl dX7_again_98 rfl (fun H locs hH => ?_)
            refine lv_aload_n hx hb dX7_again_101 rfl (lv_at hl 0 rfl) ?_
            refine lv_aload_n hx hb dX7_again_102 rfl (lv_at hl 1 rfl) ?_
            refine lv_bipush (v := (nI 27)) hx hb dX7_again_103 (by decide) ?_
            refine x_iald hC hH.1 4 rfl (by decide) dX7_again_105 ?_
            refine x_put (ws' := [(h0, xO 7 [.int (v_o1 (xat (nI 22))), .ref h2, .ref h3, .int (v_o1 (xat (nI 23))), .int (v_o1 (xat (nI 24))), .int (v_o1 (xat (nI 25))), .long v_ring, .int (v_o1 (xat (nI 26))), .int (v_o1 (xat (nI 27))), .ref h1, .int v_seed, .int v_taped, .ref g0, .int v_from, .int v_to, .int v_token, .int v_value, .ref g1, .ref g2, .ref g3, .ref g4, .int v_imaged, .ref g5, .long v_oldRing, .ref g6, .long v_aheadRing, .ref g7]), (h1, xI X 10 s37.2), (h2, xI X 6 s2.2.1), (h3, xI X 6 s2.2.2), (h4, xI X 29 v_o1)]) hC fd_RX7_59 hH 0 rfl (Nat.le_of_ble_eq_true rfl) rfl rfl dX7_again_106 rfl (fun H locs hH => ?_)
            refine lv_aload_n hx hb dX7_again_109 rfl (lv_at hl 0 rfl) ?_
            refine lv_aload_n hx hb dX7_again_110 rfl (lv_at hl 1 rfl) ?_
            refine lv_bipush (v := (nI 28)) hx hb dX7_again_111 (by decide) ?_
            refine x_iald hC hH.1 4 rfl (by decide) dX7_again_113 ?_
            refine x_put (ws' := [(h0, xO 7 [.int (v_o1 (xat (nI 22))), .ref h2, .ref h3, .int (v_o1 (xat (nI 23))), .int (v_o1 (xat (nI 24))), .int (v_o1 (xat (nI 25))), .long v_ring, .int (v_o1 (xat (nI 26))), .int (v_o1 (xat (nI 27))), .ref h1, .int (v_o1 (xat (nI 28))), .int v_taped, .ref g0, .int v_from, .int v_to, .int v_token, .int v_value, .ref g1, .ref g2, .ref g3, .ref g4, .int v_imaged, .ref g5, .long v_oldRing, .ref g6, .long v_aheadRing, .ref g7]), (h1, xI X 10 s37.2), (h2, xI X 6 s2.2.1), (h3, xI X 6 s2.2.2), (h4, xI X 29 v_o1)]) hC fd_RX7_49 hH 0 rfl (Nat.le_of_ble_eq_true rfl) rfl rfl dX7_again_114 rfl (fun H locs hH => ?_)
            have hf := xo_ret hf ho37
            have hf := xo_ret hf ho2
            exact x_retvw (φ := fun _ => True) (wf := fun u : Int32 × Int32 × Int32 × Int32 × Int32 × Int32 × Int32 × (Nat → Int32) × (Nat → Int32) × (Nat → Int32) => [(h0, xO 7 [.int u.1, .ref h2, .ref h3, .int u.2.1, .int u.2.2.1, .int u.2.2.2.1, .long v_ring, .int u.2.2.2.2.1, .int u.2.2.2.2.2.1, .ref h1, .int u.2.2.2.2.2.2.1, .int v_taped, .ref g0, .int v_from, .int v_to, .int v_token, .int v_value, .ref g1, .ref g2, .ref g3, .ref g4, .int v_imaged, .ref g5, .long v_oldRing, .ref g6, .long v_aheadRing, .ref g7]), (h1, xI X 10 u.2.2.2.2.2.2.2.1), (h2, xI X 6 u.2.2.2.2.2.2.2.2.1), (h3, xI X 6 u.2.2.2.2.2.2.2.2.2), (h4, xI X 29 v_o1)]) hC hr hlk trivial hf hH rfl dX7_again_117
          · have hf := xe c2 hf
            refine lv_aload_n hx hb dX7_again_43 rfl (lv_at hl 0 rfl) ?_
            refine x_get hC fd_RX7_16 hH.1 0 rfl rfl dX7_again_44 ?_
            refine lv_iload_n hx hb dX7_again_47 rfl (lv_at hl 2 rfl) ?_
            refine lv_aload_n hx hb dX7_again_48 rfl (lv_at hl 1 rfl) ?_
            refine lv_bipush (v := (nI 12)) hx hb dX7_again_49 (by decide) ?_
            refine lv_iload_n hx hb dX7_again_51 rfl (lv_at hl 2 rfl) ?_
            refine lv_iadd hx hb dX7_again_52 ?_
            obtain ⟨n10, hf⟩ := xok hf
            refine x_iald hC hH.1 4 rfl n10 dX7_again_53 ?_
            obtain ⟨n11, hf⟩ := xok hf
            refine x_iast (ws' := [(h0, xO 7 [.int v_laws, .ref h2, .ref h3, .int v_inForce, .int v_depth, .int v_miss, .long v_ring, .int v_size, .int v_people, .ref h1, .int v_seed, .int v_taped, .ref g0, .int v_from, .int v_to, .int v_token, .int v_value, .ref g1, .ref g2, .ref g3, .ref g4, .int v_imaged, .ref g5, .long v_oldRing, .ref g6, .long v_aheadRing, .ref g7]), (h1, xI X 10 (upd s37.2 (xat s37.1) (v_o1 (xat ((nI 12) + s37.1))))), (h2, xI X 6 s2.2.1), (h3, xI X 6 s2.2.2), (h4, xI X 29 v_o1)]) hC hH 1 rfl n11 dX7_again_54 rfl (fun H locs hH => ?_)
            refine lv_iinc (v := s37.1 + (nI 1)) (lv' := [(2, .int (s37.1 + (nI 1))), (0, .ref h0), (1, .ref h4)]) hx hb dX7_again_55 hl (k := 2) rfl rfl (by decide) rfl (fun ls hl => ?_)
            refine lv_goto (tgt := 37) hx hb dX7_again_58 (by decide) ?_
            have hf := xo_go hf ho37
            exact ih37 (s37.1 + (nI 1), upd s37.2 (xat s37.1) (v_o1 (xat ((nI 12) + s37.1)))) hf _ _ hH ls (lv_sub hl [1, 2, 0] rfl)
      refine lv_iload_n hx hb dX7_again_2 rfl (lv_at hl 2 rfl) ?_
      refine lv_bipush (v := (nI 6)) hx hb dX7_again_3 (by decide) ?_
      refine lv_icmp_ge (tgt := 35) hx hb dX7_again_5 (by decide) (fun c1 => ?_) (fun c1 => ?_)
      · have hf := xt c1 hf
        refine lv_iconst (v := (nI 0)) hx hb dX7_again_35 (by decide) ?_
        refine lv_istore_n (lv' := [(2, .int (nI 0)), (0, .ref h0), (1, .ref h4)]) hx hb dX7_again_36 rfl hl (by decide) rfl (fun ls hl => ?_)
        exact L37 xN ((nI 0), v_ages) hf _ _ hH ls (lv_sub hl [1, 2, 0] rfl)
      · have hf := xe c1 hf
        refine lv_aload_n hx hb dX7_again_8 rfl (lv_at hl 0 rfl) ?_
        refine x_get hC fd_RX7_7 hH.1 0 rfl rfl dX7_again_9 ?_
        refine lv_iload_n hx hb dX7_again_12 rfl (lv_at hl 2 rfl) ?_
        refine lv_aload_n hx hb dX7_again_13 rfl (lv_at hl 1 rfl) ?_
        refine lv_iload_n hx hb dX7_again_14 rfl (lv_at hl 2 rfl) ?_
        obtain ⟨n12, hf⟩ := xok hf
        refine x_iald hC hH.1 4 rfl n12 dX7_again_15 ?_
        obtain ⟨n13, hf⟩ := xok hf
        refine x_iast (ws' := [(h0, xO 7 [.int v_laws, .ref h2, .ref h3, .int v_inForce, .int v_depth, .int v_miss, .long v_ring, .int v_size, .int v_people, .ref h1, .int v_seed, .int v_taped, .ref g0, .int v_from, .int v_to, .int v_token, .int v_value, .ref g1, .ref g2, .ref g3, .ref g4, .int v_imaged, .ref g5, .long v_oldRing, .ref g6, .long v_aheadRing, .ref g7]), (h1, xI X 10 v_ages), (h2, xI X 6 (upd s2.2.1 (xat s2.1) (v_o1 (xat s2.1)))), (h3, xI X 6 s2.2.2), (h4, xI X 29 v_o1)]) hC hH 2 rfl n13 dX7_again_16 rfl (fun H locs hH => ?_)
        refine lv_aload_n hx hb dX7_again_17 rfl (lv_at hl 0 rfl) ?_
        refine x_get hC fd_RX7_13 hH.1 0 rfl rfl dX7_again_18 ?_
        refine lv_iload_n hx hb dX7_again_21 rfl (lv_at hl 2 rfl) ?_
        refine lv_aload_n hx hb dX7_again_22 rfl (lv_at hl 1 rfl) ?_
        refine lv_bipush (v := (nI 6)) hx hb dX7_again_23 (by decide) ?_
        refine lv_iload_n hx hb dX7_again_25 rfl (lv_at hl 2 rfl) ?_
        refine lv_iadd hx hb dX7_again_26 ?_
        obtain ⟨n14, hf⟩ := xok hf
        refine x_iald hC hH.1 4 rfl n14 dX7_again_27 ?_
        obtain ⟨n15, hf⟩ := xok hf
        refine x_iast (ws' := [(h0, xO 7 [.int v_laws, .ref h2, .ref h3, .int v_inForce, .int v_depth, .int v_miss, .long v_ring, .int v_size, .int v_people, .ref h1, .int v_seed, .int v_taped, .ref g0, .int v_from, .int v_to, .int v_token, .int v_value, .ref g1, .ref g2, .ref g3, .ref g4, .int v_imaged, .ref g5, .long v_oldRing, .ref g6, .long v_aheadRing, .ref g7]), (h1, xI X 10 v_ages), (h2, xI X 6 (upd s2.2.1 (xat s2.1) (v_o1 (xat s2.1)))), (h3, xI X 6 (upd s2.2.2 (xat s2.1) (v_o1 (xat ((nI 6) + s2.1))))), (h4, xI X 29 v_o1)]) hC hH 3 rfl n15 dX7_again_28 rfl (fun H locs hH => ?_)
        refine lv_iinc (v := s2.1 + (nI 1)) (lv' := [(2, .int (s2.1 + (nI 1))), (0, .ref h0), (1, .ref h4)]) hx hb dX7_again_29 hl (k := 2) rfl rfl (by decide) rfl (fun ls hl => ?_)
        refine lv_goto (tgt := 2) hx hb dX7_again_32 (by decide) ?_
        have hf := xo_go hf ho2
        exact ih2 (s2.1 + (nI 1), upd s2.2.1 (xat s2.1) (v_o1 (xat s2.1)), upd s2.2.2 (xat s2.1) (v_o1 (xat ((nI 6) + s2.1)))) hf _ _ hH ls (lv_sub hl [1, 2, 0] rfl)
  refine lv_iconst (v := (nI 0)) hx hb dX7_again_0 (by decide) ?_
  refine lv_istore_n (lv' := [(2, .int (nI 0)), (0, .ref h0), (1, .ref h4)]) hx hb dX7_again_1 rfl hl (by decide) rfl (fun ls hl => ?_)
  exact L2 xN ((nI 0), v_kind, v_own) hf _ _ hH ls (lv_sub hl [1, 2, 0] rfl)
def f_X7_lake_L25 (v_seed : Int32) (v_taped : Int32) (v_refusals : (Nat → Int32)) (v_tape : (Nat → Int32)) (x25_v_aheadRing : Int64) (x25_v_ahead : (Nat → Int32)) (s25 : Int32 × Int32 × Int32 × Int32 × Int32 × Int32 × Int64 × Int32 × Int32 × Int32 × Int32 × Int32 × Int32 × (Nat → Int32) × (Nat → Int32) × (Nat → Int32)) : Option ((Int32 × Int32 × Int32 × Int32 × Int32 × Int64 × Int32 × Int32 × Int32 × Int32 × Int32 × Int32 × Int32 × Int32 × Int64 × (Nat → Int32) × (Nat → Int32) × (Nat → Int32) × (Nat → Int32) × (Nat → Int32)) ⊕ (Int32 × Int32 × Int32 × Int32 × Int32 × Int32 × Int64 × Int32 × Int32 × Int32 × Int32 × Int32 × Int32 × (Nat → Int32) × (Nat → Int32) × (Nat → Int32))) :=
  if s25.2.1 = (nI 0) then
    (f_X7_again s25.2.2.1 s25.2.2.2.1 s25.2.2.2.2.1 s25.2.2.2.2.2.1 s25.2.2.2.2.2.2.2.1 s25.2.2.2.2.2.2.2.2.1 v_seed s25.2.2.2.2.2.2.2.2.2.2.2.2.2.1 s25.2.2.2.2.2.2.2.2.2.2.2.2.2.2.1 s25.2.2.2.2.2.2.2.2.2.2.2.2.2.2.2 x25_v_ahead).bind fun u3 =>
    (f_X7_no v_refusals (-2 : Int32)).bind fun u4 =>
    some (.inl ((-20 : Int32) - s25.2.2.2.2.2.2.2.2.2.1, u3.1, u3.2.1, u3.2.2.1, u3.2.2.2.1, x25_v_aheadRing, u3.2.2.2.2.1, u3.2.2.2.2.2.1, u3.2.2.2.2.2.2.1, (nI 0), s25.2.2.2.2.2.2.2.2.2.1, s25.2.2.2.2.2.2.2.2.2.2.1, s25.2.2.2.2.2.2.2.2.2.2.2.1, s25.2.2.2.2.2.2.2.2.2.2.2.2.1, x25_v_aheadRing, u3.2.2.2.2.2.2.2.1, x25_v_ahead, u3.2.2.2.2.2.2.2.2.1, u3.2.2.2.2.2.2.2.2.2, u4.2))
  else
  (f_X7_next v_taped s25.2.2.2.2.2.2.2.2.2.1 s25.2.2.2.2.2.2.2.2.2.2.1 s25.2.2.2.2.2.2.2.2.2.2.2.1 s25.2.2.2.2.2.2.2.2.2.2.2.2.1 v_tape).bind fun u5 =>
  (f_X7_statement s25.2.2.1 s25.2.2.2.1 s25.2.2.2.2.1 s25.2.2.2.2.2.1 s25.2.2.2.2.2.2.1 s25.2.2.2.2.2.2.2.1 s25.2.2.2.2.2.2.2.2.1 v_taped u5.1 u5.2.1 u5.2.2.1 u5.2.2.2 s25.2.2.2.2.2.2.2.2.2.2.2.2.2.1 s25.2.2.2.2.2.2.2.2.2.2.2.2.2.2.1 s25.2.2.2.2.2.2.2.2.2.2.2.2.2.2.2 v_tape).bind fun u6 =>
  if u6.1 = (nI 0) then
    some (.inr (s25.1, u6.1, u6.2.1, u6.2.2.1, u6.2.2.2.1, u6.2.2.2.2.1, u6.2.2.2.2.2.1, u6.2.2.2.2.2.2.1, u6.2.2.2.2.2.2.2.1, u6.2.2.2.2.2.2.2.2.1, u6.2.2.2.2.2.2.2.2.2.1, u6.2.2.2.2.2.2.2.2.2.2.1, u6.2.2.2.2.2.2.2.2.2.2.2.1, u6.2.2.2.2.2.2.2.2.2.2.2.2.1, u6.2.2.2.2.2.2.2.2.2.2.2.2.2.1, u6.2.2.2.2.2.2.2.2.2.2.2.2.2.2))
  else
  (f_X7_next v_taped u6.2.2.2.2.2.2.2.2.1 u6.2.2.2.2.2.2.2.2.2.1 u6.2.2.2.2.2.2.2.2.2.2.1 u6.2.2.2.2.2.2.2.2.2.2.2.1 v_tape).bind fun u8 =>
  if u8.2.2.1 = (nI 101) then
    some (.inl (s25.1 + (nI 1), u6.2.1, u6.2.2.1, u6.2.2.2.1, u6.2.2.2.2.1, u6.2.2.2.2.2.1, u6.2.2.2.2.2.2.1, u6.2.2.2.2.2.2.2.1, v_seed, (nI 0), u8.1, u8.2.1, u8.2.2.1, u8.2.2.2, x25_v_aheadRing, u6.2.2.2.2.2.2.2.2.2.2.2.2.1, x25_v_ahead, u6.2.2.2.2.2.2.2.2.2.2.2.2.2.1, u6.2.2.2.2.2.2.2.2.2.2.2.2.2.2, v_refusals))
  else
  if u8.2.2.1 = (nI 59) then
    some (.inr (s25.1 + (nI 1), (nI 1), u6.2.1, u6.2.2.1, u6.2.2.2.1, u6.2.2.2.2.1, u6.2.2.2.2.2.1, u6.2.2.2.2.2.2.1, u6.2.2.2.2.2.2.2.1, u8.1, u8.2.1, u8.2.2.1, u8.2.2.2, u6.2.2.2.2.2.2.2.2.2.2.2.2.1, u6.2.2.2.2.2.2.2.2.2.2.2.2.2.1, u6.2.2.2.2.2.2.2.2.2.2.2.2.2.2))
  else
  some (.inr (s25.1 + (nI 1), (nI 0), u6.2.1, u6.2.2.1, u6.2.2.2.1, u6.2.2.2.2.1, u6.2.2.2.2.2.1, u6.2.2.2.2.2.2.1, u6.2.2.2.2.2.2.2.1, u8.1, u8.2.1, u8.2.2.1, u8.2.2.2, u6.2.2.2.2.2.2.2.2.2.2.2.2.1, u6.2.2.2.2.2.2.2.2.2.2.2.2.2.1, u6.2.2.2.2.2.2.2.2.2.2.2.2.2.2))
def f_X7_lake (v_laws : Int32) (v_inForce : Int32) (v_depth : Int32) (v_miss : Int32) (v_ring : Int64) (v_size : Int32) (v_people : Int32) (v_seed : Int32) (v_taped : Int32) (v_from : Int32) (v_to : Int32) (v_token : Int32) (v_value : Int32) (v_aheadRing : Int64) (v_ages : (Nat → Int32)) (v_ahead : (Nat → Int32)) (v_kind : (Nat → Int32)) (v_own : (Nat → Int32)) (v_refusals : (Nat → Int32)) (v_tape : (Nat → Int32)) : Option (Int32 × Int32 × Int32 × Int32 × Int32 × Int64 × Int32 × Int32 × Int32 × Int32 × Int32 × Int32 × Int32 × Int32 × Int64 × (Nat → Int32) × (Nat → Int32) × (Nat → Int32) × (Nat → Int32) × (Nat → Int32)) :=
  (f_X7_keep v_laws v_inForce v_depth v_miss v_size v_people v_seed v_ages v_kind v_own v_ahead).bind fun u1 =>
  xloop (f_X7_lake_L25 v_seed v_taped v_refusals v_tape v_ring u1) xN ((nI 0), (nI 1), v_laws, v_inForce, v_depth, v_miss, v_ring, v_size, v_people, v_from, (nI 0), v_token, v_value, v_ages, v_kind, v_own)
set_option maxHeartbeats 4000000 in
set_option maxRecDepth 100000 in
theorem c_X7_lake {l : Launch} {X : xG} {h0 h1 h2 h3 h4 h5 h6 g0 g1 g2 g3 g4 : Nat} {v_laws : Int32} {v_inForce : Int32} {v_depth : Int32} {v_miss : Int32} {v_ring : Int64} {v_size : Int32} {v_people : Int32} {v_seed : Int32} {v_taped : Int32} {v_from : Int32} {v_to : Int32} {v_token : Int32} {v_value : Int32} {v_imaged : Int32} {v_oldRing : Int64} {v_aheadRing : Int64} {v_ages : (Nat → Int32)} {v_ahead : (Nat → Int32)} {v_kind : (Nat → Int32)} {v_own : (Nat → Int32)} {v_refusals : (Nat → Int32)} {v_tape : (Nat → Int32)} {u : Int32 × Int32 × Int32 × Int32 × Int32 × Int64 × Int32 × Int32 × Int32 × Int32 × Int32 × Int32 × Int32 × Int32 × Int64 × (Nat → Int32) × (Nat → Int32) × (Nat → Int32) × (Nat → Int32) × (Nat → Int32)} (hf : f_X7_lake v_laws v_inForce v_depth v_miss v_ring v_size v_people v_seed v_taped v_from v_to v_token v_value v_aheadRing v_ages v_ahead v_kind v_own v_refusals v_tape = some u) : Met l yX7_lake (xw yX7_lake cX7_lake 3 (some .int)) (xrm 6 129) (xPc [.ref h0] X [(h0, xO 7 [.int v_laws, .ref h3, .ref h4, .int v_inForce, .int v_depth, .int v_miss, .long v_ring, .int v_size, .int v_people, .ref h1, .int v_seed, .int v_taped, .ref h6, .int v_from, .int v_to, .int v_token, .int v_value, .ref g0, .ref g1, .ref g2, .ref h5, .int v_imaged, .ref g3, .long v_oldRing, .ref h2, .long v_aheadRing, .ref g4]), (h1, xI X 10 v_ages), (h2, xI X 29 v_ahead), (h3, xI X 6 v_kind), (h4, xI X 6 v_own), (h5, xI X 7 v_refusals), (h6, xI X 250 v_tape)]) (xQw True (.returned (some (.int u.1))) X [(h0, xO 7 [.int u.2.1, .ref h3, .ref h4, .int u.2.2.1, .int u.2.2.2.1, .int u.2.2.2.2.1, .long u.2.2.2.2.2.1, .int u.2.2.2.2.2.2.1, .int u.2.2.2.2.2.2.2.1, .ref h1, .int u.2.2.2.2.2.2.2.2.1, .int u.2.2.2.2.2.2.2.2.2.1, .ref h6, .int u.2.2.2.2.2.2.2.2.2.2.1, .int u.2.2.2.2.2.2.2.2.2.2.2.1, .int u.2.2.2.2.2.2.2.2.2.2.2.2.1, .int u.2.2.2.2.2.2.2.2.2.2.2.2.2.1, .ref g0, .ref g1, .ref g2, .ref h5, .int v_imaged, .ref g3, .long v_oldRing, .ref h2, .long u.2.2.2.2.2.2.2.2.2.2.2.2.2.2.1, .ref g4]), (h1, xI X 10 u.2.2.2.2.2.2.2.2.2.2.2.2.2.2.2.1), (h2, xI X 29 u.2.2.2.2.2.2.2.2.2.2.2.2.2.2.2.2.1), (h3, xI X 6 u.2.2.2.2.2.2.2.2.2.2.2.2.2.2.2.2.2.1), (h4, xI X 6 u.2.2.2.2.2.2.2.2.2.2.2.2.2.2.2.2.2.2.1), (h5, xI X 7 u.2.2.2.2.2.2.2.2.2.2.2.2.2.2.2.2.2.2.2), (h6, xI X 250 v_tape)] (xAs [(h0, xO 7 [.int v_laws, .ref h3, .ref h4, .int v_inForce, .int v_depth, .int v_miss, .long v_ring, .int v_size, .int v_people, .ref h1, .int v_seed, .int v_taped, .ref h6, .int v_from, .int v_to, .int v_token, .int v_value, .ref g0, .ref g1, .ref g2, .ref h5, .int v_imaged, .ref g3, .long v_oldRing, .ref h2, .long v_aheadRing, .ref g4]), (h1, xI X 10 v_ages), (h2, xI X 29 v_ahead), (h3, xI X 6 v_kind), (h4, xI X 6 v_own), (h5, xI X 7 v_refusals), (h6, xI X 250 v_tape)])) 0 0 (xAs [(h0, xO 7 [.int v_laws, .ref h3, .ref h4, .int v_inForce, .int v_depth, .int v_miss, .long v_ring, .int v_size, .int v_people, .ref h1, .int v_seed, .int v_taped, .ref h6, .int v_from, .int v_to, .int v_token, .int v_value, .ref g0, .ref g1, .ref g2, .ref h5, .int v_imaged, .ref g3, .long v_oldRing, .ref h2, .long v_aheadRing, .ref g4]), (h1, xI X 10 v_ages), (h2, xI X 29 v_ahead), (h3, xI X 6 v_kind), (h4, xI X 6 v_own), (h5, xI X 7 v_refusals), (h6, xI X 250 v_tape)]) := by
  refine xMetw (Qc := fun A => xQw True (.returned (some (.int u.1))) X [(h0, xO 7 [.int u.2.1, .ref h3, .ref h4, .int u.2.2.1, .int u.2.2.2.1, .int u.2.2.2.2.1, .long u.2.2.2.2.2.1, .int u.2.2.2.2.2.2.1, .int u.2.2.2.2.2.2.2.1, .ref h1, .int u.2.2.2.2.2.2.2.2.1, .int u.2.2.2.2.2.2.2.2.2.1, .ref h6, .int u.2.2.2.2.2.2.2.2.2.2.1, .int u.2.2.2.2.2.2.2.2.2.2.2.1, .int u.2.2.2.2.2.2.2.2.2.2.2.2.1, .int u.2.2.2.2.2.2.2.2.2.2.2.2.2.1, .ref g0, .ref g1, .ref g2, .ref h5, .int v_imaged, .ref g3, .long v_oldRing, .ref h2, .long u.2.2.2.2.2.2.2.2.2.2.2.2.2.2.1, .ref g4]), (h1, xI X 10 u.2.2.2.2.2.2.2.2.2.2.2.2.2.2.2.1), (h2, xI X 29 u.2.2.2.2.2.2.2.2.2.2.2.2.2.2.2.2.1), (h3, xI X 6 u.2.2.2.2.2.2.2.2.2.2.2.2.2.2.2.2.2.1), (h4, xI X 6 u.2.2.2.2.2.2.2.2.2.2.2.2.2.2.2.2.2.2.1), (h5, xI X 7 u.2.2.2.2.2.2.2.2.2.2.2.2.2.2.2.2.2.2.2), (h6, xI X 250 v_tape)] A) (n := 0) md_X7_lake.1 (Nat.le_of_ble_eq_true rfl) ?_
  intro p e s m args below meth c ls A hC hr hlk hH hl
  have hl : lv_has ls 3 [(0, .ref h0)] := hl
  have hx := hC.1
  have hb := hC.2.1
  have L25 : ∀ (x25_v_aheadRing : Int64) (x25_v_ahead : (Nat → Int32)) (n : Nat) (s25 : Int32 × Int32 × Int32 × Int32 × Int32 × Int32 × Int64 × Int32 × Int32 × Int32 × Int32 × Int32 × Int32 × (Nat → Int32) × (Nat → Int32) × (Nat → Int32)), xloop (f_X7_lake_L25 v_seed v_taped v_refusals v_tape x25_v_aheadRing x25_v_ahead) n s25 = some u → ∀ (H : Heap) (locs : List Loc), xH X A [(h0, xO 7 [.int s25.2.2.1, .ref h3, .ref h4, .int s25.2.2.2.1, .int s25.2.2.2.2.1, .int s25.2.2.2.2.2.1, .long s25.2.2.2.2.2.2.1, .int s25.2.2.2.2.2.2.2.1, .int s25.2.2.2.2.2.2.2.2.1, .ref h1, .int v_seed, .int v_taped, .ref h6, .int s25.2.2.2.2.2.2.2.2.2.1, .int s25.2.2.2.2.2.2.2.2.2.2.1, .int s25.2.2.2.2.2.2.2.2.2.2.2.1, .int s25.2.2.2.2.2.2.2.2.2.2.2.2.1, .ref g0, .ref g1, .ref g2, .ref h5, .int v_imaged, .ref g3, .long v_oldRing, .ref h2, .long x25_v_aheadRing, .ref g4]), (h1, xI X 10 s25.2.2.2.2.2.2.2.2.2.2.2.2.2.1), (h2, xI X 29 x25_v_ahead), (h3, xI X 6 s25.2.2.2.2.2.2.2.2.2.2.2.2.2.2.1), (h4, xI X 6 s25.2.2.2.2.2.2.2.2.2.2.2.2.2.2.2), (h5, xI X 7 v_refusals), (h6, xI X 250 v_tape)] s.heap H locs → ∀ (ls : Array Slot), lv_has ls 3 [(0, .ref h0), (1, .int s25.1), (2, .int s25.2.1)] → W p l e (xrm 6 129) s m args below meth c H locs 0 0 (MQ below (xQw True (.returned (some (.int u.1))) X [(h0, xO 7 [.int u.2.1, .ref h3, .ref h4, .int u.2.2.1, .int u.2.2.2.1, .int u.2.2.2.2.1, .long u.2.2.2.2.2.1, .int u.2.2.2.2.2.2.1, .int u.2.2.2.2.2.2.2.1, .ref h1, .int u.2.2.2.2.2.2.2.2.1, .int u.2.2.2.2.2.2.2.2.2.1, .ref h6, .int u.2.2.2.2.2.2.2.2.2.2.1, .int u.2.2.2.2.2.2.2.2.2.2.2.1, .int u.2.2.2.2.2.2.2.2.2.2.2.2.1, .int u.2.2.2.2.2.2.2.2.2.2.2.2.2.1, .ref g0, .ref g1, .ref g2, .ref h5, .int v_imaged, .ref g3, .long v_oldRing, .ref h2, .long u.2.2.2.2.2.2.2.2.2.2.2.2.2.2.1, .ref g4]), (h1, xI X 10 u.2.2.2.2.2.2.2.2.2.2.2.2.2.2.2.1), (h2, xI X 29 u.2.2.2.2.2.2.2.2.2.2.2.2.2.2.2.2.1), (h3, xI X 6 u.2.2.2.2.2.2.2.2.2.2.2.2.2.2.2.2.2.1), (h4, xI X 6 u.2.2.2.2.2.2.2.2.2.2.2.2.2.2.2.2.2.2.1), (h5, xI X 7 u.2.2.2.2.2.2.2.2.2.2.2.2.2.2.2.2.2.2.2), (h6, xI X 250 v_tape)] A) args s 0 0 A) (F0 m 25 ls []) := by
    intro x25_v_aheadRing x25_v_ahead n
    induction n with
    | zero => intro s25 hf; exact xloop_0 hf
    | succ n ih25 =>
      intro s25 hf H locs hH ls hl
      obtain ⟨o25, hf, ho25⟩ := xloop_s hf
      refine lv_iload_n hx hb dX7_lake_25 rfl (lv_at hl 2 rfl) ?_
      refine lv_if_eq (tgt := 86) hx hb dX7_lake_26 (by decide) (fun c2 => ?_) (fun c2 => ?_)
      · have hf := xt c2 hf
        refine lv_aload_n hx hb dX7_lake_86 rfl (lv_at hl 0 rfl) ?_
        refine lv_aload_n hx hb dX7_lake_87 rfl (lv_at hl 0 rfl) ?_
        refine x_get hC fd_RX7_38 hH.1 0 rfl rfl dX7_lake_88 ?_
        obtain ⟨u3, hf3, hf⟩ := xb hf
        refine x_ranw (ws' := [(h0, xO 7 [.int u3.1, .ref h3, .ref h4, .int u3.2.1, .int u3.2.2.1, .int u3.2.2.2.1, .long s25.2.2.2.2.2.2.1, .int u3.2.2.2.2.1, .int u3.2.2.2.2.2.1, .ref h1, .int u3.2.2.2.2.2.2.1, .int v_taped, .ref h6, .int s25.2.2.2.2.2.2.2.2.2.1, .int s25.2.2.2.2.2.2.2.2.2.2.1, .int s25.2.2.2.2.2.2.2.2.2.2.2.1, .int s25.2.2.2.2.2.2.2.2.2.2.2.2.1, .ref g0, .ref g1, .ref g2, .ref h5, .int v_imaged, .ref g3, .long v_oldRing, .ref h2, .long x25_v_aheadRing, .ref g4]), (h1, xI X 10 u3.2.2.2.2.2.2.2.1), (h2, xI X 29 x25_v_ahead), (h3, xI X 6 u3.2.2.2.2.2.2.2.2.1), (h4, xI X 6 u3.2.2.2.2.2.2.2.2.2), (h5, xI X 7 v_refusals), (h6, xI X 250 v_tape)]) (x_runV (q0 := 0) (rest := []) (As := [.ref h2]) hC mw_640 md_X7_again (c_X7_again (X := X) hf3) hH [0, 1, 3, 4, 2] rfl (by decide) rfl rfl rfl hl.1 rfl rfl (Nat.le_of_ble_eq_true rfl) dX7_lake_91 ⟨Nat.le_of_ble_eq_true rfl, Nat.le_of_ble_eq_true rfl⟩ ⟨rfl, rfl⟩ ⟨Nat.le_refl _, Nat.le_refl _⟩) hH [0, 1, 3, 4, 2] rfl rfl rfl rfl rfl (fun hz3 H locs hH => ?_)
        refine lv_aload_n hx hb dX7_lake_94 rfl (lv_at hl 0 rfl) ?_
        refine lv_aload_n hx hb dX7_lake_95 rfl (lv_at hl 0 rfl) ?_
        refine x_get hC fd_RX7_175 hH.1 0 rfl rfl dX7_lake_96 ?_
        refine x_put (ws' := [(h0, xO 7 [.int u3.1, .ref h3, .ref h4, .int u3.2.1, .int u3.2.2.1, .int u3.2.2.2.1, .long x25_v_aheadRing, .int u3.2.2.2.2.1, .int u3.2.2.2.2.2.1, .ref h1, .int u3.2.2.2.2.2.2.1, .int v_taped, .ref h6, .int s25.2.2.2.2.2.2.2.2.2.1, .int s25.2.2.2.2.2.2.2.2.2.2.1, .int s25.2.2.2.2.2.2.2.2.2.2.2.1, .int s25.2.2.2.2.2.2.2.2.2.2.2.2.1, .ref g0, .ref g1, .ref g2, .ref h5, .int v_imaged, .ref g3, .long v_oldRing, .ref h2, .long x25_v_aheadRing, .ref g4]), (h1, xI X 10 u3.2.2.2.2.2.2.2.1), (h2, xI X 29 x25_v_ahead), (h3, xI X 6 u3.2.2.2.2.2.2.2.2.1), (h4, xI X 6 u3.2.2.2.2.2.2.2.2.2), (h5, xI X 7 v_refusals), (h6, xI X 250 v_tape)]) hC fd_RX7_90 hH 0 rfl (Nat.le_of_ble_eq_true rfl) rfl rfl dX7_lake_99 rfl (fun H locs hH => ?_)
        refine lv_aload_n hx hb dX7_lake_102 rfl (lv_at hl 0 rfl) ?_
        refine lv_iconst (v := (nI 0)) hx hb dX7_lake_103 (by decide) ?_
        refine x_put (ws' := [(h0, xO 7 [.int u3.1, .ref h3, .ref h4, .int u3.2.1, .int u3.2.2.1, .int u3.2.2.2.1, .long x25_v_aheadRing, .int u3.2.2.2.2.1, .int u3.2.2.2.2.2.1, .ref h1, .int u3.2.2.2.2.2.2.1, .int (nI 0), .ref h6, .int s25.2.2.2.2.2.2.2.2.2.1, .int s25.2.2.2.2.2.2.2.2.2.2.1, .int s25.2.2.2.2.2.2.2.2.2.2.2.1, .int s25.2.2.2.2.2.2.2.2.2.2.2.2.1, .ref g0, .ref g1, .ref g2, .ref h5, .int v_imaged, .ref g3, .long v_oldRing, .ref h2, .long x25_v_aheadRing, .ref g4]), (h1, xI X 10 u3.2.2.2.2.2.2.2.1), (h2, xI X 29 x25_v_ahead), (h3, xI X 6 u3.2.2.2.2.2.2.2.2.1), (h4, xI X 6 u3.2.2.2.2.2.2.2.2.2), (h5, xI X 7 v_refusals), (h6, xI X 250 v_tape)]) hC fd_RX7_111 hH 0 rfl (Nat.le_of_ble_eq_true rfl) rfl rfl dX7_lake_104 rfl (fun H locs hH => ?_)
        refine lv_aload_n hx hb dX7_lake_107 rfl (lv_at hl 0 rfl) ?_
        refine lv_bipush (v := (-2 : Int32)) hx hb dX7_lake_108 (by decide) ?_
        obtain ⟨u4, hf4, hf⟩ := xb hf
        refine x_ranw (ws' := [(h0, xO 7 [.int u3.1, .ref h3, .ref h4, .int u3.2.1, .int u3.2.2.1, .int u3.2.2.2.1, .long x25_v_aheadRing, .int u3.2.2.2.2.1, .int u3.2.2.2.2.2.1, .ref h1, .int u3.2.2.2.2.2.2.1, .int (nI 0), .ref h6, .int s25.2.2.2.2.2.2.2.2.2.1, .int s25.2.2.2.2.2.2.2.2.2.2.1, .int s25.2.2.2.2.2.2.2.2.2.2.2.1, .int s25.2.2.2.2.2.2.2.2.2.2.2.2.1, .ref g0, .ref g1, .ref g2, .ref h5, .int v_imaged, .ref g3, .long v_oldRing, .ref h2, .long x25_v_aheadRing, .ref g4]), (h1, xI X 10 u3.2.2.2.2.2.2.2.1), (h2, xI X 29 x25_v_ahead), (h3, xI X 6 u3.2.2.2.2.2.2.2.2.1), (h4, xI X 6 u3.2.2.2.2.2.2.2.2.2), (h5, xI X 7 u4.2), (h6, xI X 250 v_tape)]) (x_runV (q0 := 0) (rest := []) (As := [.int (-2 : Int32)]) hC mw_143 md_X7_no (c_X7_no (X := X) hf4) hH [0, 5] rfl (by decide) rfl rfl rfl hl.1 rfl rfl (Nat.le_of_ble_eq_true rfl) dX7_lake_110 ⟨Nat.le_of_ble_eq_true rfl, Nat.le_of_ble_eq_true rfl⟩ ⟨rfl, rfl⟩ ⟨Nat.le_refl _, Nat.le_refl _⟩) hH [0, 5] rfl rfl rfl rfl rfl (fun hz4 H locs hH => ?_)
        refine lv_pop hx hb dX7_lake_113 rfl ?_
        refine lv_bipush (v := (-20 : Int32)) hx hb dX7_lake_114 (by decide) ?_
        refine lv_aload_n hx hb dX7_lake_116 rfl (lv_at hl 0 rfl) ?_
        refine x_get hC fd_RX7_117 hH.1 0 rfl rfl dX7_lake_117 ?_
        refine lv_isub hx hb dX7_lake_120 ?_
        have hf := xo_ret hf ho25
        exact x_retiw (φ := fun _ => True) (f := fun u : Int32 × Int32 × Int32 × Int32 × Int32 × Int64 × Int32 × Int32 × Int32 × Int32 × Int32 × Int32 × Int32 × Int32 × Int64 × (Nat → Int32) × (Nat → Int32) × (Nat → Int32) × (Nat → Int32) × (Nat → Int32) => u.1) (wf := fun u : Int32 × Int32 × Int32 × Int32 × Int32 × Int64 × Int32 × Int32 × Int32 × Int32 × Int32 × Int32 × Int32 × Int32 × Int64 × (Nat → Int32) × (Nat → Int32) × (Nat → Int32) × (Nat → Int32) × (Nat → Int32) => [(h0, xO 7 [.int u.2.1, .ref h3, .ref h4, .int u.2.2.1, .int u.2.2.2.1, .int u.2.2.2.2.1, .long u.2.2.2.2.2.1, .int u.2.2.2.2.2.2.1, .int u.2.2.2.2.2.2.2.1, .ref h1, .int u.2.2.2.2.2.2.2.2.1, .int u.2.2.2.2.2.2.2.2.2.1, .ref h6, .int u.2.2.2.2.2.2.2.2.2.2.1, .int u.2.2.2.2.2.2.2.2.2.2.2.1, .int u.2.2.2.2.2.2.2.2.2.2.2.2.1, .int u.2.2.2.2.2.2.2.2.2.2.2.2.2.1, .ref g0, .ref g1, .ref g2, .ref h5, .int v_imaged, .ref g3, .long v_oldRing, .ref h2, .long u.2.2.2.2.2.2.2.2.2.2.2.2.2.2.1, .ref g4]), (h1, xI X 10 u.2.2.2.2.2.2.2.2.2.2.2.2.2.2.2.1), (h2, xI X 29 u.2.2.2.2.2.2.2.2.2.2.2.2.2.2.2.2.1), (h3, xI X 6 u.2.2.2.2.2.2.2.2.2.2.2.2.2.2.2.2.2.1), (h4, xI X 6 u.2.2.2.2.2.2.2.2.2.2.2.2.2.2.2.2.2.2.1), (h5, xI X 7 u.2.2.2.2.2.2.2.2.2.2.2.2.2.2.2.2.2.2.2), (h6, xI X 250 v_tape)]) hC hr hlk trivial hf hH rfl rfl dX7_lake_121
      · have hf := xe c2 hf
        refine lv_aload_n hx hb dX7_lake_29 rfl (lv_at hl 0 rfl) ?_
        obtain ⟨u5, hf5, hf⟩ := xb hf
        refine x_ranw (ws' := [(h0, xO 7 [.int s25.2.2.1, .ref h3, .ref h4, .int s25.2.2.2.1, .int s25.2.2.2.2.1, .int s25.2.2.2.2.2.1, .long s25.2.2.2.2.2.2.1, .int s25.2.2.2.2.2.2.2.1, .int s25.2.2.2.2.2.2.2.2.1, .ref h1, .int v_seed, .int v_taped, .ref h6, .int u5.1, .int u5.2.1, .int u5.2.2.1, .int u5.2.2.2, .ref g0, .ref g1, .ref g2, .ref h5, .int v_imaged, .ref g3, .long v_oldRing, .ref h2, .long x25_v_aheadRing, .ref g4]), (h1, xI X 10 s25.2.2.2.2.2.2.2.2.2.2.2.2.2.1), (h2, xI X 29 x25_v_ahead), (h3, xI X 6 s25.2.2.2.2.2.2.2.2.2.2.2.2.2.2.1), (h4, xI X 6 s25.2.2.2.2.2.2.2.2.2.2.2.2.2.2.2), (h5, xI X 7 v_refusals), (h6, xI X 250 v_tape)]) (x_runV (q0 := 0) (rest := []) (As := []) hC mw_607 md_X7_next (c_X7_next (X := X) hf5) hH [0, 6] rfl (by decide) rfl rfl rfl hl.1 rfl rfl (Nat.le_of_ble_eq_true rfl) dX7_lake_30 ⟨Nat.le_of_ble_eq_true rfl, Nat.le_of_ble_eq_true rfl⟩ ⟨rfl, rfl⟩ ⟨Nat.le_refl _, Nat.le_refl _⟩) hH [0, 6] rfl rfl rfl rfl rfl (fun hz5 H locs hH => ?_)
        refine lv_aload_n hx hb dX7_lake_33 rfl (lv_at hl 0 rfl) ?_
        obtain ⟨u6, hf6, hf⟩ := xb hf
        refine x_ranw (ws' := [(h0, xO 7 [.int u6.2.1, .ref h3, .ref h4, .int u6.2.2.1, .int u6.2.2.2.1, .int u6.2.2.2.2.1, .long u6.2.2.2.2.2.1, .int u6.2.2.2.2.2.2.1, .int u6.2.2.2.2.2.2.2.1, .ref h1, .int v_seed, .int v_taped, .ref h6, .int u6.2.2.2.2.2.2.2.2.1, .int u6.2.2.2.2.2.2.2.2.2.1, .int u6.2.2.2.2.2.2.2.2.2.2.1, .int u6.2.2.2.2.2.2.2.2.2.2.2.1, .ref g0, .ref g1, .ref g2, .ref h5, .int v_imaged, .ref g3, .long v_oldRing, .ref h2, .long x25_v_aheadRing, .ref g4]), (h1, xI X 10 u6.2.2.2.2.2.2.2.2.2.2.2.2.1), (h2, xI X 29 x25_v_ahead), (h3, xI X 6 u6.2.2.2.2.2.2.2.2.2.2.2.2.2.1), (h4, xI X 6 u6.2.2.2.2.2.2.2.2.2.2.2.2.2.2), (h5, xI X 7 v_refusals), (h6, xI X 250 v_tape)]) (x_runV (q0 := 0) (rest := []) (As := []) hC mw_618 md_X7_statement (c_X7_statement (X := X) hf6) hH [0, 1, 3, 4, 6] rfl (by decide) rfl rfl rfl hl.1 rfl rfl (Nat.le_of_ble_eq_true rfl) dX7_lake_34 ⟨Nat.le_of_ble_eq_true rfl, Nat.le_of_ble_eq_true rfl⟩ ⟨rfl, rfl⟩ ⟨Nat.le_refl _, Nat.le_refl _⟩) hH [0, 1, 3, 4, 6] rfl rfl rfl rfl rfl (fun hz6 H locs hH => ?_)
        refine lv_istore_n (lv' := [(2, .int u6.1), (0, .ref h0), (1, .int s25.1)]) hx hb dX7_lake_37 rfl hl (by decide) rfl (fun ls hl => ?_)
        refine lv_iload_n hx hb dX7_lake_38 rfl (lv_at hl 0 rfl) ?_
        refine lv_if_ne (tgt := 45) hx hb dX7_lake_39 (by decide) (fun c7 => ?_) (fun c7 => ?_)
        · have hf := xe c7 hf
          refine lv_iinc (v := s25.1 + (nI 1)) (lv' := [(1, .int (s25.1 + (nI 1))), (2, .int u6.1), (0, .ref h0)]) hx hb dX7_lake_45 hl (k := 2) rfl rfl (by decide) rfl (fun ls hl => ?_)
          refine lv_aload_n hx hb dX7_lake_48 rfl (lv_at hl 2 rfl) ?_
          obtain ⟨u8, hf8, hf⟩ := xb hf
          refine x_ranw (ws' := [(h0, xO 7 [.int u6.2.1, .ref h3, .ref h4, .int u6.2.2.1, .int u6.2.2.2.1, .int u6.2.2.2.2.1, .long u6.2.2.2.2.2.1, .int u6.2.2.2.2.2.2.1, .int u6.2.2.2.2.2.2.2.1, .ref h1, .int v_seed, .int v_taped, .ref h6, .int u8.1, .int u8.2.1, .int u8.2.2.1, .int u8.2.2.2, .ref g0, .ref g1, .ref g2, .ref h5, .int v_imaged, .ref g3, .long v_oldRing, .ref h2, .long x25_v_aheadRing, .ref g4]), (h1, xI X 10 u6.2.2.2.2.2.2.2.2.2.2.2.2.1), (h2, xI X 29 x25_v_ahead), (h3, xI X 6 u6.2.2.2.2.2.2.2.2.2.2.2.2.2.1), (h4, xI X 6 u6.2.2.2.2.2.2.2.2.2.2.2.2.2.2), (h5, xI X 7 v_refusals), (h6, xI X 250 v_tape)]) (x_runV (q0 := 0) (rest := []) (As := []) hC mw_607 md_X7_next (c_X7_next (X := X) hf8) hH [0, 6] rfl (by decide) rfl rfl rfl hl.1 rfl rfl (Nat.le_of_ble_eq_true rfl) dX7_lake_49 ⟨Nat.le_of_ble_eq_true rfl, Nat.le_of_ble_eq_true rfl⟩ ⟨rfl, rfl⟩ ⟨Nat.le_refl _, Nat.le_refl _⟩) hH [0, 6] rfl rfl rfl rfl rfl (fun hz8 H locs hH => ?_)
          refine lv_aload_n hx hb dX7_lake_52 rfl (lv_at hl 2 rfl) ?_
          refine x_get hC fd_RX7_120 hH.1 0 rfl rfl dX7_lake_53 ?_
          refine lv_bipush (v := (nI 101)) hx hb dX7_lake_56 (by decide) ?_
          refine lv_icmp_ne (tgt := 68) hx hb dX7_lake_58 (by decide) (fun c9 => ?_) (fun c9 => ?_)
          · have hf := xe c9 hf
            refine lv_aload_n hx hb dX7_lake_68 rfl (lv_at hl 2 rfl) ?_
            refine x_get hC fd_RX7_120 hH.1 0 rfl rfl dX7_lake_69 ?_
            refine lv_bipush (v := (nI 59)) hx hb dX7_lake_72 (by decide) ?_
            refine lv_icmp_ne (tgt := 81) hx hb dX7_lake_74 (by decide) (fun c10 => ?_) (fun c10 => ?_)
            · have hf := xe c10 hf
              refine lv_iconst (v := (nI 0)) hx hb dX7_lake_81 (by decide) ?_
              refine lv_istore_n (lv' := [(2, .int (nI 0)), (1, .int (s25.1 + (nI 1))), (0, .ref h0)]) hx hb dX7_lake_82 rfl hl (by decide) rfl (fun ls hl => ?_)
              refine lv_goto (tgt := 25) hx hb dX7_lake_83 (by decide) ?_
              have hf := xo_go hf ho25
              exact ih25 (s25.1 + (nI 1), (nI 0), u6.2.1, u6.2.2.1, u6.2.2.2.1, u6.2.2.2.2.1, u6.2.2.2.2.2.1, u6.2.2.2.2.2.2.1, u6.2.2.2.2.2.2.2.1, u8.1, u8.2.1, u8.2.2.1, u8.2.2.2, u6.2.2.2.2.2.2.2.2.2.2.2.2.1, u6.2.2.2.2.2.2.2.2.2.2.2.2.2.1, u6.2.2.2.2.2.2.2.2.2.2.2.2.2.2) hf _ _ hH ls (lv_sub hl [2, 1, 0] rfl)
            · have hf := xt c10 hf
              refine lv_iconst (v := (nI 1)) hx hb dX7_lake_77 (by decide) ?_
              refine lv_goto (tgt := 82) hx hb dX7_lake_78 (by decide) ?_
              refine lv_istore_n (lv' := [(2, .int (nI 1)), (1, .int (s25.1 + (nI 1))), (0, .ref h0)]) hx hb dX7_lake_82 rfl hl (by decide) rfl (fun ls hl => ?_)
              refine lv_goto (tgt := 25) hx hb dX7_lake_83 (by decide) ?_
              have hf := xo_go hf ho25
              exact ih25 (s25.1 + (nI 1), (nI 1), u6.2.1, u6.2.2.1, u6.2.2.2.1, u6.2.2.2.2.1, u6.2.2.2.2.2.1, u6.2.2.2.2.2.2.1, u6.2.2.2.2.2.2.2.1, u8.1, u8.2.1, u8.2.2.1, u8.2.2.2, u6.2.2.2.2.2.2.2.2.2.2.2.2.1, u6.2.2.2.2.2.2.2.2.2.2.2.2.2.1, u6.2.2.2.2.2.2.2.2.2.2.2.2.2.2) hf _ _ hH ls (lv_sub hl [2, 1, 0] rfl)
          · have hf := xt c9 hf
            refine lv_aload_n hx hb dX7_lake_61 rfl (lv_at hl 2 rfl) ?_
            refine lv_iconst (v := (nI 0)) hx hb dX7_lake_62 (by decide) ?_
            refine x_put (ws' := [(h0, xO 7 [.int u6.2.1, .ref h3, .ref h4, .int u6.2.2.1, .int u6.2.2.2.1, .int u6.2.2.2.2.1, .long u6.2.2.2.2.2.1, .int u6.2.2.2.2.2.2.1, .int u6.2.2.2.2.2.2.2.1, .ref h1, .int v_seed, .int (nI 0), .ref h6, .int u8.1, .int u8.2.1, .int u8.2.2.1, .int u8.2.2.2, .ref g0, .ref g1, .ref g2, .ref h5, .int v_imaged, .ref g3, .long v_oldRing, .ref h2, .long x25_v_aheadRing, .ref g4]), (h1, xI X 10 u6.2.2.2.2.2.2.2.2.2.2.2.2.1), (h2, xI X 29 x25_v_ahead), (h3, xI X 6 u6.2.2.2.2.2.2.2.2.2.2.2.2.2.1), (h4, xI X 6 u6.2.2.2.2.2.2.2.2.2.2.2.2.2.2), (h5, xI X 7 v_refusals), (h6, xI X 250 v_tape)]) hC fd_RX7_111 hH 0 rfl (Nat.le_of_ble_eq_true rfl) rfl rfl dX7_lake_63 rfl (fun H locs hH => ?_)
            refine lv_iload_n hx hb dX7_lake_66 rfl (lv_at hl 0 rfl) ?_
            have hf := xo_ret hf ho25
            exact x_retiw (φ := fun _ => True) (f := fun u : Int32 × Int32 × Int32 × Int32 × Int32 × Int64 × Int32 × Int32 × Int32 × Int32 × Int32 × Int32 × Int32 × Int32 × Int64 × (Nat → Int32) × (Nat → Int32) × (Nat → Int32) × (Nat → Int32) × (Nat → Int32) => u.1) (wf := fun u : Int32 × Int32 × Int32 × Int32 × Int32 × Int64 × Int32 × Int32 × Int32 × Int32 × Int32 × Int32 × Int32 × Int32 × Int64 × (Nat → Int32) × (Nat → Int32) × (Nat → Int32) × (Nat → Int32) × (Nat → Int32) => [(h0, xO 7 [.int u.2.1, .ref h3, .ref h4, .int u.2.2.1, .int u.2.2.2.1, .int u.2.2.2.2.1, .long u.2.2.2.2.2.1, .int u.2.2.2.2.2.2.1, .int u.2.2.2.2.2.2.2.1, .ref h1, .int u.2.2.2.2.2.2.2.2.1, .int u.2.2.2.2.2.2.2.2.2.1, .ref h6, .int u.2.2.2.2.2.2.2.2.2.2.1, .int u.2.2.2.2.2.2.2.2.2.2.2.1, .int u.2.2.2.2.2.2.2.2.2.2.2.2.1, .int u.2.2.2.2.2.2.2.2.2.2.2.2.2.1, .ref g0, .ref g1, .ref g2, .ref h5, .int v_imaged, .ref g3, .long v_oldRing, .ref h2, .long u.2.2.2.2.2.2.2.2.2.2.2.2.2.2.1, .ref g4]), (h1, xI X 10 u.2.2.2.2.2.2.2.2.2.2.2.2.2.2.2.1), (h2, xI X 29 u.2.2.2.2.2.2.2.2.2.2.2.2.2.2.2.2.1), (h3, xI X 6 u.2.2.2.2.2.2.2.2.2.2.2.2.2.2.2.2.2.1), (h4, xI X 6 u.2.2.2.2.2.2.2.2.2.2.2.2.2.2.2.2.2.2.1), (h5, xI X 7 u.2.2.2.2.2.2.2.2.2.2.2.2.2.2.2.2.2.2.2), (h6, xI X 250 v_tape)]) hC hr hlk trivial hf hH rfl rfl dX7_lake_67
        · have hf := xt c7 hf
          refine lv_goto (tgt := 25) hx hb dX7_lake_42 (by decide) ?_
          have hf := xo_go hf ho25
          exact ih25 (s25.1, u6.1, u6.2.1, u6.2.2.1, u6.2.2.2.1, u6.2.2.2.2.1, u6.2.2.2.2.2.1, u6.2.2.2.2.2.2.1, u6.2.2.2.2.2.2.2.1, u6.2.2.2.2.2.2.2.2.1, u6.2.2.2.2.2.2.2.2.2.1, u6.2.2.2.2.2.2.2.2.2.2.1, u6.2.2.2.2.2.2.2.2.2.2.2.1, u6.2.2.2.2.2.2.2.2.2.2.2.2.1, u6.2.2.2.2.2.2.2.2.2.2.2.2.2.1, u6.2.2.2.2.2.2.2.2.2.2.2.2.2.2) hf _ _ hH ls (lv_sub hl [1, 2, 0] rfl)
  refine lv_aload_n hx hb dX7_lake_0 rfl (lv_at hl 0 rfl) ?_
  refine lv_aload_n hx hb dX7_lake_1 rfl (lv_at hl 0 rfl) ?_
  refine x_get hC fd_RX7_38 hH.1 0 rfl rfl dX7_lake_2 ?_
  obtain ⟨u1, hf1, hf⟩ := xb hf
  refine x_ranw (ws' := [(h0, xO 7 [.int v_laws, .ref h3, .ref h4, .int v_inForce, .int v_depth, .int v_miss, .long v_ring, .int v_size, .int v_people, .ref h1, .int v_seed, .int v_taped, .ref h6, .int v_from, .int v_to, .int v_token, .int v_value, .ref g0, .ref g1, .ref g2, .ref h5, .int v_imaged, .ref g3, .long v_oldRing, .ref h2, .long v_aheadRing, .ref g4]), (h1, xI X 10 v_ages), (h2, xI X 29 u1), (h3, xI X 6 v_kind), (h4, xI X 6 v_own), (h5, xI X 7 v_refusals), (h6, xI X 250 v_tape)]) (x_runV (q0 := 0) (rest := []) (As := [.ref h2]) hC mw_603 md_X7_keep (c_X7_keep (X := X) hf1) hH [0, 1, 3, 4, 2] rfl (by decide) rfl rfl rfl hl.1 rfl rfl (Nat.le_of_ble_eq_true rfl) dX7_lake_5 ⟨Nat.le_of_ble_eq_true rfl, Nat.le_of_ble_eq_true rfl⟩ ⟨rfl, rfl⟩ ⟨Nat.le_refl _, Nat.le_refl _⟩) hH [0, 1, 3, 4, 2] rfl rfl rfl rfl rfl (fun hz1 H locs hH => ?_)
  refine lv_aload_n hx hb dX7_lake_8 rfl (lv_at hl 0 rfl) ?_
  refine lv_aload_n hx hb dX7_lake_9 rfl (lv_at hl 0 rfl) ?_
  refine x_get hC fd_RX7_90 hH.1 0 rfl rfl dX7_lake_10 ?_
  refine x_put (ws' := [(h0, xO 7 [.int v_laws, .ref h3, .ref h4, .int v_inForce, .int v_depth, .int v_miss, .long v_ring, .int v_size, .int v_people, .ref h1, .int v_seed, .int v_taped, .ref h6, .int v_from, .int v_to, .int v_token, .int v_value, .ref g0, .ref g1, .ref g2, .ref h5, .int v_imaged, .ref g3, .long v_oldRing, .ref h2, .long v_ring, .ref g4]), (h1, xI X 10 v_ages), (h2, xI X 29 u1), (h3, xI X 6 v_kind), (h4, xI X 6 v_own), (h5, xI X 7 v_refusals), (h6, xI X 250 v_tape)]) hC fd_RX7_175 hH 0 rfl (Nat.le_of_ble_eq_true rfl) rfl rfl dX7_lake_13 rfl (fun H locs hH => ?_)
  refine lv_aload_n hx hb dX7_lake_16 rfl (lv_at hl 0 rfl) ?_
  refine lv_iconst (v := (nI 0)) hx hb dX7_lake_17 (by decide) ?_
  refine x_put (ws' := [(h0, xO 7 [.int v_laws, .ref h3, .ref h4, .int v_inForce, .int v_depth, .int v_miss, .long v_ring, .int v_size, .int v_people, .ref h1, .int v_seed, .int v_taped, .ref h6, .int v_from, .int (nI 0), .int v_token, .int v_value, .ref g0, .ref g1, .ref g2, .ref h5, .int v_imaged, .ref g3, .long v_oldRing, .ref h2, .long v_ring, .ref g4]), (h1, xI X 10 v_ages), (h2, xI X 29 u1), (h3, xI X 6 v_kind), (h4, xI X 6 v_own), (h5, xI X 7 v_refusals), (h6, xI X 250 v_tape)]) hC fd_RX7_114 hH 0 rfl (Nat.le_of_ble_eq_true rfl) rfl rfl dX7_lake_18 rfl (fun H locs hH => ?_)
  refine lv_iconst (v := (nI 0)) hx hb dX7_lake_21 (by decide) ?_
  refine lv_istore_n (lv' := [(1, .int (nI 0)), (0, .ref h0)]) hx hb dX7_lake_22 rfl hl (by decide) rfl (fun ls hl => ?_)
  refine lv_iconst (v := (nI 1)) hx hb dX7_lake_23 (by decide) ?_
  refine lv_istore_n (lv' := [(2, .int (nI 1)), (1, .int (nI 0)), (0, .ref h0)]) hx hb dX7_lake_24 rfl hl (by decide) rfl (fun ls hl => ?_)
  exact L25 v_ring u1 xN ((nI 0), (nI 1), v_laws, v_inForce, v_depth, v_miss, v_ring, v_size, v_people, v_from, (nI 0), v_token, v_value, v_ages, v_kind, v_own) hf _ _ hH ls (lv_sub hl [2, 1, 0] rfl)
def f_X7_lawOf (v_laws : Int32) (v_kind : (Nat → Int32)) (v_own : (Nat → Int32)) (v_refusals : (Nat → Int32)) (p1 : Int32) (p2 : Int32) : Option (Int32 × (Nat → Int32)) :=
  (f_X7_isLaw v_laws p1).bind fun u1 =>
  if u1 = (nI 0) then
    (f_X7_no v_refusals (-2 : Int32)).bind fun u3 =>
    some (u3.1, u3.2)
  else
  (f_X7_within p2 (nI 0) (nI 1)).bind fun u4 =>
  if u4 = (nI 0) then
    (f_X7_no v_refusals (-2 : Int32)).bind fun u9 =>
    some (u9.1, u9.2)
  else
  if p2 = (nI 0) then
    if xout p1 6 then none else
    some (v_kind (xat p1), v_refusals)
  else
  if xout p1 6 then none else
  some (v_own (xat p1), v_refusals)
set_option maxHeartbeats 4000000 in
set_option maxRecDepth 100000 in
theorem c_X7_lawOf {l : Launch} {X : xG} {h0 h1 h2 h3 g0 g1 g2 g3 g4 g5 g6 g7 : Nat} {v_laws : Int32} {v_inForce : Int32} {v_depth : Int32} {v_miss : Int32} {v_ring : Int64} {v_size : Int32} {v_people : Int32} {v_seed : Int32} {v_taped : Int32} {v_from : Int32} {v_to : Int32} {v_token : Int32} {v_value : Int32} {v_imaged : Int32} {v_oldRing : Int64} {v_aheadRing : Int64} {v_kind : (Nat → Int32)} {v_own : (Nat → Int32)} {v_refusals : (Nat → Int32)} {p1 : Int32} {p2 : Int32} {u : Int32 × (Nat → Int32)} (hf : f_X7_lawOf v_laws v_kind v_own v_refusals p1 p2 = some u) : Met l yX7_lawOf (xw yX7_lawOf cX7_lawOf 3 (some .int)) (xrm 2 43) (xPc [.ref h0, .int p1, .int p2] X [(h0, xO 7 [.int v_laws, .ref h1, .ref h2, .int v_inForce, .int v_depth, .int v_miss, .long v_ring, .int v_size, .int v_people, .ref g0, .int v_seed, .int v_taped, .ref g1, .int v_from, .int v_to, .int v_token, .int v_value, .ref g2, .ref g3, .ref g4, .ref h3, .int v_imaged, .ref g5, .long v_oldRing, .ref g6, .long v_aheadRing, .ref g7]), (h1, xI X 6 v_kind), (h2, xI X 6 v_own), (h3, xI X 7 v_refusals)]) (xQw True (.returned (some (.int u.1))) X [(h0, xO 7 [.int v_laws, .ref h1, .ref h2, .int v_inForce, .int v_depth, .int v_miss, .long v_ring, .int v_size, .int v_people, .ref g0, .int v_seed, .int v_taped, .ref g1, .int v_from, .int v_to, .int v_token, .int v_value, .ref g2, .ref g3, .ref g4, .ref h3, .int v_imaged, .ref g5, .long v_oldRing, .ref g6, .long v_aheadRing, .ref g7]), (h1, xI X 6 v_kind), (h2, xI X 6 v_own), (h3, xI X 7 u.2)] (xAs [(h0, xO 7 [.int v_laws, .ref h1, .ref h2, .int v_inForce, .int v_depth, .int v_miss, .long v_ring, .int v_size, .int v_people, .ref g0, .int v_seed, .int v_taped, .ref g1, .int v_from, .int v_to, .int v_token, .int v_value, .ref g2, .ref g3, .ref g4, .ref h3, .int v_imaged, .ref g5, .long v_oldRing, .ref g6, .long v_aheadRing, .ref g7]), (h1, xI X 6 v_kind), (h2, xI X 6 v_own), (h3, xI X 7 v_refusals)])) 0 0 (xAs [(h0, xO 7 [.int v_laws, .ref h1, .ref h2, .int v_inForce, .int v_depth, .int v_miss, .long v_ring, .int v_size, .int v_people, .ref g0, .int v_seed, .int v_taped, .ref g1, .int v_from, .int v_to, .int v_token, .int v_value, .ref g2, .ref g3, .ref g4, .ref h3, .int v_imaged, .ref g5, .long v_oldRing, .ref g6, .long v_aheadRing, .ref g7]), (h1, xI X 6 v_kind), (h2, xI X 6 v_own), (h3, xI X 7 v_refusals)]) := by
  refine xMetw (Qc := fun A => xQw True (.returned (some (.int u.1))) X [(h0, xO 7 [.int v_laws, .ref h1, .ref h2, .int v_inForce, .int v_depth, .int v_miss, .long v_ring, .int v_size, .int v_people, .ref g0, .int v_seed, .int v_taped, .ref g1, .int v_from, .int v_to, .int v_token, .int v_value, .ref g2, .ref g3, .ref g4, .ref h3, .int v_imaged, .ref g5, .long v_oldRing, .ref g6, .long v_aheadRing, .ref g7]), (h1, xI X 6 v_kind), (h2, xI X 6 v_own), (h3, xI X 7 u.2)] A) (n := 2) md_X7_lawOf.1 (Nat.le_of_ble_eq_true rfl) ?_
  intro p e s m args below meth c ls A hC hr hlk hH hl
  have hl : lv_has ls 3 [(0, .ref h0), (1, .int p1), (2, .int p2)] := hl
  have hx := hC.1
  have hb := hC.2.1
  refine lv_aload_n hx hb dX7_lawOf_0 rfl (lv_at hl 0 rfl) ?_
  refine lv_iload_n hx hb dX7_lawOf_1 rfl (lv_at hl 1 rfl) ?_
  obtain ⟨u1, hf1, hf⟩ := xb hf
  refine x_ran (x_runV (q0 := 0) (rest := []) (As := [.int p1]) hC mw_243 md_X7_isLaw (c_X7_isLaw (X := X) hf1) hH [0] rfl (by decide) rfl rfl rfl hl.1 rfl rfl (Nat.le_of_ble_eq_true rfl) dX7_lawOf_2 ⟨Nat.le_of_ble_eq_true rfl, Nat.le_of_ble_eq_true rfl⟩ ⟨rfl, rfl⟩ ⟨Nat.le_refl _, Nat.le_refl _⟩) rfl (fun hz1 => ?_)
  refine lv_if_eq (tgt := 17) hx hb dX7_lawOf_5 (by decide) (fun c2 => ?_) (fun c2 => ?_)
  · have hf := xt c2 hf
    refine lv_aload_n hx hb dX7_lawOf_17 rfl (lv_at hl 0 rfl) ?_
    refine lv_bipush (v := (-2 : Int32)) hx hb dX7_lawOf_18 (by decide) ?_
    obtain ⟨u3, hf3, hf⟩ := xb hf
    refine x_ranw (ws' := [(h0, xO 7 [.int v_laws, .ref h1, .ref h2, .int v_inForce, .int v_depth, .int v_miss, .long v_ring, .int v_size, .int v_people, .ref g0, .int v_seed, .int v_taped, .ref g1, .int v_from, .int v_to, .int v_token, .int v_value, .ref g2, .ref g3, .ref g4, .ref h3, .int v_imaged, .ref g5, .long v_oldRing, .ref g6, .long v_aheadRing, .ref g7]), (h1, xI X 6 v_kind), (h2, xI X 6 v_own), (h3, xI X 7 u3.2)]) (x_runV (q0 := 0) (rest := []) (As := [.int (-2 : Int32)]) hC mw_143 md_X7_no (c_X7_no (X := X) hf3) hH [0, 3] rfl (by decide) rfl rfl rfl hl.1 rfl rfl (Nat.le_of_ble_eq_true rfl) dX7_lawOf_20 ⟨Nat.le_of_ble_eq_true rfl, Nat.le_of_ble_eq_true rfl⟩ ⟨rfl, rfl⟩ ⟨Nat.le_refl _, Nat.le_refl _⟩) hH [0, 3] rfl rfl rfl rfl rfl (fun hz3 H locs hH => ?_)
    exact x_retiw (φ := fun _ => True) (f := fun u : Int32 × (Nat → Int32) => u.1) (wf := fun u : Int32 × (Nat → Int32) => [(h0, xO 7 [.int v_laws, .ref h1, .ref h2, .int v_inForce, .int v_depth, .int v_miss, .long v_ring, .int v_size, .int v_people, .ref g0, .int v_seed, .int v_taped, .ref g1, .int v_from, .int v_to, .int v_token, .int v_value, .ref g2, .ref g3, .ref g4, .ref h3, .int v_imaged, .ref g5, .long v_oldRing, .ref g6, .long v_aheadRing, .ref g7]), (h1, xI X 6 v_kind), (h2, xI X 6 v_own), (h3, xI X 7 u.2)]) hC hr hlk trivial hf hH rfl rfl dX7_lawOf_23
  · have hf := xe c2 hf
    refine lv_iload_n hx hb dX7_lawOf_8 rfl (lv_at hl 2 rfl) ?_
    refine lv_iconst (v := (nI 0)) hx hb dX7_lawOf_9 (by decide) ?_
    refine lv_iconst (v := (nI 1)) hx hb dX7_lawOf_10 (by decide) ?_
    obtain ⟨u4, hf4, hf⟩ := xb hf
    refine x_ran (x_runS (rest := []) (As := [.int p2, .int (nI 0), .int (nI 1)]) hC mw_140 md_X7_within (c_X7_within (X := X) hf4) hH [] rfl (by decide) hl.1 rfl rfl (Nat.le_of_ble_eq_true rfl) dX7_lawOf_11 ⟨Nat.le_of_ble_eq_true rfl, Nat.le_of_ble_eq_true rfl⟩ ⟨rfl, rfl⟩ ⟨Nat.le_refl _, Nat.le_refl _⟩) rfl (fun hz4 => ?_)
    refine lv_if_ne (tgt := 24) hx hb dX7_lawOf_14 (by decide) (fun c5 => ?_) (fun c5 => ?_)
    · have hf := xe c5 hf
      refine lv_iload_n hx hb dX7_lawOf_24 rfl (lv_at hl 2 rfl) ?_
      refine lv_if_ne (tgt := 37) hx hb dX7_lawOf_25 (by decide) (fun c6 => ?_) (fun c6 => ?_)
      · have hf := xe c6 hf
        refine lv_aload_n hx hb dX7_lawOf_37 rfl (lv_at hl 0 rfl) ?_
        refine x_get hC fd_RX7_13 hH.1 0 rfl rfl dX7_lawOf_38 ?_
        refine lv_iload_n hx hb dX7_lawOf_41 rfl (lv_at hl 1 rfl) ?_
        obtain ⟨n7, hf⟩ := xok hf
        refine x_iald hC hH.1 2 rfl n7 dX7_lawOf_42 ?_
        exact x_retiw (φ := fun _ => True) (f := fun u : Int32 × (Nat → Int32) => u.1) (wf := fun u : Int32 × (Nat → Int32) => [(h0, xO 7 [.int v_laws, .ref h1, .ref h2, .int v_inForce, .int v_depth, .int v_miss, .long v_ring, .int v_size, .int v_people, .ref g0, .int v_seed, .int v_taped, .ref g1, .int v_from, .int v_to, .int v_token, .int v_value, .ref g2, .ref g3, .ref g4, .ref h3, .int v_imaged, .ref g5, .long v_oldRing, .ref g6, .long v_aheadRing, .ref g7]), (h1, xI X 6 v_kind), (h2, xI X 6 v_own), (h3, xI X 7 u.2)]) hC hr hlk trivial hf hH rfl rfl dX7_lawOf_43
      · have hf := xt c6 hf
        refine lv_aload_n hx hb dX7_lawOf_28 rfl (lv_at hl 0 rfl) ?_
        refine x_get hC fd_RX7_7 hH.1 0 rfl rfl dX7_lawOf_29 ?_
        refine lv_iload_n hx hb dX7_lawOf_32 rfl (lv_at hl 1 rfl) ?_
        obtain ⟨n8, hf⟩ := xok hf
        refine x_iald hC hH.1 1 rfl n8 dX7_lawOf_33 ?_
        refine lv_goto (tgt := 43) hx hb dX7_lawOf_34 (by decide) ?_
        exact x_retiw (φ := fun _ => True) (f := fun u : Int32 × (Nat → Int32) => u.1) (wf := fun u : Int32 × (Nat → Int32) => [(h0, xO 7 [.int v_laws, .ref h1, .ref h2, .int v_inForce, .int v_depth, .int v_miss, .long v_ring, .int v_size, .int v_people, .ref g0, .int v_seed, .int v_taped, .ref g1, .int v_from, .int v_to, .int v_token, .int v_value, .ref g2, .ref g3, .ref g4, .ref h3, .int v_imaged, .ref g5, .long v_oldRing, .ref g6, .long v_aheadRing, .ref g7]), (h1, xI X 6 v_kind), (h2, xI X 6 v_own), (h3, xI X 7 u.2)]) hC hr hlk trivial hf hH rfl rfl dX7_lawOf_43
    · have hf := xt c5 hf
      refine lv_aload_n hx hb dX7_lawOf_17 rfl (lv_at hl 0 rfl) ?_
      refine lv_bipush (v := (-2 : Int32)) hx hb dX7_lawOf_18 (by decide) ?_
      obtain ⟨u9, hf9, hf⟩ := xb hf
      refine x_ranw (ws' := [(h0, xO 7 [.int v_laws, .ref h1, .ref h2, .int v_inForce, .int v_depth, .int v_miss, .long v_ring, .int v_size, .int v_people, .ref g0, .int v_seed, .int v_taped, .ref g1, .int v_from, .int v_to, .int v_token, .int v_value, .ref g2, .ref g3, .ref g4, .ref h3, .int v_imaged, .ref g5, .long v_oldRing, .ref g6, .long v_aheadRing, .ref g7]), (h1, xI X 6 v_kind), (h2, xI X 6 v_own), (h3, xI X 7 u9.2)]) (x_runV (q0 := 0) (rest := []) (As := [.int (-2 : Int32)]) hC mw_143 md_X7_no (c_X7_no (X := X) hf9) hH [0, 3] rfl (by decide) rfl rfl rfl hl.1 rfl rfl (Nat.le_of_ble_eq_true rfl) dX7_lawOf_20 ⟨Nat.le_of_ble_eq_true rfl, Nat.le_of_ble_eq_true rfl⟩ ⟨rfl, rfl⟩ ⟨Nat.le_refl _, Nat.le_refl _⟩) hH [0, 3] rfl rfl rfl rfl rfl (fun hz9 H locs hH => ?_)
      exact x_retiw (φ := fun _ => True) (f := fun u : Int32 × (Nat → Int32) => u.1) (wf := fun u : Int32 × (Nat → Int32) => [(h0, xO 7 [.int v_laws, .ref h1, .ref h2, .int v_inForce, .int v_depth, .int v_miss, .long v_ring, .int v_size, .int v_people, .ref g0, .int v_seed, .int v_taped, .ref g1, .int v_from, .int v_to, .int v_token, .int v_value, .ref g2, .ref g3, .ref g4, .ref h3, .int v_imaged, .ref g5, .long v_oldRing, .ref g6, .long v_aheadRing, .ref g7]), (h1, xI X 6 v_kind), (h2, xI X 6 v_own), (h3, xI X 7 u.2)]) hC hr hlk trivial hf hH rfl rfl dX7_lawOf_23
def f_X7_age (v_people : Int32) (v_ages : (Nat → Int32)) (v_refusals : (Nat → Int32)) (p1 : Int32) : Option (Int32 × (Nat → Int32)) :=
  (f_X7_isOne v_people p1).bind fun u1 =>
  if u1 = (nI 0) then
    (f_X7_no v_refusals (-2 : Int32)).bind fun u3 =>
    some (u3.1, u3.2)
  else
  if xout p1 10 then none else
  some (v_ages (xat p1), v_refusals)
set_option maxHeartbeats 4000000 in
set_option maxRecDepth 100000 in
theorem c_X7_age {l : Launch} {X : xG} {h0 h1 h2 g0 g1 g2 g3 g4 g5 g6 g7 g8 : Nat} {v_laws : Int32} {v_inForce : Int32} {v_depth : Int32} {v_miss : Int32} {v_ring : Int64} {v_size : Int32} {v_people : Int32} {v_seed : Int32} {v_taped : Int32} {v_from : Int32} {v_to : Int32} {v_token : Int32} {v_value : Int32} {v_imaged : Int32} {v_oldRing : Int64} {v_aheadRing : Int64} {v_ages : (Nat → Int32)} {v_refusals : (Nat → Int32)} {p1 : Int32} {u : Int32 × (Nat → Int32)} (hf : f_X7_age v_people v_ages v_refusals p1 = some u) : Met l yX7_age (xw yX7_age cX7_age 2 (some .int)) (xrm 2 43) (xPc [.ref h0, .int p1] X [(h0, xO 7 [.int v_laws, .ref g0, .ref g1, .int v_inForce, .int v_depth, .int v_miss, .long v_ring, .int v_size, .int v_people, .ref h1, .int v_seed, .int v_taped, .ref g2, .int v_from, .int v_to, .int v_token, .int v_value, .ref g3, .ref g4, .ref g5, .ref h2, .int v_imaged, .ref g6, .long v_oldRing, .ref g7, .long v_aheadRing, .ref g8]), (h1, xI X 10 v_ages), (h2, xI X 7 v_refusals)]) (xQw True (.returned (some (.int u.1))) X [(h0, xO 7 [.int v_laws, .ref g0, .ref g1, .int v_inForce, .int v_depth, .int v_miss, .long v_ring, .int v_size, .int v_people, .ref h1, .int v_seed, .int v_taped, .ref g2, .int v_from, .int v_to, .int v_token, .int v_value, .ref g3, .ref g4, .ref g5, .ref h2, .int v_imaged, .ref g6, .long v_oldRing, .ref g7, .long v_aheadRing, .ref g8]), (h1, xI X 10 v_ages), (h2, xI X 7 u.2)] (xAs [(h0, xO 7 [.int v_laws, .ref g0, .ref g1, .int v_inForce, .int v_depth, .int v_miss, .long v_ring, .int v_size, .int v_people, .ref h1, .int v_seed, .int v_taped, .ref g2, .int v_from, .int v_to, .int v_token, .int v_value, .ref g3, .ref g4, .ref g5, .ref h2, .int v_imaged, .ref g6, .long v_oldRing, .ref g7, .long v_aheadRing, .ref g8]), (h1, xI X 10 v_ages), (h2, xI X 7 v_refusals)])) 0 0 (xAs [(h0, xO 7 [.int v_laws, .ref g0, .ref g1, .int v_inForce, .int v_depth, .int v_miss, .long v_ring, .int v_size, .int v_people, .ref h1, .int v_seed, .int v_taped, .ref g2, .int v_from, .int v_to, .int v_token, .int v_value, .ref g3, .ref g4, .ref g5, .ref h2, .int v_imaged, .ref g6, .long v_oldRing, .ref g7, .long v_aheadRing, .ref g8]), (h1, xI X 10 v_ages), (h2, xI X 7 v_refusals)]) := by
  refine xMetw (Qc := fun A => xQw True (.returned (some (.int u.1))) X [(h0, xO 7 [.int v_laws, .ref g0, .ref g1, .int v_inForce, .int v_depth, .int v_miss, .long v_ring, .int v_size, .int v_people, .ref h1, .int v_seed, .int v_taped, .ref g2, .int v_from, .int v_to, .int v_token, .int v_value, .ref g3, .ref g4, .ref g5, .ref h2, .int v_imaged, .ref g6, .long v_oldRing, .ref g7, .long v_aheadRing, .ref g8]), (h1, xI X 10 v_ages), (h2, xI X 7 u.2)] A) (n := 1) md_X7_age.1 (Nat.le_of_ble_eq_true rfl) ?_
  intro p e s m args below meth c ls A hC hr hlk hH hl
  have hl : lv_has ls 2 [(0, .ref h0), (1, .int p1)] := hl
  have hx := hC.1
  have hb := hC.2.1
  refine lv_aload_n hx hb dX7_age_0 rfl (lv_at hl 0 rfl) ?_
  refine lv_iload_n hx hb dX7_age_1 rfl (lv_at hl 1 rfl) ?_
  obtain ⟨u1, hf1, hf⟩ := xb hf
  refine x_ran (x_runV (q0 := 0) (rest := []) (As := [.int p1]) hC mw_665 md_X7_isOne (c_X7_isOne (X := X) hf1) hH [0] rfl (by decide) rfl rfl rfl hl.1 rfl rfl (Nat.le_of_ble_eq_true rfl) dX7_age_2 ⟨Nat.le_of_ble_eq_true rfl, Nat.le_of_ble_eq_true rfl⟩ ⟨rfl, rfl⟩ ⟨Nat.le_refl _, Nat.le_refl _⟩) rfl (fun hz1 => ?_)
  refine lv_if_eq (tgt := 17) hx hb dX7_age_5 (by decide) (fun c2 => ?_) (fun c2 => ?_)
  · have hf := xt c2 hf
    refine lv_aload_n hx hb dX7_age_17 rfl (lv_at hl 0 rfl) ?_
    refine lv_bipush (v := (-2 : Int32)) hx hb dX7_age_18 (by decide) ?_
    obtain ⟨u3, hf3, hf⟩ := xb hf
    refine x_ranw (ws' := [(h0, xO 7 [.int v_laws, .ref g0, .ref g1, .int v_inForce, .int v_depth, .int v_miss, .long v_ring, .int v_size, .int v_people, .ref h1, .int v_seed, .int v_taped, .ref g2, .int v_from, .int v_to, .int v_token, .int v_value, .ref g3, .ref g4, .ref g5, .ref h2, .int v_imaged, .ref g6, .long v_oldRing, .ref g7, .long v_aheadRing, .ref g8]), (h1, xI X 10 v_ages), (h2, xI X 7 u3.2)]) (x_runV (q0 := 0) (rest := []) (As := [.int (-2 : Int32)]) hC mw_143 md_X7_no (c_X7_no (X := X) hf3) hH [0, 2] rfl (by decide) rfl rfl rfl hl.1 rfl rfl (Nat.le_of_ble_eq_true rfl) dX7_age_20 ⟨Nat.le_of_ble_eq_true rfl, Nat.le_of_ble_eq_true rfl⟩ ⟨rfl, rfl⟩ ⟨Nat.le_refl _, Nat.le_refl _⟩) hH [0, 2] rfl rfl rfl rfl rfl (fun hz3 H locs hH => ?_)
    exact x_retiw (φ := fun _ => True) (f := fun u : Int32 × (Nat → Int32) => u.1) (wf := fun u : Int32 × (Nat → Int32) => [(h0, xO 7 [.int v_laws, .ref g0, .ref g1, .int v_inForce, .int v_depth, .int v_miss, .long v_ring, .int v_size, .int v_people, .ref h1, .int v_seed, .int v_taped, .ref g2, .int v_from, .int v_to, .int v_token, .int v_value, .ref g3, .ref g4, .ref g5, .ref h2, .int v_imaged, .ref g6, .long v_oldRing, .ref g7, .long v_aheadRing, .ref g8]), (h1, xI X 10 v_ages), (h2, xI X 7 u.2)]) hC hr hlk trivial hf hH rfl rfl dX7_age_23
  · have hf := xe c2 hf
    refine lv_aload_n hx hb dX7_age_8 rfl (lv_at hl 0 rfl) ?_
    refine x_get hC fd_RX7_16 hH.1 0 rfl rfl dX7_age_9 ?_
    refine lv_iload_n hx hb dX7_age_12 rfl (lv_at hl 1 rfl) ?_
    obtain ⟨n4, hf⟩ := xok hf
    refine x_iald hC hH.1 1 rfl n4 dX7_age_13 ?_
    refine lv_goto (tgt := 23) hx hb dX7_age_14 (by decide) ?_
    exact x_retiw (φ := fun _ => True) (f := fun u : Int32 × (Nat → Int32) => u.1) (wf := fun u : Int32 × (Nat → Int32) => [(h0, xO 7 [.int v_laws, .ref g0, .ref g1, .int v_inForce, .int v_depth, .int v_miss, .long v_ring, .int v_size, .int v_people, .ref h1, .int v_seed, .int v_taped, .ref g2, .int v_from, .int v_to, .int v_token, .int v_value, .ref g3, .ref g4, .ref g5, .ref h2, .int v_imaged, .ref g6, .long v_oldRing, .ref g7, .long v_aheadRing, .ref g8]), (h1, xI X 10 v_ages), (h2, xI X 7 u.2)]) hC hr hlk trivial hf hH rfl rfl dX7_age_23
def f_X7_step (v_ring : Int64) (v_size : Int32) (v_refusals : (Nat → Int32)) (p1 : Int32) : Option (Int32 × (Nat → Int32)) :=
  (f_X7_isStep v_size p1).bind fun u1 =>
  if u1 = (nI 0) then
    (f_X7_no v_refusals (-2 : Int32)).bind fun u3 =>
    some (u3.1, u3.2)
  else
  (f_X7_has v_ring p1).bind fun u4 =>
  if u4 = (nI 0) then
    some ((nI 0), v_refusals)
  else
  some ((nI 1), v_refusals)
set_option maxHeartbeats 4000000 in
set_option maxRecDepth 100000 in
theorem c_X7_step {l : Launch} {X : xG} {h0 h1 g0 g1 g2 g3 g4 g5 g6 g7 g8 g9 : Nat} {v_laws : Int32} {v_inForce : Int32} {v_depth : Int32} {v_miss : Int32} {v_ring : Int64} {v_size : Int32} {v_people : Int32} {v_seed : Int32} {v_taped : Int32} {v_from : Int32} {v_to : Int32} {v_token : Int32} {v_value : Int32} {v_imaged : Int32} {v_oldRing : Int64} {v_aheadRing : Int64} {v_refusals : (Nat → Int32)} {p1 : Int32} {u : Int32 × (Nat → Int32)} (hf : f_X7_step v_ring v_size v_refusals p1 = some u) : Met l yX7_step (xw yX7_step cX7_step 2 (some .int)) (xrm 2 43) (xPc [.ref h0, .int p1] X [(h0, xO 7 [.int v_laws, .ref g0, .ref g1, .int v_inForce, .int v_depth, .int v_miss, .long v_ring, .int v_size, .int v_people, .ref g2, .int v_seed, .int v_taped, .ref g3, .int v_from, .int v_to, .int v_token, .int v_value, .ref g4, .ref g5, .ref g6, .ref h1, .int v_imaged, .ref g7, .long v_oldRing, .ref g8, .long v_aheadRing, .ref g9]), (h1, xI X 7 v_refusals)]) (xQw True (.returned (some (.int u.1))) X [(h0, xO 7 [.int v_laws, .ref g0, .ref g1, .int v_inForce, .int v_depth, .int v_miss, .long v_ring, .int v_size, .int v_people, .ref g2, .int v_seed, .int v_taped, .ref g3, .int v_from, .int v_to, .int v_token, .int v_value, .ref g4, .ref g5, .ref g6, .ref h1, .int v_imaged, .ref g7, .long v_oldRing, .ref g8, .long v_aheadRing, .ref g9]), (h1, xI X 7 u.2)] (xAs [(h0, xO 7 [.int v_laws, .ref g0, .ref g1, .int v_inForce, .int v_depth, .int v_miss, .long v_ring, .int v_size, .int v_people, .ref g2, .int v_seed, .int v_taped, .ref g3, .int v_from, .int v_to, .int v_token, .int v_value, .ref g4, .ref g5, .ref g6, .ref h1, .int v_imaged, .ref g7, .long v_oldRing, .ref g8, .long v_aheadRing, .ref g9]), (h1, xI X 7 v_refusals)])) 0 0 (xAs [(h0, xO 7 [.int v_laws, .ref g0, .ref g1, .int v_inForce, .int v_depth, .int v_miss, .long v_ring, .int v_size, .int v_people, .ref g2, .int v_seed, .int v_taped, .ref g3, .int v_from, .int v_to, .int v_token, .int v_value, .ref g4, .ref g5, .ref g6, .ref h1, .int v_imaged, .ref g7, .long v_oldRing, .ref g8, .long v_aheadRing, .ref g9]), (h1, xI X 7 v_refusals)]) := by
  refine xMetw (Qc := fun A => xQw True (.returned (some (.int u.1))) X [(h0, xO 7 [.int v_laws, .ref g0, .ref g1, .int v_inForce, .int v_depth, .int v_miss, .long v_ring, .int v_size, .int v_people, .ref g2, .int v_seed, .int v_taped, .ref g3, .int v_from, .int v_to, .int v_token, .int v_value, .ref g4, .ref g5, .ref g6, .ref h1, .int v_imaged, .ref g7, .long v_oldRing, .ref g8, .long v_aheadRing, .ref g9]), (h1, xI X 7 u.2)] A) (n := 1) md_X7_step.1 (Nat.le_of_ble_eq_true rfl) ?_
  intro p e s m args below meth c ls A hC hr hlk hH hl
  have hl : lv_has ls 2 [(0, .ref h0), (1, .int p1)] := hl
  have hx := hC.1
  have hb := hC.2.1
  refine lv_aload_n hx hb dX7_step_0 rfl (lv_at hl 0 rfl) ?_
  refine lv_iload_n hx hb dX7_step_1 rfl (lv_at hl 1 rfl) ?_
  obtain ⟨u1, hf1, hf⟩ := xb hf
  refine x_ran (x_runV (q0 := 0) (rest := []) (As := [.int p1]) hC mw_685 md_X7_isStep (c_X7_isStep (X := X) hf1) hH [0] rfl (by decide) rfl rfl rfl hl.1 rfl rfl (Nat.le_of_ble_eq_true rfl) dX7_step_2 ⟨Nat.le_of_ble_eq_true rfl, Nat.le_of_ble_eq_true rfl⟩ ⟨rfl, rfl⟩ ⟨Nat.le_refl _, Nat.le_refl _⟩) rfl (fun hz1 => ?_)
  refine lv_if_eq (tgt := 27) hx hb dX7_step_5 (by decide) (fun c2 => ?_) (fun c2 => ?_)
  · have hf := xt c2 hf
    refine lv_aload_n hx hb dX7_step_27 rfl (lv_at hl 0 rfl) ?_
    refine lv_bipush (v := (-2 : Int32)) hx hb dX7_step_28 (by decide) ?_
    obtain ⟨u3, hf3, hf⟩ := xb hf
    refine x_ranw (ws' := [(h0, xO 7 [.int v_laws, .ref g0, .ref g1, .int v_inForce, .int v_depth, .int v_miss, .long v_ring, .int v_size, .int v_people, .ref g2, .int v_seed, .int v_taped, .ref g3, .int v_from, .int v_to, .int v_token, .int v_value, .ref g4, .ref g5, .ref g6, .ref h1, .int v_imaged, .ref g7, .long v_oldRing, .ref g8, .long v_aheadRing, .ref g9]), (h1, xI X 7 u3.2)]) (x_runV (q0 := 0) (rest := []) (As := [.int (-2 : Int32)]) hC mw_143 md_X7_no (c_X7_no (X := X) hf3) hH [0, 1] rfl (by decide) rfl rfl rfl hl.1 rfl rfl (Nat.le_of_ble_eq_true rfl) dX7_step_30 ⟨Nat.le_of_ble_eq_true rfl, Nat.le_of_ble_eq_true rfl⟩ ⟨rfl, rfl⟩ ⟨Nat.le_refl _, Nat.le_refl _⟩) hH [0, 1] rfl rfl rfl rfl rfl (fun hz3 H locs hH => ?_)
    exact x_retiw (φ := fun _ => True) (f := fun u : Int32 × (Nat → Int32) => u.1) (wf := fun u : Int32 × (Nat → Int32) => [(h0, xO 7 [.int v_laws, .ref g0, .ref g1, .int v_inForce, .int v_depth, .int v_miss, .long v_ring, .int v_size, .int v_people, .ref g2, .int v_seed, .int v_taped, .ref g3, .int v_from, .int v_to, .int v_token, .int v_value, .ref g4, .ref g5, .ref g6, .ref h1, .int v_imaged, .ref g7, .long v_oldRing, .ref g8, .long v_aheadRing, .ref g9]), (h1, xI X 7 u.2)]) hC hr hlk trivial hf hH rfl rfl dX7_step_33
  · have hf := xe c2 hf
    refine lv_aload_n hx hb dX7_step_8 rfl (lv_at hl 0 rfl) ?_
    refine x_get hC fd_RX7_90 hH.1 0 rfl rfl dX7_step_9 ?_
    refine lv_iload_n hx hb dX7_step_12 rfl (lv_at hl 1 rfl) ?_
    obtain ⟨u4, hf4, hf⟩ := xb hf
    refine x_ran (x_runS (rest := []) (As := [.long v_ring, .int p1]) hC mw_336 md_X7_has (c_X7_has (X := X) hf4) hH [] rfl (by decide) hl.1 rfl rfl (Nat.le_of_ble_eq_true rfl) dX7_step_13 ⟨Nat.le_of_ble_eq_true rfl, Nat.le_of_ble_eq_true rfl⟩ ⟨rfl, rfl⟩ ⟨Nat.le_refl _, Nat.le_refl _⟩) rfl (fun hz4 => ?_)
    refine lv_if_eq (tgt := 23) hx hb dX7_step_16 (by decide) (fun c5 => ?_) (fun c5 => ?_)
    · have hf := xt c5 hf
      refine lv_iconst (v := (nI 0)) hx hb dX7_step_23 (by decide) ?_
      refine lv_goto (tgt := 33) hx hb dX7_step_24 (by decide) ?_
      exact x_retiw (φ := fun _ => True) (f := fun u : Int32 × (Nat → Int32) => u.1) (wf := fun u : Int32 × (Nat → Int32) => [(h0, xO 7 [.int v_laws, .ref g0, .ref g1, .int v_inForce, .int v_depth, .int v_miss, .long v_ring, .int v_size, .int v_people, .ref g2, .int v_seed, .int v_taped, .ref g3, .int v_from, .int v_to, .int v_token, .int v_value, .ref g4, .ref g5, .ref g6, .ref h1, .int v_imaged, .ref g7, .long v_oldRing, .ref g8, .long v_aheadRing, .ref g9]), (h1, xI X 7 u.2)]) hC hr hlk trivial hf hH rfl rfl dX7_step_33
    · have hf := xe c5 hf
      refine lv_iconst (v := (nI 1)) hx hb dX7_step_19 (by decide) ?_
      refine lv_goto (tgt := 33) hx hb dX7_step_20 (by decide) ?_
      exact x_retiw (φ := fun _ => True) (f := fun u : Int32 × (Nat → Int32) => u.1) (wf := fun u : Int32 × (Nat → Int32) => [(h0, xO 7 [.int v_laws, .ref g0, .ref g1, .int v_inForce, .int v_depth, .int v_miss, .long v_ring, .int v_size, .int v_people, .ref g2, .int v_seed, .int v_taped, .ref g3, .int v_from, .int v_to, .int v_token, .int v_value, .ref g4, .ref g5, .ref g6, .ref h1, .int v_imaged, .ref g7, .long v_oldRing, .ref g8, .long v_aheadRing, .ref g9]), (h1, xI X 7 u.2)]) hC hr hlk trivial hf hH rfl rfl dX7_step_33
