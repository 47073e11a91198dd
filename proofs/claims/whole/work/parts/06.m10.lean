def f_X7_strikesNow (v_laws : Int32) (v_inForce : Int32) (v_kind : (Nat → Int32)) (v_own : (Nat → Int32)) (p1 : Int64) (p2 : Int32) (p3 : Int32) : Option (Int32) :=
  if v_laws ≤ (nI 0) then
    some (nI 0)
  else
  if p3 < (nI 0) then
    some (nI 0)
  else
  (f_X7_strikesAt v_kind v_own v_inForce p1 p2 p3).bind fun u3 =>
  if u3 = (nI 0) then
    some (nI 0)
  else
  some (nI 1)
set_option maxHeartbeats 4000000 in
set_option maxRecDepth 100000 in
theorem c_X7_strikesNow {l : Launch} {X : xG} {h0 h1 h2 g0 g1 g2 g3 g4 g5 g6 g7 g8 : Nat} {v_laws : Int32} {v_inForce : Int32} {v_depth : Int32} {v_miss : Int32} {v_ring : Int64} {v_size : Int32} {v_people : Int32} {v_seed : Int32} {v_taped : Int32} {v_from : Int32} {v_to : Int32} {v_token : Int32} {v_value : Int32} {v_imaged : Int32} {v_oldRing : Int64} {v_aheadRing : Int64} {v_kind : (Nat → Int32)} {v_own : (Nat → Int32)} {p1 : Int64} {p2 : Int32} {p3 : Int32} {u : Int32} (hf : f_X7_strikesNow v_laws v_inForce v_kind v_own p1 p2 p3 = some u) : Met l yX7_strikesNow (xw yX7_strikesNow cX7_strikesNow 5 (some .boolean)) (xrm 3 72) (xPc [.ref h0, .long p1, .int p2, .int p3] X [(h0, xO 7 [.int v_laws, .ref h1, .ref h2, .int v_inForce, .int v_depth, .int v_miss, .long v_ring, .int v_size, .int v_people, .ref g0, .int v_seed, .int v_taped, .ref g1, .int v_from, .int v_to, .int v_token, .int v_value, .ref g2, .ref g3, .ref g4, .ref g5, .int v_imaged, .ref g6, .long v_oldRing, .ref g7, .long v_aheadRing, .ref g8]), (h1, xI X 6 v_kind), (h2, xI X 6 v_own)]) (xQ (u = 0 ∨ u = 1) (.returned (some (.int u)))) 0 0 xNo := by
  refine xMet (n := 3) md_X7_strikesNow.1 (Nat.le_of_ble_eq_true rfl) ?_
  intro p e s m args below meth c ls A hC hr hlk hH hl
  have hl : lv_has ls 5 [(0, .ref h0), (1, .long p1), (3, .int p2), (4, .int p3)] := hl
  have hx := hC.1
  have hb := hC.2.1
  refine lv_aload_n hx hb dX7_strikesNow_0 rfl (lv_at hl 0 rfl) ?_
  refine x_get hC fd_RX7_52 hH.1 0 rfl rfl dX7_strikesNow_1 ?_
  refine lv_if_le (tgt := 31) hx hb dX7_strikesNow_4 (by decide) (fun c1 => ?_) (fun c1 => ?_)
  · have hf := xt c1 hf
    refine lv_iconst (v := (nI 0)) hx hb dX7_strikesNow_31 (by decide) ?_
    exact x_retz hC hr hlk (Or.inl rfl) hf dX7_strikesNow_32
  · have hf := xe c1 hf
    refine lv_iload hx hb dX7_strikesNow_7 (lv_at hl 3 rfl) ?_
    refine lv_if_lt (tgt := 31) hx hb dX7_strikesNow_9 (by decide) (fun c2 => ?_) (fun c2 => ?_)
    · have hf := xt c2 hf
      refine lv_iconst (v := (nI 0)) hx hb dX7_strikesNow_31 (by decide) ?_
      exact x_retz hC hr hlk (Or.inl rfl) hf dX7_strikesNow_32
    · have hf := xe c2 hf
      refine lv_aload_n hx hb dX7_strikesNow_12 rfl (lv_at hl 0 rfl) ?_
      refine lv_aload_n hx hb dX7_strikesNow_13 rfl (lv_at hl 0 rfl) ?_
      refine x_get hC fd_RX7_102 hH.1 0 rfl rfl dX7_strikesNow_14 ?_
      refine lv_lload_n hx hb dX7_strikesNow_17 rfl (lv_at hl 1 rfl) ?_
      refine lv_iload_n hx hb dX7_strikesNow_18 rfl (lv_at hl 2 rfl) ?_
      refine lv_iload hx hb dX7_strikesNow_19 (lv_at hl 3 rfl) ?_
      obtain ⟨u3, hf3, hf⟩ := xb hf
      refine x_ran (x_runV (q0 := 0) (rest := []) (As := [.int v_inForce, .long p1, .int p2, .int p3]) hC mw_329 md_X7_strikesAt (c_X7_strikesAt (X := X) hf3) hH [0, 1, 2] rfl (by decide) rfl rfl rfl hl.1 rfl rfl (Nat.le_of_ble_eq_true rfl) dX7_strikesNow_21 ⟨Nat.le_of_ble_eq_true rfl, Nat.le_of_ble_eq_true rfl⟩ ⟨rfl, rfl⟩ ⟨Nat.le_refl _, Nat.le_refl _⟩) rfl (fun hz3 => ?_)
      refine lv_if_eq (tgt := 31) hx hb dX7_strikesNow_24 (by decide) (fun c4 => ?_) (fun c4 => ?_)
      · have hf := xt c4 hf
        refine lv_iconst (v := (nI 0)) hx hb dX7_strikesNow_31 (by decide) ?_
        exact x_retz hC hr hlk (Or.inl rfl) hf dX7_strikesNow_32
      · have hf := xe c4 hf
        refine lv_iconst (v := (nI 1)) hx hb dX7_strikesNow_27 (by decide) ?_
        refine lv_goto (tgt := 32) hx hb dX7_strikesNow_28 (by decide) ?_
        exact x_retz hC hr hlk (Or.inr rfl) hf dX7_strikesNow_32
def f_X7_struckNow (v_laws : Int32) (v_inForce : Int32) (v_kind : (Nat → Int32)) (v_own : (Nat → Int32)) (p1 : Int64) (p2 : Int32) : Option (Int32) :=
  if v_laws = (nI 0) then
    some (nI 0)
  else
  (f_X7_struck v_kind v_own v_inForce p1 p2).bind fun u2 =>
  some u2
set_option maxHeartbeats 4000000 in
set_option maxRecDepth 100000 in
theorem c_X7_struckNow {l : Launch} {X : xG} {h0 h1 h2 g0 g1 g2 g3 g4 g5 g6 g7 g8 : Nat} {v_laws : Int32} {v_inForce : Int32} {v_depth : Int32} {v_miss : Int32} {v_ring : Int64} {v_size : Int32} {v_people : Int32} {v_seed : Int32} {v_taped : Int32} {v_from : Int32} {v_to : Int32} {v_token : Int32} {v_value : Int32} {v_imaged : Int32} {v_oldRing : Int64} {v_aheadRing : Int64} {v_kind : (Nat → Int32)} {v_own : (Nat → Int32)} {p1 : Int64} {p2 : Int32} {u : Int32} (hf : f_X7_struckNow v_laws v_inForce v_kind v_own p1 p2 = some u) : Met l yX7_struckNow (xw yX7_struckNow cX7_struckNow 4 (some .int)) (xrm 4 98) (xPc [.ref h0, .long p1, .int p2] X [(h0, xO 7 [.int v_laws, .ref h1, .ref h2, .int v_inForce, .int v_depth, .int v_miss, .long v_ring, .int v_size, .int v_people, .ref g0, .int v_seed, .int v_taped, .ref g1, .int v_from, .int v_to, .int v_token, .int v_value, .ref g2, .ref g3, .ref g4, .ref g5, .int v_imaged, .ref g6, .long v_oldRing, .ref g7, .long v_aheadRing, .ref g8]), (h1, xI X 6 v_kind), (h2, xI X 6 v_own)]) (xQ True (.returned (some (.int u)))) 0 0 xNo := by
  refine xMet (n := 2) md_X7_struckNow.1 (Nat.le_of_ble_eq_true rfl) ?_
  intro p e s m args below meth c ls A hC hr hlk hH hl
  have hl : lv_has ls 4 [(0, .ref h0), (1, .long p1), (3, .int p2)] := hl
  have hx := hC.1
  have hb := hC.2.1
  refine lv_aload_n hx hb dX7_struckNow_0 rfl (lv_at hl 0 rfl) ?_
  refine x_get hC fd_RX7_52 hH.1 0 rfl rfl dX7_struckNow_1 ?_
  refine lv_if_ne (tgt := 11) hx hb dX7_struckNow_4 (by decide) (fun c1 => ?_) (fun c1 => ?_)
  · have hf := xe c1 hf
    refine lv_aload_n hx hb dX7_struckNow_11 rfl (lv_at hl 0 rfl) ?_
    refine lv_aload_n hx hb dX7_struckNow_12 rfl (lv_at hl 0 rfl) ?_
    refine x_get hC fd_RX7_102 hH.1 0 rfl rfl dX7_struckNow_13 ?_
    refine lv_lload_n hx hb dX7_struckNow_16 rfl (lv_at hl 1 rfl) ?_
    refine lv_iload_n hx hb dX7_struckNow_17 rfl (lv_at hl 2 rfl) ?_
    obtain ⟨u2, hf2, hf⟩ := xb hf
    refine x_ran (x_runV (q0 := 0) (rest := []) (As := [.int v_inForce, .long p1, .int p2]) hC mw_325 md_X7_struck (c_X7_struck (X := X) hf2) hH [0, 1, 2] rfl (by decide) rfl rfl rfl hl.1 rfl rfl (Nat.le_of_ble_eq_true rfl) dX7_struckNow_18 ⟨Nat.le_of_ble_eq_true rfl, Nat.le_of_ble_eq_true rfl⟩ ⟨rfl, rfl⟩ ⟨Nat.le_refl _, Nat.le_refl _⟩) rfl (fun hz2 => ?_)
    exact x_reti hC hr hlk trivial hf dX7_struckNow_21
  · have hf := xt c1 hf
    refine lv_iconst (v := (nI 0)) hx hb dX7_struckNow_7 (by decide) ?_
    refine lv_goto (tgt := 21) hx hb dX7_struckNow_8 (by decide) ?_
    exact x_reti hC hr hlk trivial hf dX7_struckNow_21
def f_X7_struckBits_L6 (v_kind : (Nat → Int32)) (v_own : (Nat → Int32)) (p1 : Int32) (p2 : Int64) (p3 : Int32) (s6 : Int64 × Int32) : Option ((Int64) ⊕ (Int64 × Int32)) :=
  if p3 ≤ s6.2 then
    some (.inl s6.1)
  else
  (f_X7_strikesAt v_kind v_own p1 p2 p3 s6.2).bind fun u2 =>
  if u2 = (nI 0) then
    some (.inr (s6.1, s6.2 + (nI 1)))
  else
  some (.inr (s6.1 ||| (xlshl (lN 1) s6.2), s6.2 + (nI 1)))
def f_X7_struckBits (v_kind : (Nat → Int32)) (v_own : (Nat → Int32)) (p1 : Int32) (p2 : Int64) (p3 : Int32) : Option (Int64) :=
  xloop (f_X7_struckBits_L6 v_kind v_own p1 p2 p3) xN ((lN 0), (nI 0))
set_option maxHeartbeats 4000000 in
set_option maxRecDepth 100000 in
theorem c_X7_struckBits {l : Launch} {X : xG} {h0 h1 h2 g0 g1 g2 g3 g4 g5 g6 g7 g8 : Nat} {v_laws : Int32} {v_inForce : Int32} {v_depth : Int32} {v_miss : Int32} {v_ring : Int64} {v_size : Int32} {v_people : Int32} {v_seed : Int32} {v_taped : Int32} {v_from : Int32} {v_to : Int32} {v_token : Int32} {v_value : Int32} {v_imaged : Int32} {v_oldRing : Int64} {v_aheadRing : Int64} {v_kind : (Nat → Int32)} {v_own : (Nat → Int32)} {p1 : Int32} {p2 : Int64} {p3 : Int32} {u : Int64} (hf : f_X7_struckBits v_kind v_own p1 p2 p3 = some u) : Met l yX7_struckBits (xw yX7_struckBits cX7_struckBits 8 (some .long)) (xrm 3 72) (xPc [.ref h0, .int p1, .long p2, .int p3] X [(h0, xO 7 [.int v_laws, .ref h1, .ref h2, .int v_inForce, .int v_depth, .int v_miss, .long v_ring, .int v_size, .int v_people, .ref g0, .int v_seed, .int v_taped, .ref g1, .int v_from, .int v_to, .int v_token, .int v_value, .ref g2, .ref g3, .ref g4, .ref g5, .int v_imaged, .ref g6, .long v_oldRing, .ref g7, .long v_aheadRing, .ref g8]), (h1, xI X 6 v_kind), (h2, xI X 6 v_own)]) (xQ True (.returned (some (.long u)))) 0 0 xNo := by
  refine xMet (n := 3) md_X7_struckBits.1 (Nat.le_of_ble_eq_true rfl) ?_
  intro p e s m args below meth c ls A hC hr hlk hH hl
  have hl : lv_has ls 8 [(0, .ref h0), (1, .int p1), (2, .long p2), (4, .int p3)] := hl
  have hx := hC.1
  have hb := hC.2.1
  have L6 : ∀ (n : Nat) (s6 : Int64 × Int32), xloop (f_X7_struckBits_L6 v_kind v_own p1 p2 p3) n s6 = some u → ∀ (ls : Array Slot), lv_has ls 8 [(0, .ref h0), (1, .int p1), (2, .long p2), (4, .int p3), (5, .long s6.1), (7, .int s6.2)] → W p l e (xrm 3 72) s m args below meth c s.heap [] 0 0 (MQ below (xQ True (.returned (some (.long u)))) args s 0 0 xNo) (F0 m 6 ls []) := by
    intro  n
    induction n with
    | zero => intro s6 hf; exact xloop_0 hf
    | succ n ih6 =>
      intro s6 hf ls hl
      obtain ⟨o6, hf, ho6⟩ := xloop_s hf
      refine lv_iload hx hb dX7_struckBits_6 (lv_at hl 5 rfl) ?_
      refine lv_iload hx hb dX7_struckBits_8 (lv_at hl 3 rfl) ?_
      refine lv_icmp_ge (tgt := 41) hx hb dX7_struckBits_10 (by decide) (fun c1 => ?_) (fun c1 => ?_)
      · have hf := xt c1 hf
        refine lv_lload hx hb dX7_struckBits_41 (lv_at hl 4 rfl) ?_
        have hf := xo_ret hf ho6
        exact x_retl hC hr hlk trivial hf dX7_struckBits_43
      · have hf := xe c1 hf
        refine lv_aload_n hx hb dX7_struckBits_13 rfl (lv_at hl 0 rfl) ?_
        refine lv_iload_n hx hb dX7_struckBits_14 rfl (lv_at hl 1 rfl) ?_
        refine lv_lload_n hx hb dX7_struckBits_15 rfl (lv_at hl 2 rfl) ?_
        refine lv_iload hx hb dX7_struckBits_16 (lv_at hl 3 rfl) ?_
        refine lv_iload hx hb dX7_struckBits_18 (lv_at hl 5 rfl) ?_
        obtain ⟨u2, hf2, hf⟩ := xb hf
        refine x_ran (x_runV (q0 := 0) (rest := []) (As := [.int p1, .long p2, .int p3, .int s6.2]) hC mw_329 md_X7_strikesAt (c_X7_strikesAt (X := X) hf2) hH [0, 1, 2] rfl (by decide) rfl rfl rfl hl.1 rfl rfl (Nat.le_of_ble_eq_true rfl) dX7_struckBits_20 ⟨Nat.le_of_ble_eq_true rfl, Nat.le_of_ble_eq_true rfl⟩ ⟨rfl, rfl⟩ ⟨Nat.le_refl _, Nat.le_refl _⟩) rfl (fun hz2 => ?_)
        refine lv_if_eq (tgt := 35) hx hb dX7_struckBits_23 (by decide) (fun c3 => ?_) (fun c3 => ?_)
        · have hf := xt c3 hf
          refine lv_iinc (v := s6.2 + (nI 1)) (lv' := [(7, .int (s6.2 + (nI 1))), (0, .ref h0), (1, .int p1), (2, .long p2), (4, .int p3), (5, .long s6.1)]) hx hb dX7_struckBits_35 hl (k := 5) rfl rfl (by decide) rfl (fun ls hl => ?_)
          refine lv_goto (tgt := 6) hx hb dX7_struckBits_38 (by decide) ?_
          have hf := xo_go hf ho6
          exact ih6 (s6.1, s6.2 + (nI 1)) hf ls (lv_sub hl [1, 2, 3, 4, 5, 0] rfl)
        · have hf := xe c3 hf
          refine lv_lload hx hb dX7_struckBits_26 (lv_at hl 4 rfl) ?_
          refine lv_lconst (v := (lN 1)) hx hb dX7_struckBits_28 (by decide) ?_
          refine lv_iload hx hb dX7_struckBits_29 (lv_at hl 5 rfl) ?_
          refine x_lshl hx hb dX7_struckBits_31 ?_
          refine lv_lor hx hb dX7_struckBits_32 ?_
          refine lv_lstore (lv' := [(5, .long (s6.1 ||| (xlshl (lN 1) s6.2))), (0, .ref h0), (1, .int p1), (2, .long p2), (4, .int p3), (7, .int s6.2)]) hx hb dX7_struckBits_33 hl (by decide) rfl (fun ls hl => ?_)
          refine lv_iinc (v := s6.2 + (nI 1)) (lv' := [(7, .int (s6.2 + (nI 1))), (5, .long (s6.1 ||| (xlshl (lN 1) s6.2))), (0, .ref h0), (1, .int p1), (2, .long p2), (4, .int p3)]) hx hb dX7_struckBits_35 hl (k := 5) rfl rfl (by decide) rfl (fun ls hl => ?_)
          refine lv_goto (tgt := 6) hx hb dX7_struckBits_38 (by decide) ?_
          have hf := xo_go hf ho6
          exact ih6 (s6.1 ||| (xlshl (lN 1) s6.2), s6.2 + (nI 1)) hf ls (lv_sub hl [2, 3, 4, 5, 1, 0] rfl)
  refine lv_lconst (v := (lN 0)) hx hb dX7_struckBits_0 (by decide) ?_
  refine lv_lstore (lv' := [(5, .long (lN 0)), (0, .ref h0), (1, .int p1), (2, .long p2), (4, .int p3)]) hx hb dX7_struckBits_1 hl (by decide) rfl (fun ls hl => ?_)
  refine lv_iconst (v := (nI 0)) hx hb dX7_struckBits_3 (by decide) ?_
  refine lv_istore (lv' := [(7, .int (nI 0)), (5, .long (lN 0)), (0, .ref h0), (1, .int p1), (2, .long p2), (4, .int p3)]) hx hb dX7_struckBits_4 hl (by decide) rfl (fun ls hl => ?_)
  exact L6 xN ((lN 0), (nI 0)) hf ls (lv_sub hl [2, 3, 4, 5, 1, 0] rfl)
def f_X7_isHeard (v_laws : Int32) (v_inForce : Int32) (v_depth : Int32) (v_kind : (Nat → Int32)) (v_own : (Nat → Int32)) (p1 : Int64) (p2 : Int32) (p3 : Int32) : Option (Int32) :=
  (f_X7_has p1 p3).bind fun u1 =>
  if u1 = (nI 0) then
    (f_X7_strikesNow v_laws v_inForce v_kind v_own p1 p2 (p3 - v_depth)).bind fun u3 =>
    if u3 = (nI 0) then
      some (nI 0)
    else
    some (nI 1)
  else
  some (nI 1)
set_option maxHeartbeats 4000000 in
set_option maxRecDepth 100000 in
theorem c_X7_isHeard {l : Launch} {X : xG} {h0 h1 h2 g0 g1 g2 g3 g4 g5 g6 g7 g8 : Nat} {v_laws : Int32} {v_inForce : Int32} {v_depth : Int32} {v_miss : Int32} {v_ring : Int64} {v_size : Int32} {v_people : Int32} {v_seed : Int32} {v_taped : Int32} {v_from : Int32} {v_to : Int32} {v_token : Int32} {v_value : Int32} {v_imaged : Int32} {v_oldRing : Int64} {v_aheadRing : Int64} {v_kind : (Nat → Int32)} {v_own : (Nat → Int32)} {p1 : Int64} {p2 : Int32} {p3 : Int32} {u : Int32} (hf : f_X7_isHeard v_laws v_inForce v_depth v_kind v_own p1 p2 p3 = some u) : Met l yX7_isHeard (xw yX7_isHeard cX7_isHeard 5 (some .boolean)) (xrm 4 96) (xPc [.ref h0, .long p1, .int p2, .int p3] X [(h0, xO 7 [.int v_laws, .ref h1, .ref h2, .int v_inForce, .int v_depth, .int v_miss, .long v_ring, .int v_size, .int v_people, .ref g0, .int v_seed, .int v_taped, .ref g1, .int v_from, .int v_to, .int v_token, .int v_value, .ref g2, .ref g3, .ref g4, .ref g5, .int v_imaged, .ref g6, .long v_oldRing, .ref g7, .long v_aheadRing, .ref g8]), (h1, xI X 6 v_kind), (h2, xI X 6 v_own)]) (xQ (u = 0 ∨ u = 1) (.returned (some (.int u)))) 0 0 xNo := by
  refine xMet (n := 3) md_X7_isHeard.1 (Nat.le_of_ble_eq_true rfl) ?_
  intro p e s m args below meth c ls A hC hr hlk hH hl
  have hl : lv_has ls 5 [(0, .ref h0), (1, .long p1), (3, .int p2), (4, .int p3)] := hl
  have hx := hC.1
  have hb := hC.2.1
  refine lv_lload_n hx hb dX7_isHeard_0 rfl (lv_at hl 1 rfl) ?_
  refine lv_iload hx hb dX7_isHeard_1 (lv_at hl 3 rfl) ?_
  obtain ⟨u1, hf1, hf⟩ := xb hf
  refine x_ran (x_runS (rest := []) (As := [.long p1, .int p3]) hC mw_336 md_X7_has (c_X7_has (X := X) hf1) hH [] rfl (by decide) hl.1 rfl rfl (Nat.le_of_ble_eq_true rfl) dX7_isHeard_3 ⟨Nat.le_of_ble_eq_true rfl, Nat.le_of_ble_eq_true rfl⟩ ⟨rfl, rfl⟩ ⟨Nat.le_refl _, Nat.le_refl _⟩) rfl (fun hz1 => ?_)
  refine lv_if_ne (tgt := 25) hx hb dX7_isHeard_6 (by decide) (fun c2 => ?_) (fun c2 => ?_)
  · have hf := xe c2 hf
    refine lv_iconst (v := (nI 1)) hx hb dX7_isHeard_25 (by decide) ?_
    refine lv_goto (tgt := 30) hx hb dX7_isHeard_26 (by decide) ?_
    exact x_retz hC hr hlk (Or.inr rfl) hf dX7_isHeard_30
  · have hf := xt c2 hf
    refine lv_aload_n hx hb dX7_isHeard_9 rfl (lv_at hl 0 rfl) ?_
    refine lv_lload_n hx hb dX7_isHeard_10 rfl (lv_at hl 1 rfl) ?_
    refine lv_iload_n hx hb dX7_isHeard_11 rfl (lv_at hl 2 rfl) ?_
    refine lv_iload hx hb dX7_isHeard_12 (lv_at hl 3 rfl) ?_
    refine lv_aload_n hx hb dX7_isHeard_14 rfl (lv_at hl 0 rfl) ?_
    refine x_get hC fd_RX7_45 hH.1 0 rfl rfl dX7_isHeard_15 ?_
    refine lv_isub hx hb dX7_isHeard_18 ?_
    obtain ⟨u3, hf3, hf⟩ := xb hf
    refine x_ran (x_runV (q0 := 0) (rest := []) (As := [.long p1, .int p2, .int (p3 - v_depth)]) hC mw_702 md_X7_strikesNow (c_X7_strikesNow (X := X) hf3) hH [0, 1, 2] rfl (by decide) rfl rfl rfl hl.1 rfl rfl (Nat.le_of_ble_eq_true rfl) dX7_isHeard_19 ⟨Nat.le_of_ble_eq_true rfl, Nat.le_of_ble_eq_true rfl⟩ ⟨rfl, rfl⟩ ⟨Nat.le_refl _, Nat.le_refl _⟩) rfl (fun hz3 => ?_)
    refine lv_if_eq (tgt := 29) hx hb dX7_isHeard_22 (by decide) (fun c4 => ?_) (fun c4 => ?_)
    · have hf := xt c4 hf
      refine lv_iconst (v := (nI 0)) hx hb dX7_isHeard_29 (by decide) ?_
      exact x_retz hC hr hlk (Or.inl rfl) hf dX7_isHeard_30
    · have hf := xe c4 hf
      refine lv_iconst (v := (nI 1)) hx hb dX7_isHeard_25 (by decide) ?_
      refine lv_goto (tgt := 30) hx hb dX7_isHeard_26 (by decide) ?_
      exact x_retz hC hr hlk (Or.inr rfl) hf dX7_isHeard_30
def f_X7_isBoth (v_laws : Int32) (v_inForce : Int32) (v_depth : Int32) (v_kind : (Nat → Int32)) (v_own : (Nat → Int32)) (p1 : Int64) (p2 : Int32) (p3 : Int32) : Option (Int32) :=
  (f_X7_has p1 p3).bind fun u1 =>
  if u1 = (nI 0) then
    some (nI 0)
  else
  (f_X7_strikesNow v_laws v_inForce v_kind v_own p1 p2 (p3 - v_depth)).bind fun u3 =>
  if u3 = (nI 0) then
    some (nI 0)
  else
  some (nI 1)
set_option maxHeartbeats 4000000 in
set_option maxRecDepth 100000 in
theorem c_X7_isBoth {l : Launch} {X : xG} {h0 h1 h2 g0 g1 g2 g3 g4 g5 g6 g7 g8 : Nat} {v_laws : Int32} {v_inForce : Int32} {v_depth : Int32} {v_miss : Int32} {v_ring : Int64} {v_size : Int32} {v_people : Int32} {v_seed : Int32} {v_taped : Int32} {v_from : Int32} {v_to : Int32} {v_token : Int32} {v_value : Int32} {v_imaged : Int32} {v_oldRing : Int64} {v_aheadRing : Int64} {v_kind : (Nat → Int32)} {v_own : (Nat → Int32)} {p1 : Int64} {p2 : Int32} {p3 : Int32} {u : Int32} (hf : f_X7_isBoth v_laws v_inForce v_depth v_kind v_own p1 p2 p3 = some u) : Met l yX7_isBoth (xw yX7_isBoth cX7_isBoth 5 (some .boolean)) (xrm 4 96) (xPc [.ref h0, .long p1, .int p2, .int p3] X [(h0, xO 7 [.int v_laws, .ref h1, .ref h2, .int v_inForce, .int v_depth, .int v_miss, .long v_ring, .int v_size, .int v_people, .ref g0, .int v_seed, .int v_taped, .ref g1, .int v_from, .int v_to, .int v_token, .int v_value, .ref g2, .ref g3, .ref g4, .ref g5, .int v_imaged, .ref g6, .long v_oldRing, .ref g7, .long v_aheadRing, .ref g8]), (h1, xI X 6 v_kind), (h2, xI X 6 v_own)]) (xQ (u = 0 ∨ u = 1) (.returned (some (.int u)))) 0 0 xNo := by
  refine xMet (n := 3) md_X7_isBoth.1 (Nat.le_of_ble_eq_true rfl) ?_
  intro p e s m args below meth c ls A hC hr hlk hH hl
  have hl : lv_has ls 5 [(0, .ref h0), (1, .long p1), (3, .int p2), (4, .int p3)] := hl
  have hx := hC.1
  have hb := hC.2.1
  refine lv_lload_n hx hb dX7_isBoth_0 rfl (lv_at hl 1 rfl) ?_
  refine lv_iload hx hb dX7_isBoth_1 (lv_at hl 3 rfl) ?_
  obtain ⟨u1, hf1, hf⟩ := xb hf
  refine x_ran (x_runS (rest := []) (As := [.long p1, .int p3]) hC mw_336 md_X7_has (c_X7_has (X := X) hf1) hH [] rfl (by decide) hl.1 rfl rfl (Nat.le_of_ble_eq_true rfl) dX7_isBoth_3 ⟨Nat.le_of_ble_eq_true rfl, Nat.le_of_ble_eq_true rfl⟩ ⟨rfl, rfl⟩ ⟨Nat.le_refl _, Nat.le_refl _⟩) rfl (fun hz1 => ?_)
  refine lv_if_eq (tgt := 29) hx hb dX7_isBoth_6 (by decide) (fun c2 => ?_) (fun c2 => ?_)
  · have hf := xt c2 hf
    refine lv_iconst (v := (nI 0)) hx hb dX7_isBoth_29 (by decide) ?_
    exact x_retz hC hr hlk (Or.inl rfl) hf dX7_isBoth_30
  · have hf := xe c2 hf
    refine lv_aload_n hx hb dX7_isBoth_9 rfl (lv_at hl 0 rfl) ?_
    refine lv_lload_n hx hb dX7_isBoth_10 rfl (lv_at hl 1 rfl) ?_
    refine lv_iload_n hx hb dX7_isBoth_11 rfl (lv_at hl 2 rfl) ?_
    refine lv_iload hx hb dX7_isBoth_12 (lv_at hl 3 rfl) ?_
    refine lv_aload_n hx hb dX7_isBoth_14 rfl (lv_at hl 0 rfl) ?_
    refine x_get hC fd_RX7_45 hH.1 0 rfl rfl dX7_isBoth_15 ?_
    refine lv_isub hx hb dX7_isBoth_18 ?_
    obtain ⟨u3, hf3, hf⟩ := xb hf
    refine x_ran (x_runV (q0 := 0) (rest := []) (As := [.long p1, .int p2, .int (p3 - v_depth)]) hC mw_702 md_X7_strikesNow (c_X7_strikesNow (X := X) hf3) hH [0, 1, 2] rfl (by decide) rfl rfl rfl hl.1 rfl rfl (Nat.le_of_ble_eq_true rfl) dX7_isBoth_19 ⟨Nat.le_of_ble_eq_true rfl, Nat.le_of_ble_eq_true rfl⟩ ⟨rfl, rfl⟩ ⟨Nat.le_refl _, Nat.le_refl _⟩) rfl (fun hz3 => ?_)
    refine lv_if_eq (tgt := 29) hx hb dX7_isBoth_22 (by decide) (fun c4 => ?_) (fun c4 => ?_)
    · have hf := xt c4 hf
      refine lv_iconst (v := (nI 0)) hx hb dX7_isBoth_29 (by decide) ?_
      exact x_retz hC hr hlk (Or.inl rfl) hf dX7_isBoth_30
    · have hf := xe c4 hf
      refine lv_iconst (v := (nI 1)) hx hb dX7_isBoth_25 (by decide) ?_
      refine lv_goto (tgt := 30) hx hb dX7_isBoth_26 (by decide) ?_
      exact x_retz hC hr hlk (Or.inr rfl) hf dX7_isBoth_30
def f_X7_is (v_laws : Int32) (v_inForce : Int32) (v_depth : Int32) (v_kind : (Nat → Int32)) (v_own : (Nat → Int32)) (p1 : Int64) (p2 : Int32) (p3 : Int32) (p4 : Int32) : Option (Int32) :=
  if p4 = (nI 0) then
    (f_X7_isHeard v_laws v_inForce v_depth v_kind v_own p1 p2 p3).bind fun u6 =>
    some u6
  else
  if p4 = (nI 1) then
    (f_X7_isBoth v_laws v_inForce v_depth v_kind v_own p1 p2 p3).bind fun u5 =>
    some u5
  else
  (f_X7_isHeard v_laws v_inForce v_depth v_kind v_own p1 p2 p3).bind fun u3 =>
  if u3 = (nI 0) then
    some (nI 1)
  else
  some (nI 0)
set_option maxHeartbeats 4000000 in
set_option maxRecDepth 100000 in
theorem c_X7_is {l : Launch} {X : xG} {h0 h1 h2 g0 g1 g2 g3 g4 g5 g6 g7 g8 : Nat} {v_laws : Int32} {v_inForce : Int32} {v_depth : Int32} {v_miss : Int32} {v_ring : Int64} {v_size : Int32} {v_people : Int32} {v_seed : Int32} {v_taped : Int32} {v_from : Int32} {v_to : Int32} {v_token : Int32} {v_value : Int32} {v_imaged : Int32} {v_oldRing : Int64} {v_aheadRing : Int64} {v_kind : (Nat → Int32)} {v_own : (Nat → Int32)} {p1 : Int64} {p2 : Int32} {p3 : Int32} {p4 : Int32} {u : Int32} (hf : f_X7_is v_laws v_inForce v_depth v_kind v_own p1 p2 p3 p4 = some u) : Met l yX7_is (xw yX7_is cX7_is 6 (some .boolean)) (xrm 5 120) (xPc [.ref h0, .long p1, .int p2, .int p3, .int p4] X [(h0, xO 7 [.int v_laws, .ref h1, .ref h2, .int v_inForce, .int v_depth, .int v_miss, .long v_ring, .int v_size, .int v_people, .ref g0, .int v_seed, .int v_taped, .ref g1, .int v_from, .int v_to, .int v_token, .int v_value, .ref g2, .ref g3, .ref g4, .ref g5, .int v_imaged, .ref g6, .long v_oldRing, .ref g7, .long v_aheadRing, .ref g8]), (h1, xI X 6 v_kind), (h2, xI X 6 v_own)]) (xQ (u = 0 ∨ u = 1) (.returned (some (.int u)))) 0 0 xNo := by
  refine xMet (n := 4) md_X7_is.1 (Nat.le_of_ble_eq_true rfl) ?_
  intro p e s m args below meth c ls A hC hr hlk hH hl
  have hl : lv_has ls 6 [(0, .ref h0), (1, .long p1), (3, .int p2), (4, .int p3), (5, .int p4)] := hl
  have hx := hC.1
  have hb := hC.2.1
  refine lv_iload hx hb dX7_is_0 (lv_at hl 4 rfl) ?_
  refine lv_if_ne (tgt := 16) hx hb dX7_is_2 (by decide) (fun c1 => ?_) (fun c1 => ?_)
  · have hf := xe c1 hf
    refine lv_iload hx hb dX7_is_16 (lv_at hl 4 rfl) ?_
    refine lv_iconst (v := (nI 1)) hx hb dX7_is_18 (by decide) ?_
    refine lv_icmp_ne (tgt := 33) hx hb dX7_is_19 (by decide) (fun c2 => ?_) (fun c2 => ?_)
    · have hf := xe c2 hf
      refine lv_aload_n hx hb dX7_is_33 rfl (lv_at hl 0 rfl) ?_
      refine lv_lload_n hx hb dX7_is_34 rfl (lv_at hl 1 rfl) ?_
      refine lv_iload_n hx hb dX7_is_35 rfl (lv_at hl 2 rfl) ?_
      refine lv_iload hx hb dX7_is_36 (lv_at hl 3 rfl) ?_
      obtain ⟨u3, hf3, hf⟩ := xb hf
      refine x_ran (x_runV (q0 := 0) (rest := []) (As := [.long p1, .int p2, .int p3]) hC mw_732 md_X7_isHeard (c_X7_isHeard (X := X) hf3) hH [0, 1, 2] rfl (by decide) rfl rfl rfl hl.1 rfl rfl (Nat.le_of_ble_eq_true rfl) dX7_is_38 ⟨Nat.le_of_ble_eq_true rfl, Nat.le_of_ble_eq_true rfl⟩ ⟨rfl, rfl⟩ ⟨Nat.le_refl _, Nat.le_refl _⟩) rfl (fun hz3 => ?_)
      refine lv_if_ne (tgt := 48) hx hb dX7_is_41 (by decide) (fun c4 => ?_) (fun c4 => ?_)
      · have hf := xe c4 hf
        refine lv_iconst (v := (nI 0)) hx hb dX7_is_48 (by decide) ?_
        exact x_retz hC hr hlk (Or.inl rfl) hf dX7_is_49
      · have hf := xt c4 hf
        refine lv_iconst (v := (nI 1)) hx hb dX7_is_44 (by decide) ?_
        refine lv_goto (tgt := 49) hx hb dX7_is_45 (by decide) ?_
        exact x_retz hC hr hlk (Or.inr rfl) hf dX7_is_49
    · have hf := xt c2 hf
      refine lv_aload_n hx hb dX7_is_22 rfl (lv_at hl 0 rfl) ?_
      refine lv_lload_n hx hb dX7_is_23 rfl (lv_at hl 1 rfl) ?_
      refine lv_iload_n hx hb dX7_is_24 rfl (lv_at hl 2 rfl) ?_
      refine lv_iload hx hb dX7_is_25 (lv_at hl 3 rfl) ?_
      obtain ⟨u5, hf5, hf⟩ := xb hf
      refine x_ran (x_runV (q0 := 0) (rest := []) (As := [.long p1, .int p2, .int p3]) hC mw_736 md_X7_isBoth (c_X7_isBoth (X := X) hf5) hH [0, 1, 2] rfl (by decide) rfl rfl rfl hl.1 rfl rfl (Nat.le_of_ble_eq_true rfl) dX7_is_27 ⟨Nat.le_of_ble_eq_true rfl, Nat.le_of_ble_eq_true rfl⟩ ⟨rfl, rfl⟩ ⟨Nat.le_refl _, Nat.le_refl _⟩) rfl (fun hz5 => ?_)
      refine lv_goto (tgt := 49) hx hb dX7_is_30 (by decide) ?_
      exact x_retz hC hr hlk hz5 hf dX7_is_49
  · have hf := xt c1 hf
    refine lv_aload_n hx hb dX7_is_5 rfl (lv_at hl 0 rfl) ?_
    refine lv_lload_n hx hb dX7_is_6 rfl (lv_at hl 1 rfl) ?_
    refine lv_iload_n hx hb dX7_is_7 rfl (lv_at hl 2 rfl) ?_
    refine lv_iload hx hb dX7_is_8 (lv_at hl 3 rfl) ?_
    obtain ⟨u6, hf6, hf⟩ := xb hf
    refine x_ran (x_runV (q0 := 0) (rest := []) (As := [.long p1, .int p2, .int p3]) hC mw_732 md_X7_isHeard (c_X7_isHeard (X := X) hf6) hH [0, 1, 2] rfl (by decide) rfl rfl rfl hl.1 rfl rfl (Nat.le_of_ble_eq_true rfl) dX7_is_10 ⟨Nat.le_of_ble_eq_true rfl, Nat.le_of_ble_eq_true rfl⟩ ⟨rfl, rfl⟩ ⟨Nat.le_refl _, Nat.le_refl _⟩) rfl (fun hz6 => ?_)
    refine lv_goto (tgt := 49) hx hb dX7_is_13 (by decide) ?_
    exact x_retz hC hr hlk hz6 hf dX7_is_49
def f_X7_many_L6 (v_laws : Int32) (v_inForce : Int32) (v_depth : Int32) (v_kind : (Nat → Int32)) (v_own : (Nat → Int32)) (p1 : Int64) (p2 : Int32) (p3 : Int32) (s6 : Int32 × Int32) : Option ((Int32) ⊕ (Int32 × Int32)) :=
  if p2 ≤ s6.2 then
    some (.inl s6.1)
  else
  (f_X7_is v_laws v_inForce v_depth v_kind v_own p1 p2 s6.2 p3).bind fun u2 =>
  if u2 = (nI 0) then
    some (.inr (s6.1, s6.2 + (nI 1)))
  else
  some (.inr (s6.1 + (nI 1), s6.2 + (nI 1)))
def f_X7_many (v_laws : Int32) (v_inForce : Int32) (v_depth : Int32) (v_kind : (Nat → Int32)) (v_own : (Nat → Int32)) (p1 : Int64) (p2 : Int32) (p3 : Int32) : Option (Int32) :=
  xloop (f_X7_many_L6 v_laws v_inForce v_depth v_kind v_own p1 p2 p3) xN ((nI 0), (nI 0))
set_option maxHeartbeats 4000000 in
set_option maxRecDepth 100000 in
theorem c_X7_many {l : Launch} {X : xG} {h0 h1 h2 g0 g1 g2 g3 g4 g5 g6 g7 g8 : Nat} {v_laws : Int32} {v_inForce : Int32} {v_depth : Int32} {v_miss : Int32} {v_ring : Int64} {v_size : Int32} {v_people : Int32} {v_seed : Int32} {v_taped : Int32} {v_from : Int32} {v_to : Int32} {v_token : Int32} {v_value : Int32} {v_imaged : Int32} {v_oldRing : Int64} {v_aheadRing : Int64} {v_kind : (Nat → Int32)} {v_own : (Nat → Int32)} {p1 : Int64} {p2 : Int32} {p3 : Int32} {u : Int32} (hf : f_X7_many v_laws v_inForce v_depth v_kind v_own p1 p2 p3 = some u) : Met l yX7_many (xw yX7_many cX7_many 7 (some .int)) (xrm 6 145) (xPc [.ref h0, .long p1, .int p2, .int p3] X [(h0, xO 7 [.int v_laws, .ref h1, .ref h2, .int v_inForce, .int v_depth, .int v_miss, .long v_ring, .int v_size, .int v_people, .ref g0, .int v_seed, .int v_taped, .ref g1, .int v_from, .int v_to, .int v_token, .int v_value, .ref g2, .ref g3, .ref g4, .ref g5, .int v_imaged, .ref g6, .long v_oldRing, .ref g7, .long v_aheadRing, .ref g8]), (h1, xI X 6 v_kind), (h2, xI X 6 v_own)]) (xQ True (.returned (some (.int u)))) 0 0 xNo := by
  refine xMet (n := 3) md_X7_many.1 (Nat.le_of_ble_eq_true rfl) ?_
  intro p e s m args below meth c ls A hC hr hlk hH hl
  have hl : lv_has ls 7 [(0, .ref h0), (1, .long p1), (3, .int p2), (4, .int p3)] := hl
  have hx := hC.1
  have hb := hC.2.1
  have L6 : ∀ (n : Nat) (s6 : Int32 × Int32), xloop (f_X7_many_L6 v_laws v_inForce v_depth v_kind v_own p1 p2 p3) n s6 = some u → ∀ (ls : Array Slot), lv_has ls 7 [(0, .ref h0), (1, .long p1), (3, .int p2), (4, .int p3), (5, .int s6.1), (6, .int s6.2)] → W p l e (xrm 6 145) s m args below meth c s.heap [] 0 0 (MQ below (xQ True (.returned (some (.int u)))) args s 0 0 xNo) (F0 m 6 ls []) := by
    intro  n
    induction n with
    | zero => intro s6 hf; exact xloop_0 hf
    | succ n ih6 =>
      intro s6 hf ls hl
      obtain ⟨o6, hf, ho6⟩ := xloop_s hf
      refine lv_iload hx hb dX7_many_6 (lv_at hl 5 rfl) ?_
      refine lv_iload_n hx hb dX7_many_8 rfl (lv_at hl 2 rfl) ?_
      refine lv_icmp_ge (tgt := 34) hx hb dX7_many_9 (by decide) (fun c1 => ?_) (fun c1 => ?_)
      · have hf := xt c1 hf
        refine lv_iload hx hb dX7_many_34 (lv_at hl 4 rfl) ?_
        have hf := xo_ret hf ho6
        exact x_reti hC hr hlk trivial hf dX7_many_36
      · have hf := xe c1 hf
        refine lv_aload_n hx hb dX7_many_12 rfl (lv_at hl 0 rfl) ?_
        refine lv_lload_n hx hb dX7_many_13 rfl (lv_at hl 1 rfl) ?_
        refine lv_iload_n hx hb dX7_many_14 rfl (lv_at hl 2 rfl) ?_
        refine lv_iload hx hb dX7_many_15 (lv_at hl 5 rfl) ?_
        refine lv_iload hx hb dX7_many_17 (lv_at hl 3 rfl) ?_
        obtain ⟨u2, hf2, hf⟩ := xb hf
        refine x_ran (x_runV (q0 := 0) (rest := []) (As := [.long p1, .int p2, .int s6.2, .int p3]) hC mw_728 md_X7_is (c_X7_is (X := X) hf2) hH [0, 1, 2] rfl (by decide) rfl rfl rfl hl.1 rfl rfl (Nat.le_of_ble_eq_true rfl) dX7_many_19 ⟨Nat.le_of_ble_eq_true rfl, Nat.le_of_ble_eq_true rfl⟩ ⟨rfl, rfl⟩ ⟨Nat.le_refl _, Nat.le_refl _⟩) rfl (fun hz2 => ?_)
        refine lv_if_eq (tgt := 28) hx hb dX7_many_22 (by decide) (fun c3 => ?_) (fun c3 => ?_)
        · have hf := xt c3 hf
          refine lv_iinc (v := s6.2 + (nI 1)) (lv' := [(6, .int (s6.2 + (nI 1))), (0, .ref h0), (1, .long p1), (3, .int p2), (4, .int p3), (5, .int s6.1)]) hx hb dX7_many_28 hl (k := 5) rfl rfl (by decide) rfl (fun ls hl => ?_)
          refine lv_goto (tgt := 6) hx hb dX7_many_31 (by decide) ?_
          have hf := xo_go hf ho6
          exact ih6 (s6.1, s6.2 + (nI 1)) hf ls (lv_sub hl [1, 2, 3, 4, 5, 0] rfl)
        · have hf := xe c3 hf
          refine lv_iinc (v := s6.1 + (nI 1)) (lv' := [(5, .int (s6.1 + (nI 1))), (0, .ref h0), (1, .long p1), (3, .int p2), (4, .int p3), (6, .int s6.2)]) hx hb dX7_many_25 hl (k := 4) rfl rfl (by decide) rfl (fun ls hl => ?_)
          refine lv_iinc (v := s6.2 + (nI 1)) (lv' := [(6, .int (s6.2 + (nI 1))), (5, .int (s6.1 + (nI 1))), (0, .ref h0), (1, .long p1), (3, .int p2), (4, .int p3)]) hx hb dX7_many_28 hl (k := 5) rfl rfl (by decide) rfl (fun ls hl => ?_)
          refine lv_goto (tgt := 6) hx hb dX7_many_31 (by decide) ?_
          have hf := xo_go hf ho6
          exact ih6 (s6.1 + (nI 1), s6.2 + (nI 1)) hf ls (lv_sub hl [2, 3, 4, 5, 1, 0] rfl)
  refine lv_iconst (v := (nI 0)) hx hb dX7_many_0 (by decide) ?_
  refine lv_istore (lv' := [(5, .int (nI 0)), (0, .ref h0), (1, .long p1), (3, .int p2), (4, .int p3)]) hx hb dX7_many_1 hl (by decide) rfl (fun ls hl => ?_)
  refine lv_iconst (v := (nI 0)) hx hb dX7_many_3 (by decide) ?_
  refine lv_istore (lv' := [(6, .int (nI 0)), (5, .int (nI 0)), (0, .ref h0), (1, .long p1), (3, .int p2), (4, .int p3)]) hx hb dX7_many_4 hl (by decide) rfl (fun ls hl => ?_)
  exact L6 xN ((nI 0), (nI 0)) hf ls (lv_sub hl [2, 3, 4, 5, 1, 0] rfl)
def f_X7_heardBits_L6 (v_laws : Int32) (v_inForce : Int32) (v_depth : Int32) (v_kind : (Nat → Int32)) (v_own : (Nat → Int32)) (p1 : Int64) (p2 : Int32) (s6 : Int64 × Int32) : Option ((Int64) ⊕ (Int64 × Int32)) :=
  if p2 ≤ s6.2 then
    some (.inl s6.1)
  else
  (f_X7_isHeard v_laws v_inForce v_depth v_kind v_own p1 p2 s6.2).bind fun u2 =>
  if u2 = (nI 0) then
    some (.inr (s6.1, s6.2 + (nI 1)))
  else
  some (.inr (s6.1 ||| (xlshl (lN 1) s6.2), s6.2 + (nI 1)))
def f_X7_heardBits (v_laws : Int32) (v_inForce : Int32) (v_depth : Int32) (v_kind : (Nat → Int32)) (v_own : (Nat → Int32)) (p1 : Int64) (p2 : Int32) : Option (Int64) :=
  xloop (f_X7_heardBits_L6 v_laws v_inForce v_depth v_kind v_own p1 p2) xN ((lN 0), (nI 0))
set_option maxHeartbeats 4000000 in
set_option maxRecDepth 100000 in
theorem c_X7_heardBits {l : Launch} {X : xG} {h0 h1 h2 g0 g1 g2 g3 g4 g5 g6 g7 g8 : Nat} {v_laws : Int32} {v_inForce : Int32} {v_depth : Int32} {v_miss : Int32} {v_ring : Int64} {v_size : Int32} {v_people : Int32} {v_seed : Int32} {v_taped : Int32} {v_from : Int32} {v_to : Int32} {v_token : Int32} {v_value : Int32} {v_imaged : Int32} {v_oldRing : Int64} {v_aheadRing : Int64} {v_kind : (Nat → Int32)} {v_own : (Nat → Int32)} {p1 : Int64} {p2 : Int32} {u : Int64} (hf : f_X7_heardBits v_laws v_inForce v_depth v_kind v_own p1 p2 = some u) : Met l yX7_heardBits (xw yX7_heardBits cX7_heardBits 7 (some .long)) (xrm 5 120) (xPc [.ref h0, .long p1, .int p2] X [(h0, xO 7 [.int v_laws, .ref h1, .ref h2, .int v_inForce, .int v_depth, .int v_miss, .long v_ring, .int v_size, .int v_people, .ref g0, .int v_seed, .int v_taped, .ref g1, .int v_from, .int v_to, .int v_token, .int v_value, .ref g2, .ref g3, .ref g4, .ref g5, .int v_imaged, .ref g6, .long v_oldRing, .ref g7, .long v_aheadRing, .ref g8]), (h1, xI X 6 v_kind), (h2, xI X 6 v_own)]) (xQ True (.returned (some (.long u)))) 0 0 xNo := by
  refine xMet (n := 2) md_X7_heardBits.1 (Nat.le_of_ble_eq_true rfl) ?_
  intro p e s m args below meth c ls A hC hr hlk hH hl
  have hl : lv_has ls 7 [(0, .ref h0), (1, .long p1), (3, .int p2)] := hl
  have hx := hC.1
  have hb := hC.2.1
  have L6 : ∀ (n : Nat) (s6 : Int64 × Int32), xloop (f_X7_heardBits_L6 v_laws v_inForce v_depth v_kind v_own p1 p2) n s6 = some u → ∀ (ls : Array Slot), lv_has ls 7 [(0, .ref h0), (1, .long p1), (3, .int p2), (4, .long s6.1), (6, .int s6.2)] → W p l e (xrm 5 120) s m args below meth c s.heap [] 0 0 (MQ below (xQ True (.returned (some (.long u)))) args s 0 0 xNo) (F0 m 6 ls []) := by
    intro  n
    induction n with
    | zero => intro s6 hf; exact xloop_0 hf
    | succ n ih6 =>
      intro s6 hf ls hl
      obtain ⟨o6, hf, ho6⟩ := xloop_s hf
      refine lv_iload hx hb dX7_heardBits_6 (lv_at hl 4 rfl) ?_
      refine lv_iload_n hx hb dX7_heardBits_8 rfl (lv_at hl 2 rfl) ?_
      refine lv_icmp_ge (tgt := 38) hx hb dX7_heardBits_9 (by decide) (fun c1 => ?_) (fun c1 => ?_)
      · have hf := xt c1 hf
        refine lv_lload hx hb dX7_heardBits_38 (lv_at hl 3 rfl) ?_
        have hf := xo_ret hf ho6
        exact x_retl hC hr hlk trivial hf dX7_heardBits_40
      · have hf := xe c1 hf
        refine lv_aload_n hx hb dX7_heardBits_12 rfl (lv_at hl 0 rfl) ?_
        refine lv_lload_n hx hb dX7_heardBits_13 rfl (lv_at hl 1 rfl) ?_
        refine lv_iload_n hx hb dX7_heardBits_14 rfl (lv_at hl 2 rfl) ?_
        refine lv_iload hx hb dX7_heardBits_15 (lv_at hl 4 rfl) ?_
        obtain ⟨u2, hf2, hf⟩ := xb hf
        refine x_ran (x_runV (q0 := 0) (rest := []) (As := [.long p1, .int p2, .int s6.2]) hC mw_732 md_X7_isHeard (c_X7_isHeard (X := X) hf2) hH [0, 1, 2] rfl (by decide) rfl rfl rfl hl.1 rfl rfl (Nat.le_of_ble_eq_true rfl) dX7_heardBits_17 ⟨Nat.le_of_ble_eq_true rfl, Nat.le_of_ble_eq_true rfl⟩ ⟨rfl, rfl⟩ ⟨Nat.le_refl _, Nat.le_refl _⟩) rfl (fun hz2 => ?_)
        refine lv_if_eq (tgt := 32) hx hb dX7_heardBits_20 (by decide) (fun c3 => ?_) (fun c3 => ?_)
        · have hf := xt c3 hf
          refine lv_iinc (v := s6.2 + (nI 1)) (lv' := [(6, .int (s6.2 + (nI 1))), (0, .ref h0), (1, .long p1), (3, .int p2), (4, .long s6.1)]) hx hb dX7_heardBits_32 hl (k := 4) rfl rfl (by decide) rfl (fun ls hl => ?_)
          refine lv_goto (tgt := 6) hx hb dX7_heardBits_35 (by decide) ?_
          have hf := xo_go hf ho6
          exact ih6 (s6.1, s6.2 + (nI 1)) hf ls (lv_sub hl [1, 2, 3, 4, 0] rfl)
        · have hf := xe c3 hf
          refine lv_lload hx hb dX7_heardBits_23 (lv_at hl 3 rfl) ?_
          refine lv_lconst (v := (lN 1)) hx hb dX7_heardBits_25 (by decide) ?_
          refine lv_iload hx hb dX7_heardBits_26 (lv_at hl 4 rfl) ?_
          refine x_lshl hx hb dX7_heardBits_28 ?_
          refine lv_lor hx hb dX7_heardBits_29 ?_
          refine lv_lstore (lv' := [(4, .long (s6.1 ||| (xlshl (lN 1) s6.2))), (0, .ref h0), (1, .long p1), (3, .int p2), (6, .int s6.2)]) hx hb dX7_heardBits_30 hl (by decide) rfl (fun ls hl => ?_)
          refine lv_iinc (v := s6.2 + (nI 1)) (lv' := [(6, .int (s6.2 + (nI 1))), (4, .long (s6.1 ||| (xlshl (lN 1) s6.2))), (0, .ref h0), (1, .long p1), (3, .int p2)]) hx hb dX7_heardBits_32 hl (k := 4) rfl rfl (by decide) rfl (fun ls hl => ?_)
          refine lv_goto (tgt := 6) hx hb dX7_heardBits_35 (by decide) ?_
          have hf := xo_go hf ho6
          exact ih6 (s6.1 ||| (xlshl (lN 1) s6.2), s6.2 + (nI 1)) hf ls (lv_sub hl [2, 3, 4, 1, 0] rfl)
  refine lv_lconst (v := (lN 0)) hx hb dX7_heardBits_0 (by decide) ?_
  refine lv_lstore (lv' := [(4, .long (lN 0)), (0, .ref h0), (1, .long p1), (3, .int p2)]) hx hb dX7_heardBits_1 hl (by decide) rfl (fun ls hl => ?_)
  refine lv_iconst (v := (nI 0)) hx hb dX7_heardBits_3 (by decide) ?_
  refine lv_istore (lv' := [(6, .int (nI 0)), (4, .long (lN 0)), (0, .ref h0), (1, .long p1), (3, .int p2)]) hx hb dX7_heardBits_4 hl (by decide) rfl (fun ls hl => ?_)
  exact L6 xN ((lN 0), (nI 0)) hf ls (lv_sub hl [2, 3, 4, 1, 0] rfl)
def f_X7_strikes (v_laws : Int32) (v_inForce : Int32) (v_ring : Int64) (v_size : Int32) (v_kind : (Nat → Int32)) (v_own : (Nat → Int32)) (v_refusals : (Nat → Int32)) (p1 : Int32) : Option (Int32 × (Nat → Int32)) :=
  (f_X7_isStep v_size p1).bind fun u1 =>
  if u1 = (nI 0) then
    (f_X7_no v_refusals (-2 : Int32)).bind fun u7 =>
    some (u7.1, u7.2)
  else
  if v_laws = (nI 0) then
    (f_X7_no v_refusals (-5 : Int32)).bind fun u6 =>
    some (u6.1, u6.2)
  else
  (f_X7_strikesNow v_laws v_inForce v_kind v_own v_ring v_size p1).bind fun u4 =>
  if u4 = (nI 0) then
    some ((nI 0), v_refusals)
  else
  some ((nI 1), v_refusals)
set_option maxHeartbeats 4000000 in
set_option maxRecDepth 100000 in
theorem c_X7_strikes {l : Launch} {X : xG} {h0 h1 h2 h3 g0 g1 g2 g3 g4 g5 g6 g7 : Nat} {v_laws : Int32} {v_inForce : Int32} {v_depth : Int32} {v_miss : Int32} {v_ring : Int64} {v_size : Int32} {v_people : Int32} {v_seed : Int32} {v_taped : Int32} {v_from : Int32} {v_to : Int32} {v_token : Int32} {v_value : Int32} {v_imaged : Int32} {v_oldRing : Int64} {v_aheadRing : Int64} {v_kind : (Nat → Int32)} {v_own : (Nat → Int32)} {v_refusals : (Nat → Int32)} {p1 : Int32} {u : Int32 × (Nat → Int32)} (hf : f_X7_strikes v_laws v_inForce v_ring v_size v_kind v_own v_refusals p1 = some u) : Met l yX7_strikes (xw yX7_strikes cX7_strikes 2 (some .int)) (xrm 4 96) (xPc [.ref h0, .int p1] X [(h0, xO 7 [.int v_laws, .ref h1, .ref h2, .int v_inForce, .int v_depth, .int v_miss, .long v_ring, .int v_size, .int v_people, .ref g0, .int v_seed, .int v_taped, .ref g1, .int v_from, .int v_to, .int v_token, .int v_value, .ref g2, .ref g3, .ref g4, .ref h3, .int v_imaged, .ref g5, .long v_oldRing, .ref g6, .long v_aheadRing, .ref g7]), (h1, xI X 6 v_kind), (h2, xI X 6 v_own), (h3, xI X 7 v_refusals)]) (xQw True (.returned (some (.int u.1))) X [(h0, xO 7 [.int v_laws, .ref h1, .ref h2, .int v_inForce, .int v_depth, .int v_miss, .long v_ring, .int v_size, .int v_people, .ref g0, .int v_seed, .int v_taped, .ref g1, .int v_from, .int v_to, .int v_token, .int v_value, .ref g2, .ref g3, .ref g4, .ref h3, .int v_imaged, .ref g5, .long v_oldRing, .ref g6, .long v_aheadRing, .ref g7]), (h1, xI X 6 v_kind), (h2, xI X 6 v_own), (h3, xI X 7 u.2)] (xAs [(h0, xO 7 [.int v_laws, .ref h1, .ref h2, .int v_inForce, .int v_depth, .int v_miss, .long v_ring, .int v_size, .int v_people, .ref g0, .int v_seed, .int v_taped, .ref g1, .int v_from, .int v_to, .int v_token, .int v_value, .ref g2, .ref g3, .ref g4, .ref h3, .int v_imaged, .ref g5, .long v_oldRing, .ref g6, .long v_aheadRing, .ref g7]), (h1, xI X 6 v_kind), (h2, xI X 6 v_own), (h3, xI X 7 v_refusals)])) 0 0 (xAs [(h0, xO 7 [.int v_laws, .ref h1, .ref h2, .int v_inForce, .int v_depth, .int v_miss, .long v_ring, .int v_size, .int v_people, .ref g0, .int v_seed, .int v_taped, .ref g1, .int v_from, .int v_to, .int v_token, .int v_value, .ref g2, .ref g3, .ref g4, .ref h3, .int v_imaged, .ref g5, .long v_oldRing, .ref g6, .long v_aheadRing, .ref g7]), (h1, xI X 6 v_kind), (h2, xI X 6 v_own), (h3, xI X 7 v_refusals)]) := by
  refine xMetw (Qc := fun A => xQw True (.returned (some (.int u.1))) X [(h0, xO 7 [.int v_laws, .ref h1, .ref h2, .int v_inForce, .int v_depth, .int v_miss, .long v_ring, .int v_size, .int v_people, .ref g0, .int v_seed, .int v_taped, .ref g1, .int v_from, .int v_to, .int v_token, .int v_value, .ref g2, .ref g3, .ref g4, .ref h3, .int v_imaged, .ref g5, .long v_oldRing, .ref g6, .long v_aheadRing, .ref g7]), (h1, xI X 6 v_kind), (h2, xI X 6 v_own), (h3, xI X 7 u.2)] A) (n := 1) md_X7_strikes.1 (Nat.le_of_ble_eq_true rfl) ?_
  intro p e s m args below meth c ls A hC hr hlk hH hl
  have hl : lv_has ls 2 [(0, .ref h0), (1, .int p1)] := hl
  have hx := hC.1
  have hb := hC.2.1
  refine lv_aload_n hx hb dX7_strikes_0 rfl (lv_at hl 0 rfl) ?_
  refine lv_iload_n hx hb dX7_strikes_1 rfl (lv_at hl 1 rfl) ?_
  obtain ⟨u1, hf1, hf⟩ := xb hf
  refine x_ran (x_runV (q0 := 0) (rest := []) (As := [.int p1]) hC mw_685 md_X7_isStep (c_X7_isStep (X := X) hf1) hH [0] rfl (by decide) rfl rfl rfl hl.1 rfl rfl (Nat.le_of_ble_eq_true rfl) dX7_strikes_2 ⟨Nat.le_of_ble_eq_true rfl, Nat.le_of_ble_eq_true rfl⟩ ⟨rfl, rfl⟩ ⟨Nat.le_refl _, Nat.le_refl _⟩) rfl (fun hz1 => ?_)
  refine lv_if_ne (tgt := 15) hx hb dX7_strikes_5 (by decide) (fun c2 => ?_) (fun c2 => ?_)
  · have hf := xe c2 hf
    refine lv_aload_n hx hb dX7_strikes_15 rfl (lv_at hl 0 rfl) ?_
    refine x_get hC fd_RX7_52 hH.1 0 rfl rfl dX7_strikes_16 ?_
    refine lv_if_ne (tgt := 29) hx hb dX7_strikes_19 (by decide) (fun c3 => ?_) (fun c3 => ?_)
    · have hf := xe c3 hf
      refine lv_aload_n hx hb dX7_strikes_29 rfl (lv_at hl 0 rfl) ?_
      refine lv_aload_n hx hb dX7_strikes_30 rfl (lv_at hl 0 rfl) ?_
      refine x_get hC fd_RX7_90 hH.1 0 rfl rfl dX7_strikes_31 ?_
      refine lv_aload_n hx hb dX7_strikes_34 rfl (lv_at hl 0 rfl) ?_
      refine x_get hC fd_RX7_62 hH.1 0 rfl rfl dX7_strikes_35 ?_
      refine lv_iload_n hx hb dX7_strikes_38 rfl (lv_at hl 1 rfl) ?_
      obtain ⟨u4, hf4, hf⟩ := xb hf
      refine x_ran (x_runV (q0 := 0) (rest := []) (As := [.long v_ring, .int v_size, .int p1]) hC mw_702 md_X7_strikesNow (c_X7_strikesNow (X := X) hf4) hH [0, 1, 2] rfl (by decide) rfl rfl rfl hl.1 rfl rfl (Nat.le_of_ble_eq_true rfl) dX7_strikes_39 ⟨Nat.le_of_ble_eq_true rfl, Nat.le_of_ble_eq_true rfl⟩ ⟨rfl, rfl⟩ ⟨Nat.le_refl _, Nat.le_refl _⟩) rfl (fun hz4 => ?_)
      refine lv_if_eq (tgt := 49) hx hb dX7_strikes_42 (by decide) (fun c5 => ?_) (fun c5 => ?_)
      · have hf := xt c5 hf
        refine lv_iconst (v := (nI 0)) hx hb dX7_strikes_49 (by decide) ?_
        exact x_retiw (φ := fun _ => True) (f := fun u : Int32 × (Nat → Int32) => u.1) (wf := fun u : Int32 × (Nat → Int32) => [(h0, xO 7 [.int v_laws, .ref h1, .ref h2, .int v_inForce, .int v_depth, .int v_miss, .long v_ring, .int v_size, .int v_people, .ref g0, .int v_seed, .int v_taped, .ref g1, .int v_from, .int v_to, .int v_token, .int v_value, .ref g2, .ref g3, .ref g4, .ref h3, .int v_imaged, .ref g5, .long v_oldRing, .ref g6, .long v_aheadRing, .ref g7]), (h1, xI X 6 v_kind), (h2, xI X 6 v_own), (h3, xI X 7 u.2)]) hC hr hlk trivial hf hH rfl rfl dX7_strikes_50
      · have hf := xe c5 hf
        refine lv_iconst (v := (nI 1)) hx hb dX7_strikes_45 (by decide) ?_
        refine lv_goto (tgt := 50) hx hb dX7_strikes_46 (by decide) ?_
        exact x_retiw (φ := fun _ => True) (f := fun u : Int32 × (Nat → Int32) => u.1) (wf := fun u : Int32 × (Nat → Int32) => [(h0, xO 7 [.int v_laws, .ref h1, .ref h2, .int v_inForce, .int v_depth, .int v_miss, .long v_ring, .int v_size, .int v_people, .ref g0, .int v_seed, .int v_taped, .ref g1, .int v_from, .int v_to, .int v_token, .int v_value, .ref g2, .ref g3, .ref g4, .ref h3, .int v_imaged, .ref g5, .long v_oldRing, .ref g6, .long v_aheadRing, .ref g7]), (h1, xI X 6 v_kind), (h2, xI X 6 v_own), (h3, xI X 7 u.2)]) hC hr hlk trivial hf hH rfl rfl dX7_strikes_50
    · have hf := xt c3 hf
      refine lv_aload_n hx hb dX7_strikes_22 rfl (lv_at hl 0 rfl) ?_
      refine lv_bipush (v := (-5 : Int32)) hx hb dX7_strikes_23 (by decide) ?_
      obtain ⟨u6, hf6, hf⟩ := xb hf
      refine x_ranw (ws' := [(h0, xO 7 [.int v_laws, .ref h1, .ref h2, .int v_inForce, .int v_depth, .int v_miss, .long v_ring, .int v_size, .int v_people, .ref g0, .int v_seed, .int v_taped, .ref g1, .int v_from, .int v_to, .int v_token, .int v_value, .ref g2, .ref g3, .ref g4, .ref h3, .int v_imaged, .ref g5, .long v_oldRing, .ref g6, .long v_aheadRing, .ref g7]), (h1, xI X 6 v_kind), (h2, xI X 6 v_own), (h3, xI X 7 u6.2)]) (x_runV (q0 := 0) (rest := []) (As := [.int (-5 : Int32)]) hC mw_143 md_X7_no (c_X7_no (X := X) hf6) hH [0, 3] rfl (by decide) rfl rfl rfl hl.1 rfl rfl (Nat.le_of_ble_eq_true rfl) dX7_strikes_25 ⟨Nat.le_of_ble_eq_true rfl, Nat.le_of_ble_eq_true rfl⟩ ⟨rfl, rfl⟩ ⟨Nat.le_refl _, Nat.le_refl _⟩) hH [0, 3] rfl rfl rfl rfl rfl (fun hz6 H locs hH => ?_)
      exact x_retiw (φ := fun _ => True) (f := fun u : Int32 × (Nat → Int32) => u.1) (wf := fun u : Int32 × (Nat → Int32) => [(h0, xO 7 [.int v_laws, .ref h1, .ref h2, .int v_inForce, .int v_depth, .int v_miss, .long v_ring, .int v_size, .int v_people, .ref g0, .int v_seed, .int v_taped, .ref g1, .int v_from, .int v_to, .int v_token, .int v_value, .ref g2, .ref g3, .ref g4, .ref h3, .int v_imaged, .ref g5, .long v_oldRing, .ref g6, .long v_aheadRing, .ref g7]), (h1, xI X 6 v_kind), (h2, xI X 6 v_own), (h3, xI X 7 u.2)]) hC hr hlk trivial hf hH rfl rfl dX7_strikes_28
  · have hf := xt c2 hf
    refine lv_aload_n hx hb dX7_strikes_8 rfl (lv_at hl 0 rfl) ?_
    refine lv_bipush (v := (-2 : Int32)) hx hb dX7_strikes_9 (by decide) ?_
    obtain ⟨u7, hf7, hf⟩ := xb hf
    refine x_ranw (ws' := [(h0, xO 7 [.int v_laws, .ref h1, .ref h2, .int v_inForce, .int v_depth, .int v_miss, .long v_ring, .int v_size, .int v_people, .ref g0, .int v_seed, .int v_taped, .ref g1, .int v_from, .int v_to, .int v_token, .int v_value, .ref g2, .ref g3, .ref g4, .ref h3, .int v_imaged, .ref g5, .long v_oldRing, .ref g6, .long v_aheadRing, .ref g7]), (h1, xI X 6 v_kind), (h2, xI X 6 v_own), (h3, xI X 7 u7.2)]) (x_runV (q0 := 0) (rest := []) (As := [.int (-2 : Int32)]) hC mw_143 md_X7_no (c_X7_no (X := X) hf7) hH [0, 3] rfl (by decide) rfl rfl rfl hl.1 rfl rfl (Nat.le_of_ble_eq_true rfl) dX7_strikes_11 ⟨Nat.le_of_ble_eq_true rfl, Nat.le_of_ble_eq_true rfl⟩ ⟨rfl, rfl⟩ ⟨Nat.le_refl _, Nat.le_refl _⟩) hH [0, 3] rfl rfl rfl rfl rfl (fun hz7 H locs hH => ?_)
    exact x_retiw (φ := fun _ => True) (f := fun u : Int32 × (Nat → Int32) => u.1) (wf := fun u : Int32 × (Nat → Int32) => [(h0, xO 7 [.int v_laws, .ref h1, .ref h2, .int v_inForce, .int v_depth, .int v_miss, .long v_ring, .int v_size, .int v_people, .ref g0, .int v_seed, .int v_taped, .ref g1, .int v_from, .int v_to, .int v_token, .int v_value, .ref g2, .ref g3, .ref g4, .ref h3, .int v_imaged, .ref g5, .long v_oldRing, .ref g6, .long v_aheadRing, .ref g7]), (h1, xI X 6 v_kind), (h2, xI X 6 v_own), (h3, xI X 7 u.2)]) hC hr hlk trivial hf hH rfl rfl dX7_strikes_14
def f_X7_strikesBy (v_laws : Int32) (v_ring : Int64) (v_size : Int32) (v_kind : (Nat → Int32)) (v_own : (Nat → Int32)) (v_refusals : (Nat → Int32)) (p1 : Int32) (p2 : Int32) : Option (Int32 × (Nat → Int32)) :=
  (f_X7_isLaw v_laws p1).bind fun u1 =>
  if u1 = (nI 0) then
    (f_X7_no v_refusals (-2 : Int32)).bind fun u3 =>
    some (u3.1, u3.2)
  else
  (f_X7_isStep v_size p2).bind fun u4 =>
  if u4 = (nI 0) then
    (f_X7_no v_refusals (-2 : Int32)).bind fun u8 =>
    some (u8.1, u8.2)
  else
  (f_X7_strikesAt v_kind v_own p1 v_ring v_size p2).bind fun u6 =>
  if u6 = (nI 0) then
    some ((nI 0), v_refusals)
  else
  some ((nI 1), v_refusals)
set_option maxHeartbeats 4000000 in
set_option maxRecDepth 100000 in
theorem c_X7_strikesBy {l : Launch} {X : xG} {h0 h1 h2 h3 g0 g1 g2 g3 g4 g5 g6 g7 : Nat} {v_laws : Int32} {v_inForce : Int32} {v_depth : Int32} {v_miss : Int32} {v_ring : Int64} {v_size : Int32} {v_people : Int32} {v_seed : Int32} {v_taped : Int32} {v_from : Int32} {v_to : Int32} {v_token : Int32} {v_value : Int32} {v_imaged : Int32} {v_oldRing : Int64} {v_aheadRing : Int64} {v_kind : (Nat → Int32)} {v_own : (Nat → Int32)} {v_refusals : (Nat → Int32)} {p1 : Int32} {p2 : Int32} {u : Int32 × (Nat → Int32)} (hf : f_X7_strikesBy v_laws v_ring v_size v_kind v_own v_refusals p1 p2 = some u) : Met l yX7_strikesBy (xw yX7_strikesBy cX7_strikesBy 3 (some .int)) (xrm 3 72) (xPc [.ref h0, .int p1, .int p2] X [(h0, xO 7 [.int v_laws, .ref h1, .ref h2, .int v_inForce, .int v_depth, .int v_miss, .long v_ring, .int v_size, .int v_people, .ref g0, .int v_seed, .int v_taped, .ref g1, .int v_from, .int v_to, .int v_token, .int v_value, .ref g2, .ref g3, .ref g4, .ref h3, .int v_imaged, .ref g5, .long v_oldRing, .ref g6, .long v_aheadRing, .ref g7]), (h1, xI X 6 v_kind), (h2, xI X 6 v_own), (h3, xI X 7 v_refusals)]) (xQw True (.returned (some (.int u.1))) X [(h0, xO 7 [.int v_laws, .ref h1, .ref h2, .int v_inForce, .int v_depth, .int v_miss, .long v_ring, .int v_size, .int v_people, .ref g0, .int v_seed, .int v_taped, .ref g1, .int v_from, .int v_to, .int v_token, .int v_value, .ref g2, .ref g3, .ref g4, .ref h3, .int v_imaged, .ref g5, .long v_oldRing, .ref g6, .long v_aheadRing, .ref g7]), (h1, xI X 6 v_kind), (h2, xI X 6 v_own), (h3, xI X 7 u.2)] (xAs [(h0, xO 7 [.int v_laws, .ref h1, .ref h2, .int v_inForce, .int v_depth, .int v_miss, .long v_ring, .int v_size, .int v_people, .ref g0, .int v_seed, .int v_taped, .ref g1, .int v_from, .int v_to, .int v_token, .int v_value, .ref g2, .ref g3, .ref g4, .ref h3, .int v_imaged, .ref g5, .long v_oldRing, .ref g6, .long v_aheadRing, .ref g7]), (h1, xI X 6 v_kind), (h2, xI X 6 v_own), (h3, xI X 7 v_refusals)])) 0 0 (xAs [(h0, xO 7 [.int v_laws, .ref h1, .ref h2, .int v_inForce, .int v_depth, .int v_miss, .long v_ring, .int v_size, .int v_people, .ref g0, .int v_seed, .int v_taped, .ref g1, .int v_from, .int v_to, .int v_token, .int v_value, .ref g2, .ref g3, .ref g4, .ref h3, .int v_imaged, .ref g5, .long v_oldRing, .ref g6, .long v_aheadRing, .ref g7]), (h1, xI X 6 v_kind), (h2, xI X 6 v_own), (h3, xI X 7 v_refusals)]) := by
  refine xMetw (Qc := fun A => xQw True (.returned (some (.int u.1))) X [(h0, xO 7 [.int v_laws, .ref h1, .ref h2, .int v_inForce, .int v_depth, .int v_miss, .long v_ring, .int v_size, .int v_people, .ref g0, .int v_seed, .int v_taped, .ref g1, .int v_from, .int v_to, .int v_token, .int v_value, .ref g2, .ref g3, .ref g4, .ref h3, .int v_imaged, .ref g5, .long v_oldRing, .ref g6, .long v_aheadRing, .ref g7]), (h1, xI X 6 v_kind), (h2, xI X 6 v_own), (h3, xI X 7 u.2)] A) (n := 2) md_X7_strikesBy.1 (Nat.le_of_ble_eq_true rfl) ?_
  intro p e s m args below meth c ls A hC hr hlk hH hl
  have hl : lv_has ls 3 [(0, .ref h0), (1, .int p1), (2, .int p2)] := hl
  have hx := hC.1
  have hb := hC.2.1
  refine lv_aload_n hx hb dX7_strikesBy_0 rfl (lv_at hl 0 rfl) ?_
  refine lv_iload_n hx hb dX7_strikesBy_1 rfl (lv_at hl 1 rfl) ?_
  obtain ⟨u1, hf1, hf⟩ := xb hf
  refine x_ran (x_runV (q0 := 0) (rest := []) (As := [.int p1]) hC mw_243 md_X7_isLaw (c_X7_isLaw (X := X) hf1) hH [0] rfl (by decide) rfl rfl rfl hl.1 rfl rfl (Nat.le_of_ble_eq_true rfl) dX7_strikesBy_2 ⟨Nat.le_of_ble_eq_true rfl, Nat.le_of_ble_eq_true rfl⟩ ⟨rfl, rfl⟩ ⟨Nat.le_refl _, Nat.le_refl _⟩) rfl (fun hz1 => ?_)
  refine lv_if_eq (tgt := 16) hx hb dX7_strikesBy_5 (by decide) (fun c2 => ?_) (fun c2 => ?_)
  · have hf := xt c2 hf
    refine lv_aload_n hx hb dX7_strikesBy_16 rfl (lv_at hl 0 rfl) ?_
    refine lv_bipush (v := (-2 : Int32)) hx hb dX7_strikesBy_17 (by decide) ?_
    obtain ⟨u3, hf3, hf⟩ := xb hf
    refine x_ranw (ws' := [(h0, xO 7 [.int v_laws, .ref h1, .ref h2, .int v_inForce, .int v_depth, .int v_miss, .long v_ring, .int v_size, .int v_people, .ref g0, .int v_seed, .int v_taped, .ref g1, .int v_from, .int v_to, .int v_token, .int v_value, .ref g2, .ref g3, .ref g4, .ref h3, .int v_imaged, .ref g5, .long v_oldRing, .ref g6, .long v_aheadRing, .ref g7]), (h1, xI X 6 v_kind), (h2, xI X 6 v_own), (h3, xI X 7 u3.2)]) (x_runV (q0 := 0) (rest := []) (As := [.int (-2 : Int32)]) hC mw_143 md_X7_no (c_X7_no (X := X) hf3) hH [0, 3] rfl (by decide) rfl rfl rfl hl.1 rfl rfl (Nat.le_of_ble_eq_true rfl) dX7_strikesBy_19 ⟨Nat.le_of_ble_eq_true rfl, Nat.le_of_ble_eq_true rfl⟩ ⟨rfl, rfl⟩ ⟨Nat.le_refl _, Nat.le_refl _⟩) hH [0, 3] rfl rfl rfl rfl rfl (fun hz3 H locs hH => ?_)
    exact x_retiw (φ := fun _ => True) (f := fun u : Int32 × (Nat → Int32) => u.1) (wf := fun u : Int32 × (Nat → Int32) => [(h0, xO 7 [.int v_laws, .ref h1, .ref h2, .int v_inForce, .int v_depth, .int v_miss, .long v_ring, .int v_size, .int v_people, .ref g0, .int v_seed, .int v_taped, .ref g1, .int v_from, .int v_to, .int v_token, .int v_value, .ref g2, .ref g3, .ref g4, .ref h3, .int v_imaged, .ref g5, .long v_oldRing, .ref g6, .long v_aheadRing, .ref g7]), (h1, xI X 6 v_kind), (h2, xI X 6 v_own), (h3, xI X 7 u.2)]) hC hr hlk trivial hf hH rfl rfl dX7_strikesBy_22
  · have hf := xe c2 hf
    refine lv_aload_n hx hb dX7_strikesBy_8 rfl (lv_at hl 0 rfl) ?_
    refine lv_iload_n hx hb dX7_strikesBy_9 rfl (lv_at hl 2 rfl) ?_
    obtain ⟨u4, hf4, hf⟩ := xb hf
    refine x_ran (x_runV (q0 := 0) (rest := []) (As := [.int p2]) hC mw_685 md_X7_isStep (c_X7_isStep (X := X) hf4) hH [0] rfl (by decide) rfl rfl rfl hl.1 rfl rfl (Nat.le_of_ble_eq_true rfl) dX7_strikesBy_10 ⟨Nat.le_of_ble_eq_true rfl, Nat.le_of_ble_eq_true rfl⟩ ⟨rfl, rfl⟩ ⟨Nat.le_refl _, Nat.le_refl _⟩) rfl (fun hz4 => ?_)
    refine lv_if_ne (tgt := 23) hx hb dX7_strikesBy_13 (by decide) (fun c5 => ?_) (fun c5 => ?_)
    · have hf := xe c5 hf
      refine lv_aload_n hx hb dX7_strikesBy_23 rfl (lv_at hl 0 rfl) ?_
      refine lv_iload_n hx hb dX7_strikesBy_24 rfl (lv_at hl 1 rfl) ?_
      refine lv_aload_n hx hb dX7_strikesBy_25 rfl (lv_at hl 0 rfl) ?_
      refine x_get hC fd_RX7_90 hH.1 0 rfl rfl dX7_strikesBy_26 ?_
      refine lv_aload_n hx hb dX7_strikesBy_29 rfl (lv_at hl 0 rfl) ?_
      refine x_get hC fd_RX7_62 hH.1 0 rfl rfl dX7_strikesBy_30 ?_
      refine lv_iload_n hx hb dX7_strikesBy_33 rfl (lv_at hl 2 rfl) ?_
      obtain ⟨u6, hf6, hf⟩ := xb hf
      refine x_ran (x_runV (q0 := 0) (rest := []) (As := [.int p1, .long v_ring, .int v_size, .int p2]) hC mw_329 md_X7_strikesAt (c_X7_strikesAt (X := X) hf6) hH [0, 1, 2] rfl (by decide) rfl rfl rfl hl.1 rfl rfl (Nat.le_of_ble_eq_true rfl) dX7_strikesBy_34 ⟨Nat.le_of_ble_eq_true rfl, Nat.le_of_ble_eq_true rfl⟩ ⟨rfl, rfl⟩ ⟨Nat.le_refl _, Nat.le_refl _⟩) rfl (fun hz6 => ?_)
      refine lv_if_eq (tgt := 44) hx hb dX7_strikesBy_37 (by decide) (fun c7 => ?_) (fun c7 => ?_)
      · have hf := xt c7 hf
        refine lv_iconst (v := (nI 0)) hx hb dX7_strikesBy_44 (by decide) ?_
        exact x_retiw (φ := fun _ => True) (f := fun u : Int32 × (Nat → Int32) => u.1) (wf := fun u : Int32 × (Nat → Int32) => [(h0, xO 7 [.int v_laws, .ref h1, .ref h2, .int v_inForce, .int v_depth, .int v_miss, .long v_ring, .int v_size, .int v_people, .ref g0, .int v_seed, .int v_taped, .ref g1, .int v_from, .int v_to, .int v_token, .int v_value, .ref g2, .ref g3, .ref g4, .ref h3, .int v_imaged, .ref g5, .long v_oldRing, .ref g6, .long v_aheadRing, .ref g7]), (h1, xI X 6 v_kind), (h2, xI X 6 v_own), (h3, xI X 7 u.2)]) hC hr hlk trivial hf hH rfl rfl dX7_strikesBy_45
      · have hf := xe c7 hf
        refine lv_iconst (v := (nI 1)) hx hb dX7_strikesBy_40 (by decide) ?_
        refine lv_goto (tgt := 45) hx hb dX7_strikesBy_41 (by decide) ?_
        exact x_retiw (φ := fun _ => True) (f := fun u : Int32 × (Nat → Int32) => u.1) (wf := fun u : Int32 × (Nat → Int32) => [(h0, xO 7 [.int v_laws, .ref h1, .ref h2, .int v_inForce, .int v_depth, .int v_miss, .long v_ring, .int v_size, .int v_people, .ref g0, .int v_seed, .int v_taped, .ref g1, .int v_from, .int v_to, .int v_token, .int v_value, .ref g2, .ref g3, .ref g4, .ref h3, .int v_imaged, .ref g5, .long v_oldRing, .ref g6, .long v_aheadRing, .ref g7]), (h1, xI X 6 v_kind), (h2, xI X 6 v_own), (h3, xI X 7 u.2)]) hC hr hlk trivial hf hH rfl rfl dX7_strikesBy_45
    · have hf := xt c5 hf
      refine lv_aload_n hx hb dX7_strikesBy_16 rfl (lv_at hl 0 rfl) ?_
      refine lv_bipush (v := (-2 : Int32)) hx hb dX7_strikesBy_17 (by decide) ?_
      obtain ⟨u8, hf8, hf⟩ := xb hf
      refine x_ranw (ws' := [(h0, xO 7 [.int v_laws, .ref h1, .ref h2, .int v_inForce, .int v_depth, .int v_miss, .long v_ring, .int v_size, .int v_people, .ref g0, .int v_seed, .int v_taped, .ref g1, .int v_from, .int v_to, .int v_token, .int v_value, .ref g2, .ref g3, .ref g4, .ref h3, .int v_imaged, .ref g5, .long v_oldRing, .ref g6, .long v_aheadRing, .ref g7]), (h1, xI X 6 v_kind), (h2, xI X 6 v_own), (h3, xI X 7 u8.2)]) (x_runV (q0 := 0) (rest := []) (As := [.int (-2 : Int32)]) hC mw_143 md_X7_no (c_X7_no (X := X) hf8) hH [0, 3] rfl (by decide) rfl rfl rfl hl.1 rfl rfl (Nat.le_of_ble_eq_true rfl) dX7_strikesBy_19 ⟨Nat.le_of_ble_eq_true rfl, Nat.le_of_ble_eq_true rfl⟩ ⟨rfl, rfl⟩ ⟨Nat.le_refl _, Nat.le_refl _⟩) hH [0, 3] rfl rfl rfl rfl rfl (fun hz8 H locs hH => ?_)
      exact x_retiw (φ := fun _ => True) (f := fun u : Int32 × (Nat → Int32) => u.1) (wf := fun u : Int32 × (Nat → Int32) => [(h0, xO 7 [.int v_laws, .ref h1, .ref h2, .int v_inForce, .int v_depth, .int v_miss, .long v_ring, .int v_size, .int v_people, .ref g0, .int v_seed, .int v_taped, .ref g1, .int v_from, .int v_to, .int v_token, .int v_value, .ref g2, .ref g3, .ref g4, .ref h3, .int v_imaged, .ref g5, .long v_oldRing, .ref g6, .long v_aheadRing, .ref g7]), (h1, xI X 6 v_kind), (h2, xI X 6 v_own), (h3, xI X 7 u.2)]) hC hr hlk trivial hf hH rfl rfl dX7_strikesBy_22
def f_X7_heard (v_laws : Int32) (v_inForce : Int32) (v_depth : Int32) (v_ring : Int64) (v_size : Int32) (v_kind : (Nat → Int32)) (v_own : (Nat → Int32)) (v_refusals : (Nat → Int32)) (p1 : Int32) (p2 : Int32) : Option (Int32 × (Nat → Int32)) :=
  (f_X7_isStep v_size p1).bind fun u1 =>
  if u1 = (nI 0) then
    (f_X7_no v_refusals (-2 : Int32)).bind fun u3 =>
    some (u3.1, u3.2)
  else
  (f_X7_within p2 (nI 0) (nI 2)).bind fun u4 =>
  if u4 = (nI 0) then
    (f_X7_no v_refusals (-2 : Int32)).bind fun u8 =>
    some (u8.1, u8.2)
  else
  (f_X7_is v_laws v_inForce v_depth v_kind v_own v_ring v_size p1 p2).bind fun u6 =>
  if u6 = (nI 0) then
    some ((nI 0), v_refusals)
  else
  some ((nI 1), v_refusals)
set_option maxHeartbeats 4000000 in
set_option maxRecDepth 100000 in
theorem c_X7_heard {l : Launch} {X : xG} {h0 h1 h2 h3 g0 g1 g2 g3 g4 g5 g6 g7 : Nat} {v_laws : Int32} {v_inForce : Int32} {v_depth : Int32} {v_miss : Int32} {v_ring : Int64} {v_size : Int32} {v_people : Int32} {v_seed : Int32} {v_taped : Int32} {v_from : Int32} {v_to : Int32} {v_token : Int32} {v_value : Int32} {v_imaged : Int32} {v_oldRing : Int64} {v_aheadRing : Int64} {v_kind : (Nat → Int32)} {v_own : (Nat → Int32)} {v_refusals : (Nat → Int32)} {p1 : Int32} {p2 : Int32} {u : Int32 × (Nat → Int32)} (hf : f_X7_heard v_laws v_inForce v_depth v_ring v_size v_kind v_own v_refusals p1 p2 = some u) : Met l yX7_heard (xw yX7_heard cX7_heard 3 (some .int)) (xrm 6 145) (xPc [.ref h0, .int p1, .int p2] X [(h0, xO 7 [.int v_laws, .ref h1, .ref h2, .int v_inForce, .int v_depth, .int v_miss, .long v_ring, .int v_size, .int v_people, .ref g0, .int v_seed, .int v_taped, .ref g1, .int v_from, .int v_to, .int v_token, .int v_value, .ref g2, .ref g3, .ref g4, .ref h3, .int v_imaged, .ref g5, .long v_oldRing, .ref g6, .long v_aheadRing, .ref g7]), (h1, xI X 6 v_kind), (h2, xI X 6 v_own), (h3, xI X 7 v_refusals)]) (xQw True (.returned (some (.int u.1))) X [(h0, xO 7 [.int v_laws, .ref h1, .ref h2, .int v_inForce, .int v_depth, .int v_miss, .long v_ring, .int v_size, .int v_people, .ref g0, .int v_seed, .int v_taped, .ref g1, .int v_from, .int v_to, .int v_token, .int v_value, .ref g2, .ref g3, .ref g4, .ref h3, .int v_imaged, .ref g5, .long v_oldRing, .ref g6, .long v_aheadRing, .ref g7]), (h1, xI X 6 v_kind), (h2, xI X 6 v_own), (h3, xI X 7 u.2)] (xAs [(h0, xO 7 [.int v_laws, .ref h1, .ref h2, .int v_inForce, .int v_depth, .int v_miss, .long v_ring, .int v_size, .int v_people, .ref g0, .int v_seed, .int v_taped, .ref g1, .int v_from, .int v_to, .int v_token, .int v_value, .ref g2, .ref g3, .ref g4, .ref h3, .int v_imaged, .ref g5, .long v_oldRing, .ref g6, .long v_aheadRing, .ref g7]), (h1, xI X 6 v_kind), (h2, xI X 6 v_own), (h3, xI X 7 v_refusals)])) 0 0 (xAs [(h0, xO 7 [.int v_laws, .ref h1, .ref h2, .int v_inForce, .int v_depth, .int v_miss, .long v_ring, .int v_size, .int v_people, .ref g0, .int v_seed, .int v_taped, .ref g1, .int v_from, .int v_to, .int v_token, .int v_value, .ref g2, .ref g3, .ref g4, .ref h3, .int v_imaged, .ref g5, .long v_oldRing, .ref g6, .long v_aheadRing, .ref g7]), (h1, xI X 6 v_kind), (h2, xI X 6 v_own), (h3, xI X 7 v_refusals)]) := by
  refine xMetw (Qc := fun A => xQw True (.returned (some (.int u.1))) X [(h0, xO 7 [.int v_laws, .ref h1, .ref h2, .int v_inForce, .int v_depth, .int v_miss, .long v_ring, .int v_size, .int v_people, .ref g0, .int v_seed, .int v_taped, .ref g1, .int v_from, .int v_to, .int v_token, .int v_value, .ref g2, .ref g3, .ref g4, .ref h3, .int v_imaged, .ref g5, .long v_oldRing, .ref g6, .long v_aheadRing, .ref g7]), (h1, xI X 6 v_kind), (h2, xI X 6 v_own), (h3, xI X 7 u.2)] A) (n := 2) md_X7_heard.1 (Nat.le_of_ble_eq_true rfl) ?_
  intro p e s m args below meth c ls A hC hr hlk hH hl
  have hl : lv_has ls 3 [(0, .ref h0), (1, .int p1), (2, .int p2)] := hl
  have hx := hC.1
  have hb := hC.2.1
  refine lv_aload_n hx hb dX7_heard_0 rfl (lv_at hl 0 rfl) ?_
  refine lv_iload_n hx hb dX7_heard_1 rfl (lv_at hl 1 rfl) ?_
  obtain ⟨u1, hf1, hf⟩ := xb hf
  refine x_ran (x_runV (q0 := 0) (rest := []) (As := [.int p1]) hC mw_685 md_X7_isStep (c_X7_isStep (X := X) hf1) hH [0] rfl (by decide) rfl rfl rfl hl.1 rfl rfl (Nat.le_of_ble_eq_true rfl) dX7_heard_2 ⟨Nat.le_of_ble_eq_true rfl, Nat.le_of_ble_eq_true rfl⟩ ⟨rfl, rfl⟩ ⟨Nat.le_refl _, Nat.le_refl _⟩) rfl (fun hz1 => ?_)
  refine lv_if_eq (tgt := 17) hx hb dX7_heard_5 (by decide) (fun c2 => ?_) (fun c2 => ?_)
  · have hf := xt c2 hf
    refine lv_aload_n hx hb dX7_heard_17 rfl (lv_at hl 0 rfl) ?_
    refine lv_bipush (v := (-2 : Int32)) hx hb dX7_heard_18 (by decide) ?_
    obtain ⟨u3, hf3, hf⟩ := xb hf
    refine x_ranw (ws' := [(h0, xO 7 [.int v_laws, .ref h1, .ref h2, .int v_inForce, .int v_depth, .int v_miss, .long v_ring, .int v_size, .int v_people, .ref g0, .int v_seed, .int v_taped, .ref g1, .int v_from, .int v_to, .int v_token, .int v_value, .ref g2, .ref g3, .ref g4, .ref h3, .int v_imaged, .ref g5, .long v_oldRing, .ref g6, .long v_aheadRing, .ref g7]), (h1, xI X 6 v_kind), (h2, xI X 6 v_own), (h3, xI X 7 u3.2)]) (x_runV (q0 := 0) (rest := []) (As := [.int (-2 : Int32)]) hC mw_143 md_X7_no (c_X7_no (X := X) hf3) hH [0, 3] rfl (by decide) rfl rfl rfl hl.1 rfl rfl (Nat.le_of_ble_eq_true rfl) dX7_heard_20 ⟨Nat.le_of_ble_eq_true rfl, Nat.le_of_ble_eq_true rfl⟩ ⟨rfl, rfl⟩ ⟨Nat.le_refl _, Nat.le_refl _⟩) hH [0, 3] rfl rfl rfl rfl rfl (fun hz3 H locs hH => ?_)
    exact x_retiw (φ := fun _ => True) (f := fun u : Int32 × (Nat → Int32) => u.1) (wf := fun u : Int32 × (Nat → Int32) => [(h0, xO 7 [.int v_laws, .ref h1, .ref h2, .int v_inForce, .int v_depth, .int v_miss, .long v_ring, .int v_size, .int v_people, .ref g0, .int v_seed, .int v_taped, .ref g1, .int v_from, .int v_to, .int v_token, .int v_value, .ref g2, .ref g3, .ref g4, .ref h3, .int v_imaged, .ref g5, .long v_oldRing, .ref g6, .long v_aheadRing, .ref g7]), (h1, xI X 6 v_kind), (h2, xI X 6 v_own), (h3, xI X 7 u.2)]) hC hr hlk trivial hf hH rfl rfl dX7_heard_23
  · have hf := xe c2 hf
    refine lv_iload_n hx hb dX7_heard_8 rfl (lv_at hl 2 rfl) ?_
    refine lv_iconst (v := (nI 0)) hx hb dX7_heard_9 (by decide) ?_
    refine lv_iconst (v := (nI 2)) hx hb dX7_heard_10 (by decide) ?_
    obtain ⟨u4, hf4, hf⟩ := xb hf
    refine x_ran (x_runS (rest := []) (As := [.int p2, .int (nI 0), .int (nI 2)]) hC mw_140 md_X7_within (c_X7_within (X := X) hf4) hH [] rfl (by decide) hl.1 rfl rfl (Nat.le_of_ble_eq_true rfl) dX7_heard_11 ⟨Nat.le_of_ble_eq_true rfl, Nat.le_of_ble_eq_true rfl⟩ ⟨rfl, rfl⟩ ⟨Nat.le_refl _, Nat.le_refl _⟩) rfl (fun hz4 => ?_)
    refine lv_if_ne (tgt := 24) hx hb dX7_heard_14 (by decide) (fun c5 => ?_) (fun c5 => ?_)
    · have hf := xe c5 hf
      refine lv_aload_n hx hb dX7_heard_24 rfl (lv_at hl 0 rfl) ?_
      refine lv_aload_n hx hb dX7_heard_25 rfl (lv_at hl 0 rfl) ?_
      refine x_get hC fd_RX7_90 hH.1 0 rfl rfl dX7_heard_26 ?_
      refine lv_aload_n hx hb dX7_heard_29 rfl (lv_at hl 0 rfl) ?_
      refine x_get hC fd_RX7_62 hH.1 0 rfl rfl dX7_heard_30 ?_
      refine lv_iload_n hx hb dX7_heard_33 rfl (lv_at hl 1 rfl) ?_
      refine lv_iload_n hx hb dX7_heard_34 rfl (lv_at hl 2 rfl) ?_
      obtain ⟨u6, hf6, hf⟩ := xb hf
      refine x_ran (x_runV (q0 := 0) (rest := []) (As := [.long v_ring, .int v_size, .int p1, .int p2]) hC mw_728 md_X7_is (c_X7_is (X := X) hf6) hH [0, 1, 2] rfl (by decide) rfl rfl rfl hl.1 rfl rfl (Nat.le_of_ble_eq_true rfl) dX7_heard_35 ⟨Nat.le_of_ble_eq_true rfl, Nat.le_of_ble_eq_true rfl⟩ ⟨rfl, rfl⟩ ⟨Nat.le_refl _, Nat.le_refl _⟩) rfl (fun hz6 => ?_)
      refine lv_if_eq (tgt := 45) hx hb dX7_heard_38 (by decide) (fun c7 => ?_) (fun c7 => ?_)
      · have hf := xt c7 hf
        refine lv_iconst (v := (nI 0)) hx hb dX7_heard_45 (by decide) ?_
        exact x_retiw (φ := fun _ => True) (f := fun u : Int32 × (Nat → Int32) => u.1) (wf := fun u : Int32 × (Nat → Int32) => [(h0, xO 7 [.int v_laws, .ref h1, .ref h2, .int v_inForce, .int v_depth, .int v_miss, .long v_ring, .int v_size, .int v_people, .ref g0, .int v_seed, .int v_taped, .ref g1, .int v_from, .int v_to, .int v_token, .int v_value, .ref g2, .ref g3, .ref g4, .ref h3, .int v_imaged, .ref g5, .long v_oldRing, .ref g6, .long v_aheadRing, .ref g7]), (h1, xI X 6 v_kind), (h2, xI X 6 v_own), (h3, xI X 7 u.2)]) hC hr hlk trivial hf hH rfl rfl dX7_heard_46
      · have hf := xe c7 hf
        refine lv_iconst (v := (nI 1)) hx hb dX7_heard_41 (by decide) ?_
        refine lv_goto (tgt := 46) hx hb dX7_heard_42 (by decide) ?_
        exact x_retiw (φ := fun _ => True) (f := fun u : Int32 × (Nat → Int32) => u.1) (wf := fun u : Int32 × (Nat → Int32) => [(h0, xO 7 [.int v_laws, .ref h1, .ref h2, .int v_inForce, .int v_depth, .int v_miss, .long v_ring, .int v_size, .int v_people, .ref g0, .int v_seed, .int v_taped, .ref g1, .int v_from, .int v_to, .int v_token, .int v_value, .ref g2, .ref g3, .ref g4, .ref h3, .int v_imaged, .ref g5, .long v_oldRing, .ref g6, .long v_aheadRing, .ref g7]), (h1, xI X 6 v_kind), (h2, xI X 6 v_own), (h3, xI X 7 u.2)]) hC hr hlk trivial hf hH rfl rfl dX7_heard_46
    · have hf := xt c5 hf
      refine lv_aload_n hx hb dX7_heard_17 rfl (lv_at hl 0 rfl) ?_
      refine lv_bipush (v := (-2 : Int32)) hx hb dX7_heard_18 (by decide) ?_
      obtain ⟨u8, hf8, hf⟩ := xb hf
      refine x_ranw (ws' := [(h0, xO 7 [.int v_laws, .ref h1, .ref h2, .int v_inForce, .int v_depth, .int v_miss, .long v_ring, .int v_size, .int v_people, .ref g0, .int v_seed, .int v_taped, .ref g1, .int v_from, .int v_to, .int v_token, .int v_value, .ref g2, .ref g3, .ref g4, .ref h3, .int v_imaged, .ref g5, .long v_oldRing, .ref g6, .long v_aheadRing, .ref g7]), (h1, xI X 6 v_kind), (h2, xI X 6 v_own), (h3, xI X 7 u8.2)]) (x_runV (q0 := 0) (rest := []) (As := [.int (-2 : Int32)]) hC mw_143 md_X7_no (c_X7_no (X := X) hf8) hH [0, 3] rfl (by decide) rfl rfl rfl hl.1 rfl rfl (Nat.le_of_ble_eq_true rfl) dX7_heard_20 ⟨Nat.le_of_ble_eq_true rfl, Nat.le_of_ble_eq_true rfl⟩ ⟨rfl, rfl⟩ ⟨Nat.le_refl _, Nat.le_refl _⟩) hH [0, 3] rfl rfl rfl rfl rfl (fun hz8 H locs hH => ?_)
      exact x_retiw (φ := fun _ => True) (f := fun u : Int32 × (Nat → Int32) => u.1) (wf := fun u : Int32 × (Nat → Int32) => [(h0, xO 7 [.int v_laws, .ref h1, .ref h2, .int v_inForce, .int v_depth, .int v_miss, .long v_ring, .int v_size, .int v_people, .ref g0, .int v_seed, .int v_taped, .ref g1, .int v_from, .int v_to, .int v_token, .int v_value, .ref g2, .ref g3, .ref g4, .ref h3, .int v_imaged, .ref g5, .long v_oldRing, .ref g6, .long v_aheadRing, .ref g7]), (h1, xI X 6 v_kind), (h2, xI X 6 v_own), (h3, xI X 7 u.2)]) hC hr hlk trivial hf hH rfl rfl dX7_heard_23
def f_X7_all (v_laws : Int32) (v_inForce : Int32) (v_depth : Int32) (v_ring : Int64) (v_size : Int32) (v_kind : (Nat → Int32)) (v_own : (Nat → Int32)) (v_refusals : (Nat → Int32)) (p1 : Int32) : Option (Int32 × (Nat → Int32)) :=
  (f_X7_within p1 (nI 0) (nI 2)).bind fun u1 =>
  if u1 = (nI 0) then
    (f_X7_no v_refusals (-2 : Int32)).bind fun u3 =>
    some (u3.1, u3.2)
  else
  (f_X7_many v_laws v_inForce v_depth v_kind v_own v_ring v_size p1).bind fun u4 =>
  some (u4, v_refusals)
set_option maxHeartbeats 4000000 in
set_option maxRecDepth 100000 in
theorem c_X7_all {l : Launch} {X : xG} {h0 h1 h2 h3 g0 g1 g2 g3 g4 g5 g6 g7 : Nat} {v_laws : Int32} {v_inForce : Int32} {v_depth : Int32} {v_miss : Int32} {v_ring : Int64} {v_size : Int32} {v_people : Int32} {v_seed : Int32} {v_taped : Int32} {v_from : Int32} {v_to : Int32} {v_token : Int32} {v_value : Int32} {v_imaged : Int32} {v_oldRing : Int64} {v_aheadRing : Int64} {v_kind : (Nat → Int32)} {v_own : (Nat → Int32)} {v_refusals : (Nat → Int32)} {p1 : Int32} {u : Int32 × (Nat → Int32)} (hf : f_X7_all v_laws v_inForce v_depth v_ring v_size v_kind v_own v_refusals p1 = some u) : Met l yX7_all (xw yX7_all cX7_all 2 (some .int)) (xrm 7 171) (xPc [.ref h0, .int p1] X [(h0, xO 7 [.int v_laws, .ref h1, .ref h2, .int v_inForce, .int v_depth, .int v_miss, .long v_ring, .int v_size, .int v_people, .ref g0, .int v_seed, .int v_taped, .ref g1, .int v_from, .int v_to, .int v_token, .int v_value, .ref g2, .ref g3, .ref g4, .ref h3, .int v_imaged, .ref g5, .long v_oldRing, .ref g6, .long v_aheadRing, .ref g7]), (h1, xI X 6 v_kind), (h2, xI X 6 v_own), (h3, xI X 7 v_refusals)]) (xQw True (.returned (some (.int u.1))) X [(h0, xO 7 [.int v_laws, .ref h1, .ref h2, .int v_inForce, .int v_depth, .int v_miss, .long v_ring, .int v_size, .int v_people, .ref g0, .int v_seed, .int v_taped, .ref g1, .int v_from, .int v_to, .int v_token, .int v_value, .ref g2, .ref g3, .ref g4, .ref h3, .int v_imaged, .ref g5, .long v_oldRing, .ref g6, .long v_aheadRing, .ref g7]), (h1, xI X 6 v_kind), (h2, xI X 6 v_own), (h3, xI X 7 u.2)] (xAs [(h0, xO 7 [.int v_laws, .ref h1, .ref h2, .int v_inForce, .int v_depth, .int v_miss, .long v_ring, .int v_size, .int v_people, .ref g0, .int v_seed, .int v_taped, .ref g1, .int v_from, .int v_to, .int v_token, .int v_value, .ref g2, .ref g3, .ref g4, .ref h3, .int v_imaged, .ref g5, .long v_oldRing, .ref g6, .long v_aheadRing, .ref g7]), (h1, xI X 6 v_kind), (h2, xI X 6 v_own), (h3, xI X 7 v_refusals)])) 0 0 (xAs [(h0, xO 7 [.int v_laws, .ref h1, .ref h2, .int v_inForce, .int v_depth, .int v_miss, .long v_ring, .int v_size, .int v_people, .ref g0, .int v_seed, .int v_taped, .ref g1, .int v_from, .int v_to, .int v_token, .int v_value, .ref g2, .ref g3, .ref g4, .ref h3, .int v_imaged, .ref g5, .long v_oldRing, .ref g6, .long v_aheadRing, .ref g7]), (h1, xI X 6 v_kind), (h2, xI X 6 v_own), (h3, xI X 7 v_refusals)]) := by
  refine xMetw (Qc := fun A => xQw True (.returned (some (.int u.1))) X [(h0, xO 7 [.int v_laws, .ref h1, .ref h2, .int v_inForce, .int v_depth, .int v_miss, .long v_ring, .int v_size, .int v_people, .ref g0, .int v_seed, .int v_taped, .ref g1, .int v_from, .int v_to, .int v_token, .int v_value, .ref g2, .ref g3, .ref g4, .ref h3, .int v_imaged, .ref g5, .long v_oldRing, .ref g6, .long v_aheadRing, .ref g7]), (h1, xI X 6 v_kind), (h2, xI X 6 v_own), (h3, xI X 7 u.2)] A) (n := 1) md_X7_all.1 (Nat.le_of_ble_eq_true rfl) ?_
  intro p e s m args below meth c ls A hC hr hlk hH hl
  have hl : lv_has ls 2 [(0, .ref h0), (1, .int p1)] := hl
  have hx := hC.1
  have hb := hC.2.1
  refine lv_iload_n hx hb dX7_all_0 rfl (lv_at hl 1 rfl) ?_
  refine lv_iconst (v := (nI 0)) hx hb dX7_all_1 (by decide) ?_
  refine lv_iconst (v := (nI 2)) hx hb dX7_all_2 (by decide) ?_
  obtain ⟨u1, hf1, hf⟩ := xb hf
  refine x_ran (x_runS (rest := []) (As := [.int p1, .int (nI 0), .int (nI 2)]) hC mw_140 md_X7_within (c_X7_within (X := X) hf1) hH [] rfl (by decide) hl.1 rfl rfl (Nat.le_of_ble_eq_true rfl) dX7_all_3 ⟨Nat.le_of_ble_eq_true rfl, Nat.le_of_ble_eq_true rfl⟩ ⟨rfl, rfl⟩ ⟨Nat.le_refl _, Nat.le_refl _⟩) rfl (fun hz1 => ?_)
  refine lv_if_eq (tgt := 25) hx hb dX7_all_6 (by decide) (fun c2 => ?_) (fun c2 => ?_)
  · have hf := xt c2 hf
    refine lv_aload_n hx hb dX7_all_25 rfl (lv_at hl 0 rfl) ?_
    refine lv_bipush (v := (-2 : Int32)) hx hb dX7_all_26 (by decide) ?_
    obtain ⟨u3, hf3, hf⟩ := xb hf
    refine x_ranw (ws' := [(h0, xO 7 [.int v_laws, .ref h1, .ref h2, .int v_inForce, .int v_depth, .int v_miss, .long v_ring, .int v_size, .int v_people, .ref g0, .int v_seed, .int v_taped, .ref g1, .int v_from, .int v_to, .int v_token, .int v_value, .ref g2, .ref g3, .ref g4, .ref h3, .int v_imaged, .ref g5, .long v_oldRing, .ref g6, .long v_aheadRing, .ref g7]), (h1, xI X 6 v_kind), (h2, xI X 6 v_own), (h3, xI X 7 u3.2)]) (x_runV (q0 := 0) (rest := []) (As := [.int (-2 : Int32)]) hC mw_143 md_X7_no (c_X7_no (X := X) hf3) hH [0, 3] rfl (by decide) rfl rfl rfl hl.1 rfl rfl (Nat.le_of_ble_eq_true rfl) dX7_all_28 ⟨Nat.le_of_ble_eq_true rfl, Nat.le_of_ble_eq_true rfl⟩ ⟨rfl, rfl⟩ ⟨Nat.le_refl _, Nat.le_refl _⟩) hH [0, 3] rfl rfl rfl rfl rfl (fun hz3 H locs hH => ?_)
    exact x_retiw (φ := fun _ => True) (f := fun u : Int32 × (Nat → Int32) => u.1) (wf := fun u : Int32 × (Nat → Int32) => [(h0, xO 7 [.int v_laws, .ref h1, .ref h2, .int v_inForce, .int v_depth, .int v_miss, .long v_ring, .int v_size, .int v_people, .ref g0, .int v_seed, .int v_taped, .ref g1, .int v_from, .int v_to, .int v_token, .int v_value, .ref g2, .ref g3, .ref g4, .ref h3, .int v_imaged, .ref g5, .long v_oldRing, .ref g6, .long v_aheadRing, .ref g7]), (h1, xI X 6 v_kind), (h2, xI X 6 v_own), (h3, xI X 7 u.2)]) hC hr hlk trivial hf hH rfl rfl dX7_all_31
  · have hf := xe c2 hf
    refine lv_aload_n hx hb dX7_all_9 rfl (lv_at hl 0 rfl) ?_
    refine lv_aload_n hx hb dX7_all_10 rfl (lv_at hl 0 rfl) ?_
    refine x_get hC fd_RX7_90 hH.1 0 rfl rfl dX7_all_11 ?_
    refine lv_aload_n hx hb dX7_all_14 rfl (lv_at hl 0 rfl) ?_
    refine x_get hC fd_RX7_62 hH.1 0 rfl rfl dX7_all_15 ?_
    refine lv_iload_n hx hb dX7_all_18 rfl (lv_at hl 1 rfl) ?_
    obtain ⟨u4, hf4, hf⟩ := xb hf
    refine x_ran (x_runV (q0 := 0) (rest := []) (As := [.long v_ring, .int v_size, .int p1]) hC mw_749 md_X7_many (c_X7_many (X := X) hf4) hH [0, 1, 2] rfl (by decide) rfl rfl rfl hl.1 rfl rfl (Nat.le_of_ble_eq_true rfl) dX7_all_19 ⟨Nat.le_of_ble_eq_true rfl, Nat.le_of_ble_eq_true rfl⟩ ⟨rfl, rfl⟩ ⟨Nat.le_refl _, Nat.le_refl _⟩) rfl (fun hz4 => ?_)
    refine lv_goto (tgt := 31) hx hb dX7_all_22 (by decide) ?_
    exact x_retiw (φ := fun _ => True) (f := fun u : Int32 × (Nat → Int32) => u.1) (wf := fun u : Int32 × (Nat → Int32) => [(h0, xO 7 [.int v_laws, .ref h1, .ref h2, .int v_inForce, .int v_depth, .int v_miss, .long v_ring, .int v_size, .int v_people, .ref g0, .int v_seed, .int v_taped, .ref g1, .int v_from, .int v_to, .int v_token, .int v_value, .ref g2, .ref g3, .ref g4, .ref h3, .int v_imaged, .ref g5, .long v_oldRing, .ref g6, .long v_aheadRing, .ref g7]), (h1, xI X 6 v_kind), (h2, xI X 6 v_own), (h3, xI X 7 u.2)]) hC hr hlk trivial hf hH rfl rfl dX7_all_31
def f_X7_silent_L17 (v_laws : Int32) (v_inForce : Int32) (v_depth : Int32) (v_ring : Int64) (v_size : Int32) (v_kind : (Nat → Int32)) (v_own : (Nat → Int32)) (v_refusals : (Nat → Int32)) (s17 : Int32) : Option ((Int32 × (Nat → Int32)) ⊕ (Int32)) :=
  if v_size ≤ s17 then
    some (.inl ((-1 : Int32), v_refusals))
  else
  (f_X7_isHeard v_laws v_inForce v_depth v_kind v_own v_ring v_size s17).bind fun u4 =>
  if u4 = (nI 0) then
    some (.inl (s17, v_refusals))
  else
  some (.inr (s17 + (nI 1)))
def f_X7_silent (v_laws : Int32) (v_inForce : Int32) (v_depth : Int32) (v_ring : Int64) (v_size : Int32) (v_kind : (Nat → Int32)) (v_own : (Nat → Int32)) (v_refusals : (Nat → Int32)) (p1 : Int32) : Option (Int32 × (Nat → Int32)) :=
  (f_X7_isStep v_size p1).bind fun u1 =>
  if u1 = (nI 0) then
    (f_X7_no v_refusals (-2 : Int32)).bind fun u6 =>
    some (u6.1, u6.2)
  else
  xloop (f_X7_silent_L17 v_laws v_inForce v_depth v_ring v_size v_kind v_own v_refusals) xN p1
set_option maxHeartbeats 4000000 in
set_option maxRecDepth 100000 in
theorem c_X7_silent {l : Launch} {X : xG} {h0 h1 h2 h3 g0 g1 g2 g3 g4 g5 g6 g7 : Nat} {v_laws : Int32} {v_inForce : Int32} {v_depth : Int32} {v_miss : Int32} {v_ring : Int64} {v_size : Int32} {v_people : Int32} {v_seed : Int32} {v_taped : Int32} {v_from : Int32} {v_to : Int32} {v_token : Int32} {v_value : Int32} {v_imaged : Int32} {v_oldRing : Int64} {v_aheadRing : Int64} {v_kind : (Nat → Int32)} {v_own : (Nat → Int32)} {v_refusals : (Nat → Int32)} {p1 : Int32} {u : Int32 × (Nat → Int32)} (hf : f_X7_silent v_laws v_inForce v_depth v_ring v_size v_kind v_own v_refusals p1 = some u) : Met l yX7_silent (xw yX7_silent cX7_silent 3 (some .int)) (xrm 5 120) (xPc [.ref h0, .int p1] X [(h0, xO 7 [.int v_laws, .ref h1, .ref h2, .int v_inForce, .int v_depth, .int v_miss, .long v_ring, .int v_size, .int v_people, .ref g0, .int v_seed, .int v_taped, .ref g1, .int v_from, .int v_to, .int v_token, .int v_value, .ref g2, .ref g3, .ref g4, .ref h3, .int v_imaged, .ref g5, .long v_oldRing, .ref g6, .long v_aheadRing, .ref g7]), (h1, xI X 6 v_kind), (h2, xI X 6 v_own), (h3, xI X 7 v_refusals)]) (xQw True (.returned (some (.int u.1))) X [(h0, xO 7 [.int v_laws, .ref h1, .ref h2, .int v_inForce, .int v_depth, .int v_miss, .long v_ring, .int v_size, .int v_people, .ref g0, .int v_seed, .int v_taped, .ref g1, .int v_from, .int v_to, .int v_token, .int v_value, .ref g2, .ref g3, .ref g4, .ref h3, .int v_imaged, .ref g5, .long v_oldRing, .ref g6, .long v_aheadRing, .ref g7]), (h1, xI X 6 v_kind), (h2, xI X 6 v_own), (h3, xI X 7 u.2)] (xAs [(h0, xO 7 [.int v_laws, .ref h1, .ref h2, .int v_inForce, .int v_depth, .int v_miss, .long v_ring, .int v_size, .int v_people, .ref g0, .int v_seed, .int v_taped, .ref g1, .int v_from, .int v_to, .int v_token, .int v_value, .ref g2, .ref g3, .ref g4, .ref h3, .int v_imaged, .ref g5, .long v_oldRing, .ref g6, .long v_aheadRing, .ref g7]), (h1, xI X 6 v_kind), (h2, xI X 6 v_own), (h3, xI X 7 v_refusals)])) 0 0 (xAs [(h0, xO 7 [.int v_laws, .ref h1, .ref h2, .int v_inForce, .int v_depth, .int v_miss, .long v_ring, .int v_size, .int v_people, .ref g0, .int v_seed, .int v_taped, .ref g1, .int v_from, .int v_to, .int v_token, .int v_value, .ref g2, .ref g3, .ref g4, .ref h3, .int v_imaged, .ref g5, .long v_oldRing, .ref g6, .long v_aheadRing, .ref g7]), (h1, xI X 6 v_kind), (h2, xI X 6 v_own), (h3, xI X 7 v_refusals)]) := by
  refine xMetw (Qc := fun A => xQw True (.returned (some (.int u.1))) X [(h0, xO 7 [.int v_laws, .ref h1, .ref h2, .int v_inForce, .int v_depth, .int v_miss, .long v_ring, .int v_size, .int v_people, .ref g0, .int v_seed, .int v_taped, .ref g1, .int v_from, .int v_to, .int v_token, .int v_value, .ref g2, .ref g3, .ref g4, .ref h3, .int v_imaged, .ref g5, .long v_oldRing, .ref g6, .long v_aheadRing, .ref g7]), (h1, xI X 6 v_kind), (h2, xI X 6 v_own), (h3, xI X 7 u.2)] A) (n := 1) md_X7_silent.1 (Nat.le_of_ble_eq_true rfl) ?_
  intro p e s m args below meth c ls A hC hr hlk hH hl
  have hl : lv_has ls 3 [(0, .ref h0), (1, .int p1)] := hl
  have hx := hC.1
  have hb := hC.2.1
  have L17 : ∀ (n : Nat) (s17 : Int32), xloop (f_X7_silent_L17 v_laws v_inForce v_depth v_ring v_size v_kind v_own v_refusals) n s17 = some u → ∀ (H : Heap) (locs : List Loc), xH X A [(h0, xO 7 [.int v_laws, .ref h1, .ref h2, .int v_inForce, .int v_depth, .int v_miss, .long v_ring, .int v_size, .int v_people, .ref g0, .int v_seed, .int v_taped, .ref g1, .int v_from, .int v_to, .int v_token, .int v_value, .ref g2, .ref g3, .ref g4, .ref h3, .int v_imaged, .ref g5, .long v_oldRing, .ref g6, .long v_aheadRing, .ref g7]), (h1, xI X 6 v_kind), (h2, xI X 6 v_own), (h3, xI X 7 v_refusals)] s.heap H locs → ∀ (ls : Array Slot), lv_has ls 3 [(0, .ref h0), (2, .int s17)] → W p l e (xrm 5 120) s m args below meth c H locs 0 0 (MQ below (xQw True (.returned (some (.int u.1))) X [(h0, xO 7 [.int v_laws, .ref h1, .ref h2, .int v_inForce, .int v_depth, .int v_miss, .long v_ring, .int v_size, .int v_people, .ref g0, .int v_seed, .int v_taped, .ref g1, .int v_from, .int v_to, .int v_token, .int v_value, .ref g2, .ref g3, .ref g4, .ref h3, .int v_imaged, .ref g5, .long v_oldRing, .ref g6, .long v_aheadRing, .ref g7]), (h1, xI X 6 v_kind), (h2, xI X 6 v_own), (h3, xI X 7 u.2)] A) args s 0 0 A) (F0 m 17 ls []) := by
    intro  n
    induction n with
    | zero => intro s17 hf; exact xloop_0 hf
    | succ n ih17 =>
      intro s17 hf H locs hH ls hl
      obtain ⟨o17, hf, ho17⟩ := xloop_s hf
      refine lv_iload_n hx hb dX7_silent_17 rfl (lv_at hl 1 rfl) ?_
      refine lv_aload_n hx hb dX7_silent_18 rfl (lv_at hl 0 rfl) ?_
      refine x_get hC fd_RX7_62 hH.1 0 rfl rfl dX7_silent_19 ?_
      refine lv_icmp_ge (tgt := 49) hx hb dX7_silent_22 (by decide) (fun c3 => ?_) (fun c3 => ?_)
      · have hf := xt c3 hf
        refine lv_iconst (v := (-1 : Int32)) hx hb dX7_silent_49 (by decide) ?_
        have hf := xo_ret hf ho17
        exact x_retiw (φ := fun _ => True) (f := fun u : Int32 × (Nat → Int32) => u.1) (wf := fun u : Int32 × (Nat → Int32) => [(h0, xO 7 [.int v_laws, .ref h1, .ref h2, .int v_inForce, .int v_depth, .int v_miss, .long v_ring, .int v_size, .int v_people, .ref g0, .int v_seed, .int v_taped, .ref g1, .int v_from, .int v_to, .int v_token, .int v_value, .ref g2, .ref g3, .ref g4, .ref h3, .int v_imaged, .ref g5, .long v_oldRing, .ref g6, .long v_aheadRing, .ref g7]), (h1, xI X 6 v_kind), (h2, xI X 6 v_own), (h3, xI X 7 u.2)]) hC hr hlk trivial hf hH rfl rfl dX7_silent_50
      · have hf := xe c3 hf
        refine lv_aload_n hx hb dX7_silent_25 rfl (lv_at hl 0 rfl) ?_
        refine lv_aload_n hx hb dX7_silent_26 rfl (lv_at hl 0 rfl) ?_
        refine x_get hC fd_RX7_90 hH.1 0 rfl rfl dX7_silent_27 ?_
        refine lv_aload_n hx hb dX7_silent_30 rfl (lv_at hl 0 rfl) ?_
        refine x_get hC fd_RX7_62 hH.1 0 rfl rfl dX7_silent_31 ?_
        refine lv_iload_n hx hb dX7_silent_34 rfl (lv_at hl 1 rfl) ?_
        obtain ⟨u4, hf4, hf⟩ := xb hf
        refine x_ran (x_runV (q0 := 0) (rest := []) (As := [.long v_ring, .int v_size, .int s17]) hC mw_732 md_X7_isHeard (c_X7_isHeard (X := X) hf4) hH [0, 1, 2] rfl (by decide) rfl rfl rfl hl.1 rfl rfl (Nat.le_of_ble_eq_true rfl) dX7_silent_35 ⟨Nat.le_of_ble_eq_true rfl, Nat.le_of_ble_eq_true rfl⟩ ⟨rfl, rfl⟩ ⟨Nat.le_refl _, Nat.le_refl _⟩) rfl (fun hz4 => ?_)
        refine lv_if_ne (tgt := 43) hx hb dX7_silent_38 (by decide) (fun c5 => ?_) (fun c5 => ?_)
        · have hf := xe c5 hf
          refine lv_iinc (v := s17 + (nI 1)) (lv' := [(2, .int (s17 + (nI 1))), (0, .ref h0)]) hx hb dX7_silent_43 hl (k := 1) rfl rfl (by decide) rfl (fun ls hl => ?_)
          refine lv_goto (tgt := 17) hx hb dX7_silent_46 (by decide) ?_
          have hf := xo_go hf ho17
          exact ih17 (s17 + (nI 1)) hf _ _ hH ls (lv_sub hl [1, 0] rfl)
        · have hf := xt c5 hf
          refine lv_iload_n hx hb dX7_silent_41 rfl (lv_at hl 1 rfl) ?_
          have hf := xo_ret hf ho17
          exact x_retiw (φ := fun _ => True) (f := fun u : Int32 × (Nat → Int32) => u.1) (wf := fun u : Int32 × (Nat → Int32) => [(h0, xO 7 [.int v_laws, .ref h1, .ref h2, .int v_inForce, .int v_depth, .int v_miss, .long v_ring, .int v_size, .int v_people, .ref g0, .int v_seed, .int v_taped, .ref g1, .int v_from, .int v_to, .int v_token, .int v_value, .ref g2, .ref g3, .ref g4, .ref h3, .int v_imaged, .ref g5, .long v_oldRing, .ref g6, .long v_aheadRing, .ref g7]), (h1, xI X 6 v_kind), (h2, xI X 6 v_own), (h3, xI X 7 u.2)]) hC hr hlk trivial hf hH rfl rfl dX7_silent_42
  refine lv_aload_n hx hb dX7_silent_0 rfl (lv_at hl 0 rfl) ?_
  refine lv_iload_n hx hb dX7_silent_1 rfl (lv_at hl 1 rfl) ?_
  obtain ⟨u1, hf1, hf⟩ := xb hf
  refine x_ran (x_runV (q0 := 0) (rest := []) (As := [.int p1]) hC mw_685 md_X7_isStep (c_X7_isStep (X := X) hf1) hH [0] rfl (by decide) rfl rfl rfl hl.1 rfl rfl (Nat.le_of_ble_eq_true rfl) dX7_silent_2 ⟨Nat.le_of_ble_eq_true rfl, Nat.le_of_ble_eq_true rfl⟩ ⟨rfl, rfl⟩ ⟨Nat.le_refl _, Nat.le_refl _⟩) rfl (fun hz1 => ?_)
  refine lv_if_ne (tgt := 15) hx hb dX7_silent_5 (by decide) (fun c2 => ?_) (fun c2 => ?_)
  · have hf := xe c2 hf
    refine lv_iload_n hx hb dX7_silent_15 rfl (lv_at hl 1 rfl) ?_
    refine lv_istore_n (lv' := [(2, .int p1), (0, .ref h0), (1, .int p1)]) hx hb dX7_silent_16 rfl hl (by decide) rfl (fun ls hl => ?_)
    exact L17 xN p1 hf _ _ hH ls (lv_sub hl [1, 0] rfl)
  · have hf := xt c2 hf
    refine lv_aload_n hx hb dX7_silent_8 rfl (lv_at hl 0 rfl) ?_
    refine lv_bipush (v := (-2 : Int32)) hx hb dX7_silent_9 (by decide) ?_
    obtain ⟨u6, hf6, hf⟩ := xb hf
    refine x_ranw (ws' := [(h0, xO 7 [.int v_laws, .ref h1, .ref h2, .int v_inForce, .int v_depth, .int v_miss, .long v_ring, .int v_size, .int v_people, .ref g0, .int v_seed, .int v_taped, .ref g1, .int v_from, .int v_to, .int v_token, .int v_value, .ref g2, .ref g3, .ref g4, .ref h3, .int v_imaged, .ref g5, .long v_oldRing, .ref g6, .long v_aheadRing, .ref g7]), (h1, xI X 6 v_kind), (h2, xI X 6 v_own), (h3, xI X 7 u6.2)]) (x_runV (q0 := 0) (rest := []) (As := [.int (-2 : Int32)]) hC mw_143 md_X7_no (c_X7_no (X := X) hf6) hH [0, 3] rfl (by decide) rfl rfl rfl hl.1 rfl rfl (Nat.le_of_ble_eq_true rfl) dX7_silent_11 ⟨Nat.le_of_ble_eq_true rfl, Nat.le_of_ble_eq_true rfl⟩ ⟨rfl, rfl⟩ ⟨Nat.le_refl _, Nat.le_refl _⟩) hH [0, 3] rfl rfl rfl rfl rfl (fun hz6 H locs hH => ?_)
    exact x_retiw (φ := fun _ => True) (f := fun u : Int32 × (Nat → Int32) => u.1) (wf := fun u : Int32 × (Nat → Int32) => [(h0, xO 7 [.int v_laws, .ref h1, .ref h2, .int v_inForce, .int v_depth, .int v_miss, .long v_ring, .int v_size, .int v_people, .ref g0, .int v_seed, .int v_taped, .ref g1, .int v_from, .int v_to, .int v_token, .int v_value, .ref g2, .ref g3, .ref g4, .ref h3, .int v_imaged, .ref g5, .long v_oldRing, .ref g6, .long v_aheadRing, .ref g7]), (h1, xI X 6 v_kind), (h2, xI X 6 v_own), (h3, xI X 7 u.2)]) hC hr hlk trivial hf hH rfl rfl dX7_silent_14
def f_X7_run_J102 (s23 : Int32 × Int32 × Int32) (j102_s0 : Int32) : Option ((Int32 × (Nat → Int32)) ⊕ (Int32 × Int32 × Int32)) :=
  some (.inr (xmax s23.1 j102_s0, j102_s0, s23.2.2 + (nI 1)))
def f_X7_run_J88 (s23 : Int32 × Int32 × Int32) (j88_s0 : Int32) : Option ((Int32 × (Nat → Int32)) ⊕ (Int32 × Int32 × Int32)) :=
  if j88_s0 = (nI 0) then
    f_X7_run_J102 s23 (nI 0)
  else
  f_X7_run_J102 s23 (s23.2.1 + (nI 1))
def f_X7_run_J80 (s23 : Int32 × Int32 × Int32) (j80_s0 : Int32) (j80_s1 : Int32) : Option ((Int32 × (Nat → Int32)) ⊕ (Int32 × Int32 × Int32)) :=
  if j80_s0 = j80_s1 then
    f_X7_run_J88 s23 (nI 1)
  else
  f_X7_run_J88 s23 (nI 0)
def f_X7_run_L23 (v_laws : Int32) (v_inForce : Int32) (v_depth : Int32) (v_ring : Int64) (v_size : Int32) (v_kind : (Nat → Int32)) (v_own : (Nat → Int32)) (v_refusals : (Nat → Int32)) (p1 : Int32) (s23 : Int32 × Int32 × Int32) : Option ((Int32 × (Nat → Int32)) ⊕ (Int32 × Int32 × Int32)) :=
  if v_size ≤ s23.2.2 then
    some (.inl (s23.1, v_refusals))
  else
  if p1 = (nI 2) then
    (f_X7_isHeard v_laws v_inForce v_depth v_kind v_own v_ring v_size s23.2.2).bind fun u9 =>
    if u9 = (nI 0) then
      f_X7_run_J88 s23 (nI 1)
    else
    f_X7_run_J88 s23 (nI 0)
  else
  (f_X7_has v_ring s23.2.2).bind fun u5 =>
  if p1 = (nI 0) then
    f_X7_run_J80 s23 u5 (nI 1)
  else
  f_X7_run_J80 s23 u5 (nI 0)
def f_X7_run (v_laws : Int32) (v_inForce : Int32) (v_depth : Int32) (v_ring : Int64) (v_size : Int32) (v_kind : (Nat → Int32)) (v_own : (Nat → Int32)) (v_refusals : (Nat → Int32)) (p1 : Int32) : Option (Int32 × (Nat → Int32)) :=
  (f_X7_within p1 (nI 0) (nI 2)).bind fun u1 =>
  if u1 = (nI 0) then
    (f_X7_no v_refusals (-2 : Int32)).bind fun u11 =>
    some (u11.1, u11.2)
  else
  xloop (f_X7_run_L23 v_laws v_inForce v_depth v_ring v_size v_kind v_own v_refusals p1) xN ((nI 0), (nI 0), (nI 0))
set_option maxHeartbeats 4000000 in
set_option maxRecDepth 100000 in
theorem c_X7_run {l : Launch} {X : xG} {h0 h1 h2 h3 g0 g1 g2 g3 g4 g5 g6 g7 : Nat} {v_laws : Int32} {v_inForce : Int32} {v_depth : Int32} {v_miss : Int32} {v_ring : Int64} {v_size : Int32} {v_people : Int32} {v_seed : Int32} {v_taped : Int32} {v_from : Int32} {v_to : Int32} {v_token : Int32} {v_value : Int32} {v_imaged : Int32} {v_oldRing : Int64} {v_aheadRing : Int64} {v_kind : (Nat → Int32)} {v_own : (Nat → Int32)} {v_refusals : (Nat → Int32)} {p1 : Int32} {u : Int32 × (Nat → Int32)} (hf : f_X7_run v_laws v_inForce v_depth v_ring v_size v_kind v_own v_refusals p1 = some u) : Met l yX7_run (xw yX7_run cX7_run 6 (some .int)) (xrm 5 120) (xPc [.ref h0, .int p1] X [(h0, xO 7 [.int v_laws, .ref h1, .ref h2, .int v_inForce, .int v_depth, .int v_miss, .long v_ring, .int v_size, .int v_people, .ref g0, .int v_seed, .int v_taped, .ref g1, .int v_from, .int v_to, .int v_token, .int v_value, .ref g2, .ref g3, .ref g4, .ref h3, .int v_imaged, .ref g5, .long v_oldRing, .ref g6, .long v_aheadRing, .ref g7]), (h1, xI X 6 v_kind), (h2, xI X 6 v_own), (h3, xI X 7 v_refusals)]) (xQw True (.returned (some (.int u.1))) X [(h0, xO 7 [.int v_laws, .ref h1, .ref h2, .int v_inForce, .int v_depth, .int v_miss, .long v_ring, .int v_size, .int v_people, .ref g0, .int v_seed, .int v_taped, .ref g1, .int v_from, .int v_to, .int v_token, .int v_value, .ref g2, .ref g3, .ref g4, .ref h3, .int v_imaged, .ref g5, .long v_oldRing, .ref g6, .long v_aheadRing, .ref g7]), (h1, xI X 6 v_kind), (h2, xI X 6 v_own), (h3, xI X 7 u.2)] (xAs [(h0, xO 7 [.int v_laws, .ref h1, .ref h2, .int v_inForce, .int v_depth, .int v_miss, .long v_ring, .int v_size, .int v_people, .ref g0, .int v_seed, .int v_taped, .ref g1, .int v_from, .int v_to, .int v_token, .int v_value, .ref g2, .ref g3, .ref g4, .ref h3, .int v_imaged, .ref g5, .long v_oldRing, .ref g6, .long v_aheadRing, .ref g7]), (h1, xI X 6 v_kind), (h2, xI X 6 v_own), (h3, xI X 7 v_refusals)])) 0 0 (xAs [(h0, xO 7 [.int v_laws, .ref h1, .ref h2, .int v_inForce, .int v_depth, .int v_miss, .long v_ring, .int v_size, .int v_people, .ref g0, .int v_seed, .int v_taped, .ref g1, .int v_from, .int v_to, .int v_token, .int v_value, .ref g2, .ref g3, .ref g4, .ref h3, .int v_imaged, .ref g5, .long v_oldRing, .ref g6, .long v_aheadRing, .ref g7]), (h1, xI X 6 v_kind), (h2, xI X 6 v_own), (h3, xI X 7 v_refusals)]) := by
  refine xMetw (Qc := fun A => xQw True (.returned (some (.int u.1))) X [(h0, xO 7 [.int v_laws, .ref h1, .ref h2, .int v_inForce, .int v_depth, .int v_miss, .long v_ring, .int v_size, .int v_people, .ref g0, .int v_seed, .int v_taped, .ref g1, .int v_from, .int v_to, .int v_token, .int v_value, .ref g2, .ref g3, .ref g4, .ref h3, .int v_imaged, .ref g5, .long v_oldRing, .ref g6, .long v_aheadRing, .ref g7]), (h1, xI X 6 v_kind), (h2, xI X 6 v_own), (h3, xI X 7 u.2)] A) (n := 1) md_X7_run.1 (Nat.le_of_ble_eq_true rfl) ?_
  intro p e s m args below meth c ls A hC hr hlk hH hl
  have hl : lv_has ls 6 [(0, .ref h0), (1, .int p1)] := hl
  have hx := hC.1
  have hb := hC.2.1
  have L23 : ∀ (n : Nat) (s23 : Int32 × Int32 × Int32), xloop (f_X7_run_L23 v_laws v_inForce v_depth v_ring v_size v_kind v_own v_refusals p1) n s23 = some u → ∀ (H : Heap) (locs : List Loc), xH X A [(h0, xO 7 [.int v_laws, .ref h1, .ref h2, .int v_inForce, .int v_depth, .int v_miss, .long v_ring, .int v_size, .int v_people, .ref g0, .int v_seed, .int v_taped, .ref g1, .int v_from, .int v_to, .int v_token, .int v_value, .ref g2, .ref g3, .ref g4, .ref h3, .int v_imaged, .ref g5, .long v_oldRing, .ref g6, .long v_aheadRing, .ref g7]), (h1, xI X 6 v_kind), (h2, xI X 6 v_own), (h3, xI X 7 v_refusals)] s.heap H locs → ∀ (ls : Array Slot), lv_has ls 6 [(0, .ref h0), (1, .int p1), (2, .int s23.1), (3, .int s23.2.1), (4, .int s23.2.2)] → W p l e (xrm 5 120) s m args below meth c H locs 0 0 (MQ below (xQw True (.returned (some (.int u.1))) X [(h0, xO 7 [.int v_laws, .ref h1, .ref h2, .int v_inForce, .int v_depth, .int v_miss, .long v_ring, .int v_size, .int v_people, .ref g0, .int v_seed, .int v_taped, .ref g1, .int v_from, .int v_to, .int v_token, .int v_value, .ref g2, .ref g3, .ref g4, .ref h3, .int v_imaged, .ref g5, .long v_oldRing, .ref g6, .long v_aheadRing, .ref g7]), (h1, xI X 6 v_kind), (h2, xI X 6 v_own), (h3, xI X 7 u.2)] A) args s 0 0 A) (F0 m 23 ls []) := by
    intro  n
    induction n with
    | zero => intro s23 hf; exact xloop_0 hf
    | succ n ih23 =>
      intro s23 hf H locs hH ls hl
      obtain ⟨o23, hf, ho23⟩ := xloop_s hf
      have J102 : ∀ (j102_s0 : Int32), f_X7_run_J102 s23 j102_s0 = some o23 → ∀ (H : Heap) (locs : List Loc), xH X A [(h0, xO 7 [.int v_laws, .ref h1, .ref h2, .int v_inForce, .int v_depth, .int v_miss, .long v_ring, .int v_size, .int v_people, .ref g0, .int v_seed, .int v_taped, .ref g1, .int v_from, .int v_to, .int v_token, .int v_value, .ref g2, .ref g3, .ref g4, .ref h3, .int v_imaged, .ref g5, .long v_oldRing, .ref g6, .long v_aheadRing, .ref g7]), (h1, xI X 6 v_kind), (h2, xI X 6 v_own), (h3, xI X 7 v_refusals)] s.heap H locs → ∀ (ls : Array Slot), lv_has ls 6 [(0, .ref h0), (1, .int p1), (2, .int s23.1), (4, .int s23.2.2)] → W p l e (xrm 5 120) s m args below meth c H locs 0 0 (MQ below (xQw True (.returned (some (.int u.1))) X [(h0, xO 7 [.int v_laws, .ref h1, .ref h2, .int v_inForce, .int v_depth, .int v_miss, .long v_ring, .int v_size, .int v_people, .ref g0, .int v_seed, .int v_taped, .ref g1, .int v_from, .int v_to, .int v_token, .int v_value, .ref g2, .ref g3, .ref g4, .ref h3, .int v_imaged, .ref g5, .long v_oldRing, .ref g6, .long v_aheadRing, .ref g7]), (h1, xI X 6 v_kind), (h2, xI X 6 v_own), (h3, xI X 7 u.2)] A) args s 0 0 A) (F0 m 102 ls [.int j102_s0]) := by
        intro j102_s0 hf H locs hH ls hl
        refine lv_istore_n (lv' := [(3, .int j102_s0), (0, .ref h0), (1, .int p1), (2, .int s23.1), (4, .int s23.2.2)]) hx hb dX7_run_102 rfl hl (by decide) rfl (fun ls hl => ?_)
        refine lv_iload_n hx hb dX7_run_103 rfl (lv_at hl 3 rfl) ?_
        refine lv_iload_n hx hb dX7_run_104 rfl (lv_at hl 0 rfl) ?_
        refine x_max hC hl.1 mw_779 mw_773 mw_477 mw_774 (Nat.le_of_ble_eq_true rfl) (Nat.le_of_ble_eq_true rfl) (Nat.le_refl _) (Nat.le_refl _) dX7_run_105 ?_
        refine lv_istore_n (lv' := [(2, .int (xmax s23.1 j102_s0)), (3, .int j102_s0), (0, .ref h0), (1, .int p1), (4, .int s23.2.2)]) hx hb dX7_run_108 rfl hl (by decide) rfl (fun ls hl => ?_)
        refine lv_iinc (v := s23.2.2 + (nI 1)) (lv' := [(4, .int (s23.2.2 + (nI 1))), (2, .int (xmax s23.1 j102_s0)), (3, .int j102_s0), (0, .ref h0), (1, .int p1)]) hx hb dX7_run_109 hl (k := 4) rfl rfl (by decide) rfl (fun ls hl => ?_)
        refine lv_goto (tgt := 23) hx hb dX7_run_112 (by decide) ?_
        have hf := xo_go hf ho23
        exact ih23 (xmax s23.1 j102_s0, j102_s0, s23.2.2 + (nI 1)) hf _ _ hH ls (lv_sub hl [3, 4, 1, 2, 0] rfl)
      have J88 : ∀ (j88_s0 : Int32), f_X7_run_J88 s23 j88_s0 = some o23 → ∀ (H : Heap) (locs : List Loc), xH X A [(h0, xO 7 [.int v_laws, .ref h1, .ref h2, .int v_inForce, .int v_depth, .int v_miss, .long v_ring, .int v_size, .int v_people, .ref g0, .int v_seed, .int v_taped, .ref g1, .int v_from, .int v_to, .int v_token, .int v_value, .ref g2, .ref g3, .ref g4, .ref h3, .int v_imaged, .ref g5, .long v_oldRing, .ref g6, .long v_aheadRing, .ref g7]), (h1, xI X 6 v_kind), (h2, xI X 6 v_own), (h3, xI X 7 v_refusals)] s.heap H locs → ∀ (ls : Array Slot), lv_has ls 6 [(0, .ref h0), (1, .int p1), (2, .int s23.1), (3, .int s23.2.1), (4, .int s23.2.2)] → W p l e (xrm 5 120) s m args below meth c H locs 0 0 (MQ below (xQw True (.returned (some (.int u.1))) X [(h0, xO 7 [.int v_laws, .ref h1, .ref h2, .int v_inForce, .int v_depth, .int v_miss, .long v_ring, .int v_size, .int v_people, .ref g0, .int v_seed, .int v_taped, .ref g1, .int v_from, .int v_to, .int v_token, .int v_value, .ref g2, .ref g3, .ref g4, .ref h3, .int v_imaged, .ref g5, .long v_oldRing, .ref g6, .long v_aheadRing, .ref g7]), (h1, xI X 6 v_kind), (h2, xI X 6 v_own), (h3, xI X 7 u.2)] A) args s 0 0 A) (F0 m 88 ls [.int j88_s0]) := by
        intro j88_s0 hf H locs hH ls hl
        refine lv_istore (lv' := [(5, .int j88_s0), (0, .ref h0), (1, .int p1), (2, .int s23.1), (3, .int s23.2.1), (4, .int s23.2.2)]) hx hb dX7_run_88 hl (by decide) rfl (fun ls hl => ?_)
        refine lv_iload hx hb dX7_run_90 (lv_at hl 0 rfl) ?_
        refine lv_if_eq (tgt := 101) hx hb dX7_run_92 (by decide) (fun c8 => ?_) (fun c8 => ?_)
        · have hf := xt c8 hf
          refine lv_iconst (v := (nI 0)) hx hb dX7_run_101 (by decide) ?_
          exact J102 (nI 0) hf _ _ hH ls (lv_sub hl [1, 2, 3, 5] rfl)
        · have hf := xe c8 hf
          refine lv_iload_n hx hb dX7_run_95 rfl (lv_at hl 4 rfl) ?_
          refine lv_iconst (v := (nI 1)) hx hb dX7_run_96 (by decide) ?_
          refine lv_iadd hx hb dX7_run_97 ?_
          refine lv_goto (tgt := 102) hx hb dX7_run_98 (by decide) ?_
          exact J102 (s23.2.1 + (nI 1)) hf _ _ hH ls (lv_sub hl [1, 2, 3, 5] rfl)
      have J80 : ∀ (j80_s0 : Int32) (j80_s1 : Int32), f_X7_run_J80 s23 j80_s0 j80_s1 = some o23 → ∀ (H : Heap) (locs : List Loc), xH X A [(h0, xO 7 [.int v_laws, .ref h1, .ref h2, .int v_inForce, .int v_depth, .int v_miss, .long v_ring, .int v_size, .int v_people, .ref g0, .int v_seed, .int v_taped, .ref g1, .int v_from, .int v_to, .int v_token, .int v_value, .ref g2, .ref g3, .ref g4, .ref h3, .int v_imaged, .ref g5, .long v_oldRing, .ref g6, .long v_aheadRing, .ref g7]), (h1, xI X 6 v_kind), (h2, xI X 6 v_own), (h3, xI X 7 v_refusals)] s.heap H locs → ∀ (ls : Array Slot), lv_has ls 6 [(0, .ref h0), (1, .int p1), (2, .int s23.1), (3, .int s23.2.1), (4, .int s23.2.2)] → W p l e (xrm 5 120) s m args below meth c H locs 0 0 (MQ below (xQw True (.returned (some (.int u.1))) X [(h0, xO 7 [.int v_laws, .ref h1, .ref h2, .int v_inForce, .int v_depth, .int v_miss, .long v_ring, .int v_size, .int v_people, .ref g0, .int v_seed, .int v_taped, .ref g1, .int v_from, .int v_to, .int v_token, .int v_value, .ref g2, .ref g3, .ref g4, .ref h3, .int v_imaged, .ref g5, .long v_oldRing, .ref g6, .long v_aheadRing, .ref g7]), (h1, xI X 6 v_kind), (h2, xI X 6 v_own), (h3, xI X 7 u.2)] A) args s 0 0 A) (F0 m 80 ls [.int j80_s1, .int j80_s0]) := by
        intro j80_s0 j80_s1 hf H locs hH ls hl
        refine lv_icmp_ne (tgt := 87) hx hb dX7_run_80 (by decide) (fun c7 => ?_) (fun c7 => ?_)
        · have hf := xe c7 hf
          refine lv_iconst (v := (nI 0)) hx hb dX7_run_87 (by decide) ?_
          exact J88 (nI 0) hf _ _ hH ls (lv_sub hl [0, 1, 2, 3, 4] rfl)
        · have hf := xt c7 hf
          refine lv_iconst (v := (nI 1)) hx hb dX7_run_83 (by decide) ?_
          refine lv_goto (tgt := 88) hx hb dX7_run_84 (by decide) ?_
          exact J88 (nI 1) hf _ _ hH ls (lv_sub hl [0, 1, 2, 3, 4] rfl)
      refine lv_iload hx hb dX7_run_23 (lv_at hl 4 rfl) ?_
      refine lv_aload_n hx hb dX7_run_25 rfl (lv_at hl 0 rfl) ?_
      refine x_get hC fd_RX7_62 hH.1 0 rfl rfl dX7_run_26 ?_
      refine lv_icmp_ge (tgt := 115) hx hb dX7_run_29 (by decide) (fun c3 => ?_) (fun c3 => ?_)
      · have hf := xt c3 hf
        refine lv_iload_n hx hb dX7_run_115 rfl (lv_at hl 2 rfl) ?_
        have hf := xo_ret hf ho23
        exact x_retiw (φ := fun _ => True) (f := fun u : Int32 × (Nat → Int32) => u.1) (wf := fun u : Int32 × (Nat → Int32) => [(h0, xO 7 [.int v_laws, .ref h1, .ref h2, .int v_inForce, .int v_depth, .int v_miss, .long v_ring, .int v_size, .int v_people, .ref g0, .int v_seed, .int v_taped, .ref g1, .int v_from, .int v_to, .int v_token, .int v_value, .ref g2, .ref g3, .ref g4, .ref h3, .int v_imaged, .ref g5, .long v_oldRing, .ref g6, .long v_aheadRing, .ref g7]), (h1, xI X 6 v_kind), (h2, xI X 6 v_own), (h3, xI X 7 u.2)]) hC hr hlk trivial hf hH rfl rfl dX7_run_116
      · have hf := xe c3 hf
        refine lv_iload_n hx hb dX7_run_32 rfl (lv_at hl 1 rfl) ?_
        refine lv_iconst (v := (nI 2)) hx hb dX7_run_33 (by decide) ?_
        refine lv_icmp_ne (tgt := 62) hx hb dX7_run_34 (by decide) (fun c4 => ?_) (fun c4 => ?_)
        · have hf := xe c4 hf
          refine lv_aload_n hx hb dX7_run_62 rfl (lv_at hl 0 rfl) ?_
          refine x_get hC fd_RX7_90 hH.1 0 rfl rfl dX7_run_63 ?_
          refine lv_iload hx hb dX7_run_66 (lv_at hl 4 rfl) ?_
          obtain ⟨u5, hf5, hf⟩ := xb hf
          refine x_ran (x_runS (rest := []) (As := [.long v_ring, .int s23.2.2]) hC mw_336 md_X7_has (c_X7_has (X := X) hf5) hH [] rfl (by decide) hl.1 rfl rfl (Nat.le_of_ble_eq_true rfl) dX7_run_68 ⟨Nat.le_of_ble_eq_true rfl, Nat.le_of_ble_eq_true rfl⟩ ⟨rfl, rfl⟩ ⟨Nat.le_refl _, Nat.le_refl _⟩) rfl (fun hz5 => ?_)
          refine lv_iload_n hx hb dX7_run_71 rfl (lv_at hl 1 rfl) ?_
          refine lv_if_ne (tgt := 79) hx hb dX7_run_72 (by decide) (fun c6 => ?_) (fun c6 => ?_)
          · have hf := xe c6 hf
            refine lv_iconst (v := (nI 0)) hx hb dX7_run_79 (by decide) ?_
            exact J80 u5 (nI 0) hf _ _ hH ls (lv_sub hl [0, 1, 2, 3, 4] rfl)
          · have hf := xt c6 hf
            refine lv_iconst (v := (nI 1)) hx hb dX7_run_75 (by decide) ?_
            refine lv_goto (tgt := 80) hx hb dX7_run_76 (by decide) ?_
            exact J80 u5 (nI 1) hf _ _ hH ls (lv_sub hl [0, 1, 2, 3, 4] rfl)
        · have hf := xt c4 hf
          refine lv_aload_n hx hb dX7_run_37 rfl (lv_at hl 0 rfl) ?_
          refine lv_aload_n hx hb dX7_run_38 rfl (lv_at hl 0 rfl) ?_
          refine x_get hC fd_RX7_90 hH.1 0 rfl rfl dX7_run_39 ?_
          refine lv_aload_n hx hb dX7_run_42 rfl (lv_at hl 0 rfl) ?_
          refine x_get hC fd_RX7_62 hH.1 0 rfl rfl dX7_run_43 ?_
          refine lv_iload hx hb dX7_run_46 (lv_at hl 4 rfl) ?_
          obtain ⟨u9, hf9, hf⟩ := xb hf
          refine x_ran (x_runV (q0 := 0) (rest := []) (As := [.long v_ring, .int v_size, .int s23.2.2]) hC mw_732 md_X7_isHeard (c_X7_isHeard (X := X) hf9) hH [0, 1, 2] rfl (by decide) rfl rfl rfl hl.1 rfl rfl (Nat.le_of_ble_eq_true rfl) dX7_run_48 ⟨Nat.le_of_ble_eq_true rfl, Nat.le_of_ble_eq_true rfl⟩ ⟨rfl, rfl⟩ ⟨Nat.le_refl _, Nat.le_refl _⟩) rfl (fun hz9 => ?_)
          refine lv_if_ne (tgt := 58) hx hb dX7_run_51 (by decide) (fun c10 => ?_) (fun c10 => ?_)
          · have hf := xe c10 hf
            refine lv_iconst (v := (nI 0)) hx hb dX7_run_58 (by decide) ?_
            refine lv_goto (tgt := 88) hx hb dX7_run_59 (by decide) ?_
            exact J88 (nI 0) hf _ _ hH ls (lv_sub hl [0, 1, 2, 3, 4] rfl)
          · have hf := xt c10 hf
            refine lv_iconst (v := (nI 1)) hx hb dX7_run_54 (by decide) ?_
            refine lv_goto (tgt := 88) hx hb dX7_run_55 (by decide) ?_
            exact J88 (nI 1) hf _ _ hH ls (lv_sub hl [0, 1, 2, 3, 4] rfl)
  refine lv_iload_n hx hb dX7_run_0 rfl (lv_at hl 1 rfl) ?_
  refine lv_iconst (v := (nI 0)) hx hb dX7_run_1 (by decide) ?_
  refine lv_iconst (v := (nI 2)) hx hb dX7_run_2 (by decide) ?_
  obtain ⟨u1, hf1, hf⟩ := xb hf
  refine x_ran (x_runS (rest := []) (As := [.int p1, .int (nI 0), .int (nI 2)]) hC mw_140 md_X7_within (c_X7_within (X := X) hf1) hH [] rfl (by decide) hl.1 rfl rfl (Nat.le_of_ble_eq_true rfl) dX7_run_3 ⟨Nat.le_of_ble_eq_true rfl, Nat.le_of_ble_eq_true rfl⟩ ⟨rfl, rfl⟩ ⟨Nat.le_refl _, Nat.le_refl _⟩) rfl (fun hz1 => ?_)
  refine lv_if_ne (tgt := 16) hx hb dX7_run_6 (by decide) (fun c2 => ?_) (fun c2 => ?_)
  · have hf := xe c2 hf
    refine lv_iconst (v := (nI 0)) hx hb dX7_run_16 (by decide) ?_
    refine lv_istore_n (lv' := [(2, .int (nI 0)), (0, .ref h0), (1, .int p1)]) hx hb dX7_run_17 rfl hl (by decide) rfl (fun ls hl => ?_)
    refine lv_iconst (v := (nI 0)) hx hb dX7_run_18 (by decide) ?_
    refine lv_istore_n (lv' := [(3, .int (nI 0)), (2, .int (nI 0)), (0, .ref h0), (1, .int p1)]) hx hb dX7_run_19 rfl hl (by decide) rfl (fun ls hl => ?_)
    refine lv_iconst (v := (nI 0)) hx hb dX7_run_20 (by decide) ?_
    refine lv_istore (lv' := [(4, .int (nI 0)), (3, .int (nI 0)), (2, .int (nI 0)), (0, .ref h0), (1, .int p1)]) hx hb dX7_run_21 hl (by decide) rfl (fun ls hl => ?_)
    exact L23 xN ((nI 0), (nI 0), (nI 0)) hf _ _ hH ls (lv_sub hl [3, 4, 2, 1, 0] rfl)
  · have hf := xt c2 hf
    refine lv_aload_n hx hb dX7_run_9 rfl (lv_at hl 0 rfl) ?_
    refine lv_bipush (v := (-2 : Int32)) hx hb dX7_run_10 (by decide) ?_
    obtain ⟨u11, hf11, hf⟩ := xb hf
    refine x_ranw (ws' := [(h0, xO 7 [.int v_laws, .ref h1, .ref h2, .int v_inForce, .int v_depth, .int v_miss, .long v_ring, .int v_size, .int v_people, .ref g0, .int v_seed, .int v_taped, .ref g1, .int v_from, .int v_to, .int v_token, .int v_value, .ref g2, .ref g3, .ref g4, .ref h3, .int v_imaged, .ref g5, .long v_oldRing, .ref g6, .long v_aheadRing, .ref g7]), (h1, xI X 6 v_kind), (h2, xI X 6 v_own), (h3, xI X 7 u11.2)]) (x_runV (q0 := 0) (rest := []) (As := [.int (-2 : Int32)]) hC mw_143 md_X7_no (c_X7_no (X := X) hf11) hH [0, 3] rfl (by decide) rfl rfl rfl hl.1 rfl rfl (Nat.le_of_ble_eq_true rfl) dX7_run_12 ⟨Nat.le_of_ble_eq_true rfl, Nat.le_of_ble_eq_true rfl⟩ ⟨rfl, rfl⟩ ⟨Nat.le_refl _, Nat.le_refl _⟩) hH [0, 3] rfl rfl rfl rfl rfl (fun hz11 H locs hH => ?_)
    exact x_retiw (φ := fun _ => True) (f := fun u : Int32 × (Nat → Int32) => u.1) (wf := fun u : Int32 × (Nat → Int32) => [(h0, xO 7 [.int v_laws, .ref h1, .ref h2, .int v_inForce, .int v_depth, .int v_miss, .long v_ring, .int v_size, .int v_people, .ref g0, .int v_seed, .int v_taped, .ref g1, .int v_from, .int v_to, .int v_token, .int v_value, .ref g2, .ref g3, .ref g4, .ref h3, .int v_imaged, .ref g5, .long v_oldRing, .ref g6, .long v_aheadRing, .ref g7]), (h1, xI X 6 v_kind), (h2, xI X 6 v_own), (h3, xI X 7 u.2)]) hC hr hlk trivial hf hH rfl rfl dX7_run_15
def f_X7_looped_L4 (v_laws : Int32) (v_inForce : Int32) (v_ring : Int64) (v_size : Int32) (v_kind : (Nat → Int32)) (v_own : (Nat → Int32)) (p1 : Int32) (s4 : Int32 × Int32) : Option ((Int32) ⊕ (Int32 × Int32)) :=
  if v_size ≤ s4.2 then
    some (.inl s4.1)
  else
  (f_X7_strikesNow v_laws v_inForce v_kind v_own v_ring v_size ((p1 * v_size) + s4.2)).bind fun u2 =>
  if u2 = (nI 0) then
    some (.inr (s4.1, s4.2 + (nI 1)))
  else
  some (.inr (s4.1 + (nI 1), s4.2 + (nI 1)))
def f_X7_looped (v_laws : Int32) (v_inForce : Int32) (v_ring : Int64) (v_size : Int32) (v_kind : (Nat → Int32)) (v_own : (Nat → Int32)) (p1 : Int32) : Option (Int32) :=
  xloop (f_X7_looped_L4 v_laws v_inForce v_ring v_size v_kind v_own p1) xN ((nI 0), (nI 0))
set_option maxHeartbeats 4000000 in
set_option maxRecDepth 100000 in
theorem c_X7_looped {l : Launch} {X : xG} {h0 h1 h2 g0 g1 g2 g3 g4 g5 g6 g7 g8 : Nat} {v_laws : Int32} {v_inForce : Int32} {v_depth : Int32} {v_miss : Int32} {v_ring : Int64} {v_size : Int32} {v_people : Int32} {v_seed : Int32} {v_taped : Int32} {v_from : Int32} {v_to : Int32} {v_token : Int32} {v_value : Int32} {v_imaged : Int32} {v_oldRing : Int64} {v_aheadRing : Int64} {v_kind : (Nat → Int32)} {v_own : (Nat → Int32)} {p1 : Int32} {u : Int32} (hf : f_X7_looped v_laws v_inForce v_ring v_size v_kind v_own p1 = some u) : Met l yX7_looped (xw yX7_looped cX7_looped 4 (some .int)) (xrm 4 96) (xPc [.ref h0, .int p1] X [(h0, xO 7 [.int v_laws, .ref h1, .ref h2, .int v_inForce, .int v_depth, .int v_miss, .long v_ring, .int v_size, .int v_people, .ref g0, .int v_seed, .int v_taped, .ref g1, .int v_from, .int v_to, .int v_token, .int v_value, .ref g2, .ref g3, .ref g4, .ref g5, .int v_imaged, .ref g6, .long v_oldRing, .ref g7, .long v_aheadRing, .ref g8]), (h1, xI X 6 v_kind), (h2, xI X 6 v_own)]) (xQ True (.returned (some (.int u)))) 0 0 xNo := by
  refine xMet (n := 1) md_X7_looped.1 (Nat.le_of_ble_eq_true rfl) ?_
  intro p e s m args below meth c ls A hC hr hlk hH hl
  have hl : lv_has ls 4 [(0, .ref h0), (1, .int p1)] := hl
  have hx := hC.1
  have hb := hC.2.1
  have L4 : ∀ (n : Nat) (s4 : Int32 × Int32), xloop (f_X7_looped_L4 v_laws v_inForce v_ring v_size v_kind v_own p1) n s4 = some u → ∀ (ls : Array Slot), lv_has ls 4 [(0, .ref h0), (1, .int p1), (2, .int s4.1), (3, .int s4.2)] → W p l e (xrm 4 96) s m args below meth c s.heap [] 0 0 (MQ below (xQ True (.returned (some (.int u)))) args s 0 0 xNo) (F0 m 4 ls []) := by
    intro  n
    induction n with
    | zero => intro s4 hf; exact xloop_0 hf
    | succ n ih4 =>
      intro s4 hf ls hl
      obtain ⟨o4, hf, ho4⟩ := xloop_s hf
      refine lv_iload_n hx hb dX7_looped_4 rfl (lv_at hl 3 rfl) ?_
      refine lv_aload_n hx hb dX7_looped_5 rfl (lv_at hl 0 rfl) ?_
      refine x_get hC fd_RX7_62 hH.1 0 rfl rfl dX7_looped_6 ?_
      refine lv_icmp_ge (tgt := 44) hx hb dX7_looped_9 (by decide) (fun c1 => ?_) (fun c1 => ?_)
      · have hf := xt c1 hf
        refine lv_iload_n hx hb dX7_looped_44 rfl (lv_at hl 2 rfl) ?_
        have hf := xo_ret hf ho4
        exact x_reti hC hr hlk trivial hf dX7_looped_45
      · have hf := xe c1 hf
        refine lv_aload_n hx hb dX7_looped_12 rfl (lv_at hl 0 rfl) ?_
        refine lv_aload_n hx hb dX7_looped_13 rfl (lv_at hl 0 rfl) ?_
        refine x_get hC fd_RX7_90 hH.1 0 rfl rfl dX7_looped_14 ?_
        refine lv_aload_n hx hb dX7_looped_17 rfl (lv_at hl 0 rfl) ?_
        refine x_get hC fd_RX7_62 hH.1 0 rfl rfl dX7_looped_18 ?_
        refine lv_iload_n hx hb dX7_looped_21 rfl (lv_at hl 1 rfl) ?_
        refine lv_aload_n hx hb dX7_looped_22 rfl (lv_at hl 0 rfl) ?_
        refine x_get hC fd_RX7_62 hH.1 0 rfl rfl dX7_looped_23 ?_
        refine lv_imul hx hb dX7_looped_26 ?_
        refine lv_iload_n hx hb dX7_looped_27 rfl (lv_at hl 3 rfl) ?_
        refine lv_iadd hx hb dX7_looped_28 ?_
        obtain ⟨u2, hf2, hf⟩ := xb hf
        refine x_ran (x_runV (q0 := 0) (rest := []) (As := [.long v_ring, .int v_size, .int ((p1 * v_size) + s4.2)]) hC mw_702 md_X7_strikesNow (c_X7_strikesNow (X := X) hf2) hH [0, 1, 2] rfl (by decide) rfl rfl rfl hl.1 rfl rfl (Nat.le_of_ble_eq_true rfl) dX7_looped_29 ⟨Nat.le_of_ble_eq_true rfl, Nat.le_of_ble_eq_true rfl⟩ ⟨rfl, rfl⟩ ⟨Nat.le_refl _, Nat.le_refl _⟩) rfl (fun hz2 => ?_)
        refine lv_if_eq (tgt := 38) hx hb dX7_looped_32 (by decide) (fun c3 => ?_) (fun c3 => ?_)
        · have hf := xt c3 hf
          refine lv_iinc (v := s4.2 + (nI 1)) (lv' := [(3, .int (s4.2 + (nI 1))), (0, .ref h0), (1, .int p1), (2, .int s4.1)]) hx hb dX7_looped_38 hl (k := 3) rfl rfl (by decide) rfl (fun ls hl => ?_)
          refine lv_goto (tgt := 4) hx hb dX7_looped_41 (by decide) ?_
          have hf := xo_go hf ho4
          exact ih4 (s4.1, s4.2 + (nI 1)) hf ls (lv_sub hl [1, 2, 3, 0] rfl)
        · have hf := xe c3 hf
          refine lv_iinc (v := s4.1 + (nI 1)) (lv' := [(2, .int (s4.1 + (nI 1))), (0, .ref h0), (1, .int p1), (3, .int s4.2)]) hx hb dX7_looped_35 hl (k := 2) rfl rfl (by decide) rfl (fun ls hl => ?_)
          refine lv_iinc (v := s4.2 + (nI 1)) (lv' := [(3, .int (s4.2 + (nI 1))), (2, .int (s4.1 + (nI 1))), (0, .ref h0), (1, .int p1)]) hx hb dX7_looped_38 hl (k := 3) rfl rfl (by decide) rfl (fun ls hl => ?_)
          refine lv_goto (tgt := 4) hx hb dX7_looped_41 (by decide) ?_
          have hf := xo_go hf ho4
          exact ih4 (s4.1 + (nI 1), s4.2 + (nI 1)) hf ls (lv_sub hl [2, 3, 1, 0] rfl)
  refine lv_iconst (v := (nI 0)) hx hb dX7_looped_0 (by decide) ?_
  refine lv_istore_n (lv' := [(2, .int (nI 0)), (0, .ref h0), (1, .int p1)]) hx hb dX7_looped_1 rfl hl (by decide) rfl (fun ls hl => ?_)
  refine lv_iconst (v := (nI 0)) hx hb dX7_looped_2 (by decide) ?_
  refine lv_istore_n (lv' := [(3, .int (nI 0)), (2, .int (nI 0)), (0, .ref h0), (1, .int p1)]) hx hb dX7_looped_3 rfl hl (by decide) rfl (fun ls hl => ?_)
  exact L4 xN ((nI 0), (nI 0)) hf ls (lv_sub hl [2, 3, 1, 0] rfl)
def f_X7_loop (v_laws : Int32) (v_inForce : Int32) (v_ring : Int64) (v_size : Int32) (v_kind : (Nat → Int32)) (v_own : (Nat → Int32)) (v_refusals : (Nat → Int32)) (p1 : Int32) : Option (Int32 × (Nat → Int32)) :=
  (f_X7_within p1 (nI 0) (nI 60)).bind fun u1 =>
  if u1 = (nI 0) then
    (f_X7_no v_refusals (-2 : Int32)).bind fun u6 =>
    some (u6.1, u6.2)
  else
  if v_laws = (nI 0) then
    (f_X7_no v_refusals (-5 : Int32)).bind fun u5 =>
    some (u5.1, u5.2)
  else
  (f_X7_looped v_laws v_inForce v_ring v_size v_kind v_own p1).bind fun u4 =>
  some (u4, v_refusals)
set_option maxHeartbeats 4000000 in
set_option maxRecDepth 100000 in
theorem c_X7_loop {l : Launch} {X : xG} {h0 h1 h2 h3 g0 g1 g2 g3 g4 g5 g6 g7 : Nat} {v_laws : Int32} {v_inForce : Int32} {v_depth : Int32} {v_miss : Int32} {v_ring : Int64} {v_size : Int32} {v_people : Int32} {v_seed : Int32} {v_taped : Int32} {v_from : Int32} {v_to : Int32} {v_token : Int32} {v_value : Int32} {v_imaged : Int32} {v_oldRing : Int64} {v_aheadRing : Int64} {v_kind : (Nat → Int32)} {v_own : (Nat → Int32)} {v_refusals : (Nat → Int32)} {p1 : Int32} {u : Int32 × (Nat → Int32)} (hf : f_X7_loop v_laws v_inForce v_ring v_size v_kind v_own v_refusals p1 = some u) : Met l yX7_loop (xw yX7_loop cX7_loop 2 (some .int)) (xrm 5 119) (xPc [.ref h0, .int p1] X [(h0, xO 7 [.int v_laws, .ref h1, .ref h2, .int v_inForce, .int v_depth, .int v_miss, .long v_ring, .int v_size, .int v_people, .ref g0, .int v_seed, .int v_taped, .ref g1, .int v_from, .int v_to, .int v_token, .int v_value, .ref g2, .ref g3, .ref g4, .ref h3, .int v_imaged, .ref g5, .long v_oldRing, .ref g6, .long v_aheadRing, .ref g7]), (h1, xI X 6 v_kind), (h2, xI X 6 v_own), (h3, xI X 7 v_refusals)]) (xQw True (.returned (some (.int u.1))) X [(h0, xO 7 [.int v_laws, .ref h1, .ref h2, .int v_inForce, .int v_depth, .int v_miss, .long v_ring, .int v_size, .int v_people, .ref g0, .int v_seed, .int v_taped, .ref g1, .int v_from, .int v_to, .int v_token, .int v_value, .ref g2, .ref g3, .ref g4, .ref h3, .int v_imaged, .ref g5, .long v_oldRing, .ref g6, .long v_aheadRing, .ref g7]), (h1, xI X 6 v_kind), (h2, xI X 6 v_own), (h3, xI X 7 u.2)] (xAs [(h0, xO 7 [.int v_laws, .ref h1, .ref h2, .int v_inForce, .int v_depth, .int v_miss, .long v_ring, .int v_size, .int v_people, .ref g0, .int v_seed, .int v_taped, .ref g1, .int v_from, .int v_to, .int v_token, .int v_value, .ref g2, .ref g3, .ref g4, .ref h3, .int v_imaged, .ref g5, .long v_oldRing, .ref g6, .long v_aheadRing, .ref g7]), (h1, xI X 6 v_kind), (h2, xI X 6 v_own), (h3, xI X 7 v_refusals)])) 0 0 (xAs [(h0, xO 7 [.int v_laws, .ref h1, .ref h2, .int v_inForce, .int v_depth, .int v_miss, .long v_ring, .int v_size, .int v_people, .ref g0, .int v_seed, .int v_taped, .ref g1, .int v_from, .int v_to, .int v_token, .int v_value, .ref g2, .ref g3, .ref g4, .ref h3, .int v_imaged, .ref g5, .long v_oldRing, .ref g6, .long v_aheadRing, .ref g7]), (h1, xI X 6 v_kind), (h2, xI X 6 v_own), (h3, xI X 7 v_refusals)]) := by
  refine xMetw (Qc := fun A => xQw True (.returned (some (.int u.1))) X [(h0, xO 7 [.int v_laws, .ref h1, .ref h2, .int v_inForce, .int v_depth, .int v_miss, .long v_ring, .int v_size, .int v_people, .ref g0, .int v_seed, .int v_taped, .ref g1, .int v_from, .int v_to, .int v_token, .int v_value, .ref g2, .ref g3, .ref g4, .ref h3, .int v_imaged, .ref g5, .long v_oldRing, .ref g6, .long v_aheadRing, .ref g7]), (h1, xI X 6 v_kind), (h2, xI X 6 v_own), (h3, xI X 7 u.2)] A) (n := 1) md_X7_loop.1 (Nat.le_of_ble_eq_true rfl) ?_
  intro p e s m args below meth c ls A hC hr hlk hH hl
  have hl : lv_has ls 2 [(0, .ref h0), (1, .int p1)] := hl
  have hx := hC.1
  have hb := hC.2.1
  refine lv_iload_n hx hb dX7_loop_0 rfl (lv_at hl 1 rfl) ?_
  refine lv_iconst (v := (nI 0)) hx hb dX7_loop_1 (by decide) ?_
  refine lv_bipush (v := (nI 60)) hx hb dX7_loop_2 (by decide) ?_
  obtain ⟨u1, hf1, hf⟩ := xb hf
  refine x_ran (x_runS (rest := []) (As := [.int p1, .int (nI 0), .int (nI 60)]) hC mw_140 md_X7_within (c_X7_within (X := X) hf1) hH [] rfl (by decide) hl.1 rfl rfl (Nat.le_of_ble_eq_true rfl) dX7_loop_4 ⟨Nat.le_of_ble_eq_true rfl, Nat.le_of_ble_eq_true rfl⟩ ⟨rfl, rfl⟩ ⟨Nat.le_refl _, Nat.le_refl _⟩) rfl (fun hz1 => ?_)
  refine lv_if_ne (tgt := 17) hx hb dX7_loop_7 (by decide) (fun c2 => ?_) (fun c2 => ?_)
  · have hf := xe c2 hf
    refine lv_aload_n hx hb dX7_loop_17 rfl (lv_at hl 0 rfl) ?_
    refine x_get hC fd_RX7_52 hH.1 0 rfl rfl dX7_loop_18 ?_
    refine lv_if_ne (tgt := 33) hx hb dX7_loop_21 (by decide) (fun c3 => ?_) (fun c3 => ?_)
    · have hf := xe c3 hf
      refine lv_aload_n hx hb dX7_loop_33 rfl (lv_at hl 0 rfl) ?_
      refine lv_iload_n hx hb dX7_loop_34 rfl (lv_at hl 1 rfl) ?_
      obtain ⟨u4, hf4, hf⟩ := xb hf
      refine x_ran (x_runV (q0 := 0) (rest := []) (As := [.int p1]) hC mw_792 md_X7_looped (c_X7_looped (X := X) hf4) hH [0, 1, 2] rfl (by decide) rfl rfl rfl hl.1 rfl rfl (Nat.le_of_ble_eq_true rfl) dX7_loop_35 ⟨Nat.le_of_ble_eq_true rfl, Nat.le_of_ble_eq_true rfl⟩ ⟨rfl, rfl⟩ ⟨Nat.le_refl _, Nat.le_refl _⟩) rfl (fun hz4 => ?_)
      exact x_retiw (φ := fun _ => True) (f := fun u : Int32 × (Nat → Int32) => u.1) (wf := fun u : Int32 × (Nat → Int32) => [(h0, xO 7 [.int v_laws, .ref h1, .ref h2, .int v_inForce, .int v_depth, .int v_miss, .long v_ring, .int v_size, .int v_people, .ref g0, .int v_seed, .int v_taped, .ref g1, .int v_from, .int v_to, .int v_token, .int v_value, .ref g2, .ref g3, .ref g4, .ref h3, .int v_imaged, .ref g5, .long v_oldRing, .ref g6, .long v_aheadRing, .ref g7]), (h1, xI X 6 v_kind), (h2, xI X 6 v_own), (h3, xI X 7 u.2)]) hC hr hlk trivial hf hH rfl rfl dX7_loop_38
    · have hf := xt c3 hf
      refine lv_aload_n hx hb dX7_loop_24 rfl (lv_at hl 0 rfl) ?_
      refine lv_bipush (v := (-5 : Int32)) hx hb dX7_loop_25 (by decide) ?_
      obtain ⟨u5, hf5, hf⟩ := xb hf
      refine x_ranw (ws' := [(h0, xO 7 [.int v_laws, .ref h1, .ref h2, .int v_inForce, .int v_depth, .int v_miss, .long v_ring, .int v_size, .int v_people, .ref g0, .int v_seed, .int v_taped, .ref g1, .int v_from, .int v_to, .int v_token, .int v_value, .ref g2, .ref g3, .ref g4, .ref h3, .int v_imaged, .ref g5, .long v_oldRing, .ref g6, .long v_aheadRing, .ref g7]), (h1, xI X 6 v_kind), (h2, xI X 6 v_own), (h3, xI X 7 u5.2)]) (x_runV (q0 := 0) (rest := []) (As := [.int (-5 : Int32)]) hC mw_143 md_X7_no (c_X7_no (X := X) hf5) hH [0, 3] rfl (by decide) rfl rfl rfl hl.1 rfl rfl (Nat.le_of_ble_eq_true rfl) dX7_loop_27 ⟨Nat.le_of_ble_eq_true rfl, Nat.le_of_ble_eq_true rfl⟩ ⟨rfl, rfl⟩ ⟨Nat.le_refl _, Nat.le_refl _⟩) hH [0, 3] rfl rfl rfl rfl rfl (fun hz5 H locs hH => ?_)
      refine lv_goto (tgt := 38) hx hb dX7_loop_30 (by decide) ?_
      exact x_retiw (φ := fun _ => True) (f := fun u : Int32 × (Nat → Int32) => u.1) (wf := fun u : Int32 × (Nat → Int32) => [(h0, xO 7 [.int v_laws, .ref h1, .ref h2, .int v_inForce, .int v_depth, .int v_miss, .long v_ring, .int v_size, .int v_people, .ref g0, .int v_seed, .int v_taped, .ref g1, .int v_from, .int v_to, .int v_token, .int v_value, .ref g2, .ref g3, .ref g4, .ref h3, .int v_imaged, .ref g5, .long v_oldRing, .ref g6, .long v_aheadRing, .ref g7]), (h1, xI X 6 v_kind), (h2, xI X 6 v_own), (h3, xI X 7 u.2)]) hC hr hlk trivial hf hH rfl rfl dX7_loop_38
  · have hf := xt c2 hf
    refine lv_aload_n hx hb dX7_loop_10 rfl (lv_at hl 0 rfl) ?_
    refine lv_bipush (v := (-2 : Int32)) hx hb dX7_loop_11 (by decide) ?_
    obtain ⟨u6, hf6, hf⟩ := xb hf
    refine x_ranw (ws' := [(h0, xO 7 [.int v_laws, .ref h1, .ref h2, .int v_inForce, .int v_depth, .int v_miss, .long v_ring, .int v_size, .int v_people, .ref g0, .int v_seed, .int v_taped, .ref g1, .int v_from, .int v_to, .int v_token, .int v_value, .ref g2, .ref g3, .ref g4, .ref h3, .int v_imaged, .ref g5, .long v_oldRing, .ref g6, .long v_aheadRing, .ref g7]), (h1, xI X 6 v_kind), (h2, xI X 6 v_own), (h3, xI X 7 u6.2)]) (x_runV (q0 := 0) (rest := []) (As := [.int (-2 : Int32)]) hC mw_143 md_X7_no (c_X7_no (X := X) hf6) hH [0, 3] rfl (by decide) rfl rfl rfl hl.1 rfl rfl (Nat.le_of_ble_eq_true rfl) dX7_loop_13 ⟨Nat.le_of_ble_eq_true rfl, Nat.le_of_ble_eq_true rfl⟩ ⟨rfl, rfl⟩ ⟨Nat.le_refl _, Nat.le_refl _⟩) hH [0, 3] rfl rfl rfl rfl rfl (fun hz6 H locs hH => ?_)
    exact x_retiw (φ := fun _ => True) (f := fun u : Int32 × (Nat → Int32) => u.1) (wf := fun u : Int32 × (Nat → Int32) => [(h0, xO 7 [.int v_laws, .ref h1, .ref h2, .int v_inForce, .int v_depth, .int v_miss, .long v_ring, .int v_size, .int v_people, .ref g0, .int v_seed, .int v_taped, .ref g1, .int v_from, .int v_to, .int v_token, .int v_value, .ref g2, .ref g3, .ref g4, .ref h3, .int v_imaged, .ref g5, .long v_oldRing, .ref g6, .long v_aheadRing, .ref g7]), (h1, xI X 6 v_kind), (h2, xI X 6 v_own), (h3, xI X 7 u.2)]) hC hr hlk trivial hf hH rfl rfl dX7_loop_16
def f_X7_round_L33 (v_laws : Int32) (v_inForce : Int32) (v_ring : Int64) (v_size : Int32) (v_kind : (Nat → Int32)) (v_own : (Nat → Int32)) (v_refusals : (Nat → Int32)) (s23 : Int32) (s33 : Int32 × Int32) : Option (((Int32 × (Nat → Int32)) ⊕ (Int32)) ⊕ (Int32 × Int32)) :=
  if v_size ≤ s33.2 then
    if s33.1 = (nI 0) then
      some (.inl (.inr (s23 + (nI 1))))
    else
    some (.inl (.inl (s23, v_refusals)))
  else
  (f_X7_strikesNow v_laws v_inForce v_kind v_own v_ring v_size ((s23 * v_size) + s33.2)).bind fun u7 =>
  (f_X7_strikesNow v_laws v_inForce v_kind v_own v_ring v_size (((s23 * v_size) - v_size) + s33.2)).bind fun u8 =>
  if u7 = u8 then
    some (.inr (s33.1, s33.2 + (nI 1)))
  else
  some (.inr ((nI 0), s33.2 + (nI 1)))
def f_X7_round_L23 (v_laws : Int32) (v_inForce : Int32) (v_ring : Int64) (v_size : Int32) (v_kind : (Nat → Int32)) (v_own : (Nat → Int32)) (v_refusals : (Nat → Int32)) (s23 : Int32) : Option ((Int32 × (Nat → Int32)) ⊕ (Int32)) :=
  if (nI 61) ≤ s23 then
    some (.inl ((-1 : Int32), v_refusals))
  else
  xloop (f_X7_round_L33 v_laws v_inForce v_ring v_size v_kind v_own v_refusals s23) xN ((nI 1), (nI 0))
def f_X7_round (v_laws : Int32) (v_inForce : Int32) (v_ring : Int64) (v_size : Int32) (v_kind : (Nat → Int32)) (v_own : (Nat → Int32)) (v_refusals : (Nat → Int32)) : Option (Int32 × (Nat → Int32)) :=
  if v_laws = (nI 0) then
    (f_X7_no v_refusals (-5 : Int32)).bind fun u2 =>
    some (u2.1, u2.2)
  else
  if v_size = (nI 0) then
    (f_X7_no v_refusals (-5 : Int32)).bind fun u10 =>
    some (u10.1, u10.2)
  else
  xloop (f_X7_round_L23 v_laws v_inForce v_ring v_size v_kind v_own v_refusals) xN (nI 1)
set_option maxHeartbeats 4000000 in
set_option maxRecDepth 100000 in
theorem c_X7_round {l : Launch} {X : xG} {h0 h1 h2 h3 g0 g1 g2 g3 g4 g5 g6 g7 : Nat} {v_laws : Int32} {v_inForce : Int32} {v_depth : Int32} {v_miss : Int32} {v_ring : Int64} {v_size : Int32} {v_people : Int32} {v_seed : Int32} {v_taped : Int32} {v_from : Int32} {v_to : Int32} {v_token : Int32} {v_value : Int32} {v_imaged : Int32} {v_oldRing : Int64} {v_aheadRing : Int64} {v_kind : (Nat → Int32)} {v_own : (Nat → Int32)} {v_refusals : (Nat → Int32)} {u : Int32 × (Nat → Int32)} (hf : f_X7_round v_laws v_inForce v_ring v_size v_kind v_own v_refusals = some u) : Met l yX7_round (xw yX7_round cX7_round 4 (some .int)) (xrm 4 96) (xPc [.ref h0] X [(h0, xO 7 [.int v_laws, .ref h1, .ref h2, .int v_inForce, .int v_depth, .int v_miss, .long v_ring, .int v_size, .int v_people, .ref g0, .int v_seed, .int v_taped, .ref g1, .int v_from, .int v_to, .int v_token, .int v_value, .ref g2, .ref g3, .ref g4, .ref h3, .int v_imaged, .ref g5, .long v_oldRing, .ref g6, .long v_aheadRing, .ref g7]), (h1, xI X 6 v_kind), (h2, xI X 6 v_own), (h3, xI X 7 v_refusals)]) (xQw True (.returned (some (.int u.1))) X [(h0, xO 7 [.int v_laws, .ref h1, .ref h2, .int v_inForce, .int v_depth, .int v_miss, .long v_ring, .int v_size, .int v_people, .ref g0, .int v_seed, .int v_taped, .ref g1, .int v_from, .int v_to, .int v_token, .int v_value, .ref g2, .ref g3, .ref g4, .ref h3, .int v_imaged, .ref g5, .long v_oldRing, .ref g6, .long v_aheadRing, .ref g7]), (h1, xI X 6 v_kind), (h2, xI X 6 v_own), (h3, xI X 7 u.2)] (xAs [(h0, xO 7 [.int v_laws, .ref h1, .ref h2, .int v_inForce, .int v_depth, .int v_miss, .long v_ring, .int v_size, .int v_people, .ref g0, .int v_seed, .int v_taped, .ref g1, .int v_from, .int v_to, .int v_token, .int v_value, .ref g2, .ref g3, .ref g4, .ref h3, .int v_imaged, .ref g5, .long v_oldRing, .ref g6, .long v_aheadRing, .ref g7]), (h1, xI X 6 v_kind), (h2, xI X 6 v_own), (h3, xI X 7 v_refusals)])) 0 0 (xAs [(h0, xO 7 [.int v_laws, .ref h1, .ref h2, .int v_inForce, .int v_depth, .int v_miss, .long v_ring, .int v_size, .int v_people, .ref g0, .int v_seed, .int v_taped, .ref g1, .int v_from, .int v_to, .int v_token, .int v_value, .ref g2, .ref g3, .ref g4, .ref h3, .int v_imaged, .ref g5, .long v_oldRing, .ref g6, .long v_aheadRing, .ref g7]), (h1, xI X 6 v_kind), (h2, xI X 6 v_own), (h3, xI X 7 v_refusals)]) := by
  refine xMetw (Qc := fun A => xQw True (.returned (some (.int u.1))) X [(h0, xO 7 [.int v_laws, .ref h1, .ref h2, .int v_inForce, .int v_depth, .int v_miss, .long v_ring, .int v_size, .int v_people, .ref g0, .int v_seed, .int v_taped, .ref g1, .int v_from, .int v_to, .int v_token, .int v_value, .ref g2, .ref g3, .ref g4, .ref h3, .int v_imaged, .ref g5, .long v_oldRing, .ref g6, .long v_aheadRing, .ref g7]), (h1, xI X 6 v_kind), (h2, xI X 6 v_own), (h3, xI X 7 u.2)] A) (n := 0) md_X7_round.1 (Nat.le_of_ble_eq_true rfl) ?_
  intro p e s m args below meth c ls A hC hr hlk hH hl
  have hl : lv_has ls 4 [(0, .ref h0)] := hl
  have hx := hC.1
  have hb := hC.2.1
  have L23 : ∀ (n : Nat) (s23 : Int32), xloop (f_X7_round_L23 v_laws v_inForce v_ring v_size v_kind v_own v_refusals) n s23 = some u → ∀ (H : Heap) (locs : List Loc), xH X A [(h0, xO 7 [.int v_laws, .ref h1, .ref h2, .int v_inForce, .int v_depth, .int v_miss, .long v_ring, .int v_size, .int v_people, .ref g0, .int v_seed, .int v_taped, .ref g1, .int v_from, .int v_to, .int v_token, .int v_value, .ref g2, .ref g3, .ref g4, .ref h3, .int v_imaged, .ref g5, .long v_oldRing, .ref g6, .long v_aheadRing, .ref g7]), (h1, xI X 6 v_kind), (h2, xI X 6 v_own), (h3, xI X 7 v_refusals)] s.heap H locs → ∀ (ls : Array Slot), lv_has ls 4 [(0, .ref h0), (1, .int s23)] → W p l e (xrm 4 96) s m args below meth c H locs 0 0 (MQ below (xQw True (.returned (some (.int u.1))) X [(h0, xO 7 [.int v_laws, .ref h1, .ref h2, .int v_inForce, .int v_depth, .int v_miss, .long v_ring, .int v_size, .int v_people, .ref g0, .int v_seed, .int v_taped, .ref g1, .int v_from, .int v_to, .int v_token, .int v_value, .ref g2, .ref g3, .ref g4, .ref h3, .int v_imaged, .ref g5, .long v_oldRing, .ref g6, .long v_aheadRing, .ref g7]), (h1, xI X 6 v_kind), (h2, xI X 6 v_own), (h3, xI X 7 u.2)] A) args s 0 0 A) (F0 m 23 ls []) := by
    intro  n
    induction n with
    | zero => intro s23 hf; exact xloop_0 hf
    | succ n ih23 =>
      intro s23 hf H locs hH ls hl
      obtain ⟨o23, hf, ho23⟩ := xloop_s hf
      have L33 : ∀ (n : Nat) (s33 : Int32 × Int32), xloop (f_X7_round_L33 v_laws v_inForce v_ring v_size v_kind v_own v_refusals s23) n s33 = some o23 → ∀ (H : Heap) (locs : List Loc), xH X A [(h0, xO 7 [.int v_laws, .ref h1, .ref h2, .int v_inForce, .int v_depth, .int v_miss, .long v_ring, .int v_size, .int v_people, .ref g0, .int v_seed, .int v_taped, .ref g1, .int v_from, .int v_to, .int v_token, .int v_value, .ref g2, .ref g3, .ref g4, .ref h3, .int v_imaged, .ref g5, .long v_oldRing, .ref g6, .long v_aheadRing, .ref g7]), (h1, xI X 6 v_kind), (h2, xI X 6 v_own), (h3, xI X 7 v_refusals)] s.heap H locs → ∀ (ls : Array Slot), lv_has ls 4 [(0, .ref h0), (1, .int s23), (2, .int s33.1), (3, .int s33.2)] → W p l e (xrm 4 96) s m args below meth c H locs 0 0 (MQ below (xQw True (.returned (some (.int u.1))) X [(h0, xO 7 [.int v_laws, .ref h1, .ref h2, .int v_inForce, .int v_depth, .int v_miss, .long v_ring, .int v_size, .int v_people, .ref g0, .int v_seed, .int v_taped, .ref g1, .int v_from, .int v_to, .int v_token, .int v_value, .ref g2, .ref g3, .ref g4, .ref h3, .int v_imaged, .ref g5, .long v_oldRing, .ref g6, .long v_aheadRing, .ref g7]), (h1, xI X 6 v_kind), (h2, xI X 6 v_own), (h3, xI X 7 u.2)] A) args s 0 0 A) (F0 m 33 ls []) := by
        intro  n
        induction n with
        | zero => intro s33 hf; exact xloop_0 hf
        | succ n ih33 =>
          intro s33 hf H locs hH ls hl
          obtain ⟨o33, hf, ho33⟩ := xloop_s hf
          refine lv_iload_n hx hb dX7_round_33 rfl (lv_at hl 3 rfl) ?_
          refine lv_aload_n hx hb dX7_round_34 rfl (lv_at hl 0 rfl) ?_
          refine x_get hC fd_RX7_62 hH.1 0 rfl rfl dX7_round_35 ?_
          refine lv_icmp_ge (tgt := 97) hx hb dX7_round_38 (by decide) (fun c5 => ?_) (fun c5 => ?_)
          · have hf := xt c5 hf
            refine lv_iload_n hx hb dX7_round_97 rfl (lv_at hl 2 rfl) ?_
            refine lv_if_eq (tgt := 103) hx hb dX7_round_98 (by decide) (fun c6 => ?_) (fun c6 => ?_)
            · have hf := xt c6 hf
              refine lv_iinc (v := s23 + (nI 1)) (lv' := [(1, .int (s23 + (nI 1))), (0, .ref h0), (2, .int s33.1), (3, .int s33.2)]) hx hb dX7_round_103 hl (k := 1) rfl rfl (by decide) rfl (fun ls hl => ?_)
              refine lv_goto (tgt := 23) hx hb dX7_round_106 (by decide) ?_
              have hf := xo_ret hf ho33
              have hf := xo_go hf ho23
              exact ih23 (s23 + (nI 1)) hf _ _ hH ls (lv_sub hl [1, 0] rfl)
            · have hf := xe c6 hf
              refine lv_iload_n hx hb dX7_round_101 rfl (lv_at hl 1 rfl) ?_
              have hf := xo_ret hf ho33
              have hf := xo_ret hf ho23
              exact x_retiw (φ := fun _ => True) (f := fun u : Int32 × (Nat → Int32) => u.1) (wf := fun u : Int32 × (Nat → Int32) => [(h0, xO 7 [.int v_laws, .ref h1, .ref h2, .int v_inForce, .int v_depth, .int v_miss, .long v_ring, .int v_size, .int v_people, .ref g0, .int v_seed, .int v_taped, .ref g1, .int v_from, .int v_to, .int v_token, .int v_value, .ref g2, .ref g3, .ref g4, .ref h3, .int v_imaged, .ref g5, .long v_oldRing, .ref g6, .long v_aheadRing, .ref g7]), (h1, xI X 6 v_kind), (h2, xI X 6 v_own), (h3, xI X 7 u.2)]) hC hr hlk trivial hf hH rfl rfl dX7_round_102
          · have hf := xe c5 hf
            refine lv_aload_n hx hb dX7_round_41 rfl (lv_at hl 0 rfl) ?_
            refine lv_aload_n hx hb dX7_round_42 rfl (lv_at hl 0 rfl) ?_
            refine x_get hC fd_RX7_90 hH.1 0 rfl rfl dX7_round_43 ?_
            refine lv_aload_n hx hb dX7_round_46 rfl (lv_at hl 0 rfl) ?_
            refine x_get hC fd_RX7_62 hH.1 0 rfl rfl dX7_round_47 ?_
            refine lv_iload_n hx hb dX7_round_50 rfl (lv_at hl 1 rfl) ?_
            refine lv_aload_n hx hb dX7_round_51 rfl (lv_at hl 0 rfl) ?_
            refine x_get hC fd_RX7_62 hH.1 0 rfl rfl dX7_round_52 ?_
            refine lv_imul hx hb dX7_round_55 ?_
            refine lv_iload_n hx hb dX7_round_56 rfl (lv_at hl 3 rfl) ?_
            refine lv_iadd hx hb dX7_round_57 ?_
            obtain ⟨u7, hf7, hf⟩ := xb hf
            refine x_ran (x_runV (q0 := 0) (rest := []) (As := [.long v_ring, .int v_size, .int ((s23 * v_size) + s33.2)]) hC mw_702 md_X7_strikesNow (c_X7_strikesNow (X := X) hf7) hH [0, 1, 2] rfl (by decide) rfl rfl rfl hl.1 rfl rfl (Nat.le_of_ble_eq_true rfl) dX7_round_58 ⟨Nat.le_of_ble_eq_true rfl, Nat.le_of_ble_eq_true rfl⟩ ⟨rfl, rfl⟩ ⟨Nat.le_refl _, Nat.le_refl _⟩) rfl (fun hz7 => ?_)
            refine lv_aload_n hx hb dX7_round_61 rfl (lv_at hl 0 rfl) ?_
            refine lv_aload_n hx hb dX7_round_62 rfl (lv_at hl 0 rfl) ?_
            refine x_get hC fd_RX7_90 hH.1 0 rfl rfl dX7_round_63 ?_
            refine lv_aload_n hx hb dX7_round_66 rfl (lv_at hl 0 rfl) ?_
            refine x_get hC fd_RX7_62 hH.1 0 rfl rfl dX7_round_67 ?_
            refine lv_iload_n hx hb dX7_round_70 rfl (lv_at hl 1 rfl) ?_
            refine lv_aload_n hx hb dX7_round_71 rfl (lv_at hl 0 rfl) ?_
            refine x_get hC fd_RX7_62 hH.1 0 rfl rfl dX7_round_72 ?_
            refine lv_imul hx hb dX7_round_75 ?_
            refine lv_aload_n hx hb dX7_round_76 rfl (lv_at hl 0 rfl) ?_
            refine x_get hC fd_RX7_62 hH.1 0 rfl rfl dX7_round_77 ?_
            refine lv_isub hx hb dX7_round_80 ?_
            refine lv_iload_n hx hb dX7_round_81 rfl (lv_at hl 3 rfl) ?_
            refine lv_iadd hx hb dX7_round_82 ?_
            obtain ⟨u8, hf8, hf⟩ := xb hf
            refine x_ran (x_runV (q0 := 0) (rest := [.int u7]) (As := [.long v_ring, .int v_size, .int (((s23 * v_size) - v_size) + s33.2)]) hC mw_702 md_X7_strikesNow (c_X7_strikesNow (X := X) hf8) hH [0, 1, 2] rfl (by decide) rfl rfl rfl hl.1 rfl rfl (Nat.le_of_ble_eq_true rfl) dX7_round_83 ⟨Nat.le_of_ble_eq_true rfl, Nat.le_of_ble_eq_true rfl⟩ ⟨rfl, rfl⟩ ⟨Nat.le_refl _, Nat.le_refl _⟩) rfl (fun hz8 => ?_)
            refine lv_icmp_eq (tgt := 91) hx hb dX7_round_86 (by decide) (fun c9 => ?_) (fun c9 => ?_)
            · have hf := xt c9 hf
              refine lv_iinc (v := s33.2 + (nI 1)) (lv' := [(3, .int (s33.2 + (nI 1))), (0, .ref h0), (1, .int s23), (2, .int s33.1)]) hx hb dX7_round_91 hl (k := 3) rfl rfl (by decide) rfl (fun ls hl => ?_)
              refine lv_goto (tgt := 33) hx hb dX7_round_94 (by decide) ?_
              have hf := xo_go hf ho33
              exact ih33 (s33.1, s33.2 + (nI 1)) hf _ _ hH ls (lv_sub hl [1, 2, 3, 0] rfl)
            · have hf := xe c9 hf
              refine lv_iconst (v := (nI 0)) hx hb dX7_round_89 (by decide) ?_
              refine lv_istore_n (lv' := [(2, .int (nI 0)), (0, .ref h0), (1, .int s23), (3, .int s33.2)]) hx hb dX7_round_90 rfl hl (by decide) rfl (fun ls hl => ?_)
              refine lv_iinc (v := s33.2 + (nI 1)) (lv' := [(3, .int (s33.2 + (nI 1))), (2, .int (nI 0)), (0, .ref h0), (1, .int s23)]) hx hb dX7_round_91 hl (k := 3) rfl rfl (by decide) rfl (fun ls hl => ?_)
              refine lv_goto (tgt := 33) hx hb dX7_round_94 (by decide) ?_
              have hf := xo_go hf ho33
              exact ih33 ((nI 0), s33.2 + (nI 1)) hf _ _ hH ls (lv_sub hl [2, 3, 1, 0] rfl)
      refine lv_iload_n hx hb dX7_round_23 rfl (lv_at hl 1 rfl) ?_
      refine lv_bipush (v := (nI 61)) hx hb dX7_round_24 (by decide) ?_
      refine lv_icmp_ge (tgt := 109) hx hb dX7_round_26 (by decide) (fun c4 => ?_) (fun c4 => ?_)
      · have hf := xt c4 hf
        refine lv_iconst (v := (-1 : Int32)) hx hb dX7_round_109 (by decide) ?_
        have hf := xo_ret hf ho23
        exact x_retiw (φ := fun _ => True) (f := fun u : Int32 × (Nat → Int32) => u.1) (wf := fun u : Int32 × (Nat → Int32) => [(h0, xO 7 [.int v_laws, .ref h1, .ref h2, .int v_inForce, .int v_depth, .int v_miss, .long v_ring, .int v_size, .int v_people, .ref g0, .int v_seed, .int v_taped, .ref g1, .int v_from, .int v_to, .int v_token, .int v_value, .ref g2, .ref g3, .ref g4, .ref h3, .int v_imaged, .ref g5, .long v_oldRing, .ref g6, .long v_aheadRing, .ref g7]), (h1, xI X 6 v_kind), (h2, xI X 6 v_own), (h3, xI X 7 u.2)]) hC hr hlk trivial hf hH rfl rfl dX7_round_110
      · have hf := xe c4 hf
        refine lv_iconst (v := (nI 1)) hx hb dX7_round_29 (by decide) ?_
        refine lv_istore_n (lv' := [(2, .int (nI 1)), (0, .ref h0), (1, .int s23)]) hx hb dX7_round_30 rfl hl (by decide) rfl (fun ls hl => ?_)
        refine lv_iconst (v := (nI 0)) hx hb dX7_round_31 (by decide) ?_
        refine lv_istore_n (lv' := [(3, .int (nI 0)), (2, .int (nI 1)), (0, .ref h0), (1, .int s23)]) hx hb dX7_round_32 rfl hl (by decide) rfl (fun ls hl => ?_)
        exact L33 xN ((nI 1), (nI 0)) hf _ _ hH ls (lv_sub hl [2, 3, 1, 0] rfl)
  refine lv_aload_n hx hb dX7_round_0 rfl (lv_at hl 0 rfl) ?_
  refine x_get hC fd_RX7_52 hH.1 0 rfl rfl dX7_round_1 ?_
  refine lv_if_eq (tgt := 14) hx hb dX7_round_4 (by decide) (fun c1 => ?_) (fun c1 => ?_)
  · have hf := xt c1 hf
    refine lv_aload_n hx hb dX7_round_14 rfl (lv_at hl 0 rfl) ?_
    refine lv_bipush (v := (-5 : Int32)) hx hb dX7_round_15 (by decide) ?_
    obtain ⟨u2, hf2, hf⟩ := xb hf
    refine x_ranw (ws' := [(h0, xO 7 [.int v_laws, .ref h1, .ref h2, .int v_inForce, .int v_depth, .int v_miss, .long v_ring, .int v_size, .int v_people, .ref g0, .int v_seed, .int v_taped, .ref g1, .int v_from, .int v_to, .int v_token, .int v_value, .ref g2, .ref g3, .ref g4, .ref h3, .int v_imaged, .ref g5, .long v_oldRing, .ref g6, .long v_aheadRing, .ref g7]), (h1, xI X 6 v_kind), (h2, xI X 6 v_own), (h3, xI X 7 u2.2)]) (x_runV (q0 := 0) (rest := []) (As := [.int (-5 : Int32)]) hC mw_143 md_X7_no (c_X7_no (X := X) hf2) hH [0, 3] rfl (by decide) rfl rfl rfl hl.1 rfl rfl (Nat.le_of_ble_eq_true rfl) dX7_round_17 ⟨Nat.le_of_ble_eq_true rfl, Nat.le_of_ble_eq_true rfl⟩ ⟨rfl, rfl⟩ ⟨Nat.le_refl _, Nat.le_refl _⟩) hH [0, 3] rfl rfl rfl rfl rfl (fun hz2 H locs hH => ?_)
    exact x_retiw (φ := fun _ => True) (f := fun u : Int32 × (Nat → Int32) => u.1) (wf := fun u : Int32 × (Nat → Int32) => [(h0, xO 7 [.int v_laws, .ref h1, .ref h2, .int v_inForce, .int v_depth, .int v_miss, .long v_ring, .int v_size, .int v_people, .ref g0, .int v_seed, .int v_taped, .ref g1, .int v_from, .int v_to, .int v_token, .int v_value, .ref g2, .ref g3, .ref g4, .ref h3, .int v_imaged, .ref g5, .long v_oldRing, .ref g6, .long v_aheadRing, .ref g7]), (h1, xI X 6 v_kind), (h2, xI X 6 v_own), (h3, xI X 7 u.2)]) hC hr hlk trivial hf hH rfl rfl dX7_round_20
  · have hf := xe c1 hf
    refine lv_aload_n hx hb dX7_round_7 rfl (lv_at hl 0 rfl) ?_
    refine x_get hC fd_RX7_62 hH.1 0 rfl rfl dX7_round_8 ?_
    refine lv_if_ne (tgt := 21) hx hb dX7_round_11 (by decide) (fun c3 => ?_) (fun c3 => ?_)
    · have hf := xe c3 hf
      refine lv_iconst (v := (nI 1)) hx hb dX7_round_21 (by decide) ?_
      refine lv_istore_n (lv' := [(1, .int (nI 1)), (0, .ref h0)]) hx hb dX7_round_22 rfl hl (by decide) rfl (fun ls hl => ?_)
      exact L23 xN (nI 1) hf _ _ hH ls (lv_sub hl [1, 0] rfl)
    · have hf := xt c3 hf
      refine lv_aload_n hx hb dX7_round_14 rfl (lv_at hl 0 rfl) ?_
      refine lv_bipush (v := (-5 : Int32)) hx hb dX7_round_15 (by decide) ?_
      obtain ⟨u10, hf10, hf⟩ := xb hf
      refine x_ranw (ws' := [(h0, xO 7 [.int v_laws, .ref h1, .ref h2, .int v_inForce, .int v_depth, .int v_miss, .long v_ring, .int v_size, .int v_people, .ref g0, .int v_seed, .int v_taped, .ref g1, .int v_from, .int v_to, .int v_token, .int v_value, .ref g2, .ref g3, .ref g4, .ref h3, .int v_imaged, .ref g5, .long v_oldRing, .ref g6, .long v_aheadRing, .ref g7]), (h1, xI X 6 v_kind), (h2, xI X 6 v_own), (h3, xI X 7 u10.2)]) (x_runV (q0 := 0) (rest := []) (As := [.int (-5 : Int32)]) hC mw_143 md_X7_no (c_X7_no (X := X) hf10) hH [0, 3] rfl (by decide) rfl rfl rfl hl.1 rfl rfl (Nat.le_of_ble_eq_true rfl) dX7_round_17 ⟨Nat.le_of_ble_eq_true rfl, Nat.le_of_ble_eq_true rfl⟩ ⟨rfl, rfl⟩ ⟨Nat.le_refl _, Nat.le_refl _⟩) hH [0, 3] rfl rfl rfl rfl rfl (fun hz10 H locs hH => ?_)
      exact x_retiw (φ := fun _ => True) (f := fun u : Int32 × (Nat → Int32) => u.1) (wf := fun u : Int32 × (Nat → Int32) => [(h0, xO 7 [.int v_laws, .ref h1, .ref h2, .int v_inForce, .int v_depth, .int v_miss, .long v_ring, .int v_size, .int v_people, .ref g0, .int v_seed, .int v_taped, .ref g1, .int v_from, .int v_to, .int v_token, .int v_value, .ref g2, .ref g3, .ref g4, .ref h3, .int v_imaged, .ref g5, .long v_oldRing, .ref g6, .long v_aheadRing, .ref g7]), (h1, xI X 6 v_kind), (h2, xI X 6 v_own), (h3, xI X 7 u.2)]) hC hr hlk trivial hf hH rfl rfl dX7_round_20
def f_X7_period_L14 (v_ring : Int64) (v_size : Int32) (s2 : Int32) (s14 : Int32 × Int32) : Option (((Int32) ⊕ (Int32)) ⊕ (Int32 × Int32)) :=
  if v_size ≤ s14.2 then
    if s14.1 = (nI 0) then
      some (.inl (.inr (s2 + (nI 1))))
    else
    some (.inl (.inl s2))
  else
  (f_X7_has v_ring s14.2).bind fun u4 =>
  (f_X7_has v_ring (s14.2 - s2)).bind fun u5 =>
  if u4 = u5 then
    some (.inr (s14.1, s14.2 + (nI 1)))
  else
  some (.inr ((nI 0), s14.2 + (nI 1)))
def f_X7_period_L2 (v_ring : Int64) (v_size : Int32) (s2 : Int32) : Option ((Int32) ⊕ (Int32)) :=
  if v_size ≤ s2 then
    some (.inl v_size)
  else
  xloop (f_X7_period_L14 v_ring v_size s2) xN ((nI 1), s2)
def f_X7_period (v_ring : Int64) (v_size : Int32) : Option (Int32) :=
  xloop (f_X7_period_L2 v_ring v_size) xN (nI 1)
set_option maxHeartbeats 4000000 in
set_option maxRecDepth 100000 in
theorem c_X7_period {l : Launch} {X : xG} {h0 g0 g1 g2 g3 g4 g5 g6 g7 g8 g9 g10 : Nat} {v_laws : Int32} {v_inForce : Int32} {v_depth : Int32} {v_miss : Int32} {v_ring : Int64} {v_size : Int32} {v_people : Int32} {v_seed : Int32} {v_taped : Int32} {v_from : Int32} {v_to : Int32} {v_token : Int32} {v_value : Int32} {v_imaged : Int32} {v_oldRing : Int64} {v_aheadRing : Int64} {u : Int32} (hf : f_X7_period v_ring v_size = some u) : Met l yX7_period (xw yX7_period cX7_period 4 (some .int)) (xrm 1 22) (xPc [.ref h0] X [(h0, xO 7 [.int v_laws, .ref g0, .ref g1, .int v_inForce, .int v_depth, .int v_miss, .long v_ring, .int v_size, .int v_people, .ref g2, .int v_seed, .int v_taped, .ref g3, .int v_from, .int v_to, .int v_token, .int v_value, .ref g4, .ref g5, .ref g6, .ref g7, .int v_imaged, .ref g8, .long v_oldRing, .ref g9, .long v_aheadRing, .ref g10])]) (xQ True (.returned (some (.int u)))) 0 0 xNo := by
  refine xMet (n := 0) md_X7_period.1 (Nat.le_of_ble_eq_true rfl) ?_
  intro p e s m args below meth c ls A hC hr hlk hH hl
  have hl : lv_has ls 4 [(0, .ref h0)] := hl
  have hx := hC.1
  have hb := hC.2.1
  have L2 : ∀ (n : Nat) (s2 : Int32), xloop (f_X7_period_L2 v_ring v_size) n s2 = some u → ∀ (ls : Array Slot), lv_has ls 4 [(0, .ref h0), (1, .int s2)] → W p l e (xrm 1 22) s m args below meth c s.heap [] 0 0 (MQ below (xQ True (.returned (some (.int u)))) args s 0 0 xNo) (F0 m 2 ls []) := by
    intro  n
    induction n with
    | zero => intro s2 hf; exact xloop_0 hf
    | succ n ih2 =>
      intro s2 hf ls hl
      obtain ⟨o2, hf, ho2⟩ := xloop_s hf
      have L14 : ∀ (n : Nat) (s14 : Int32 × Int32), xloop (f_X7_period_L14 v_ring v_size s2) n s14 = some o2 → ∀ (ls : Array Slot), lv_has ls 4 [(0, .ref h0), (1, .int s2), (2, .int s14.1), (3, .int s14.2)] → W p l e (xrm 1 22) s m args below meth c s.heap [] 0 0 (MQ below (xQ True (.returned (some (.int u)))) args s 0 0 xNo) (F0 m 14 ls []) := by
        intro  n
        induction n with
        | zero => intro s14 hf; exact xloop_0 hf
        | succ n ih14 =>
          intro s14 hf ls hl
          obtain ⟨o14, hf, ho14⟩ := xloop_s hf
          refine lv_iload_n hx hb dX7_period_14 rfl (lv_at hl 3 rfl) ?_
          refine lv_aload_n hx hb dX7_period_15 rfl (lv_at hl 0 rfl) ?_
          refine x_get hC fd_RX7_62 hH.1 0 rfl rfl dX7_period_16 ?_
          refine lv_icmp_ge (tgt := 51) hx hb dX7_period_19 (by decide) (fun c2 => ?_) (fun c2 => ?_)
          · have hf := xt c2 hf
            refine lv_iload_n hx hb dX7_period_51 rfl (lv_at hl 2 rfl) ?_
            refine lv_if_eq (tgt := 57) hx hb dX7_period_52 (by decide) (fun c3 => ?_) (fun c3 => ?_)
            · have hf := xt c3 hf
              refine lv_iinc (v := s2 + (nI 1)) (lv' := [(1, .int (s2 + (nI 1))), (0, .ref h0), (2, .int s14.1), (3, .int s14.2)]) hx hb dX7_period_57 hl (k := 1) rfl rfl (by decide) rfl (fun ls hl => ?_)
              refine lv_goto (tgt := 2) hx hb dX7_period_60 (by decide) ?_
              have hf := xo_ret hf ho14
              have hf := xo_go hf ho2
              exact ih2 (s2 + (nI 1)) hf ls (lv_sub hl [1, 0] rfl)
            · have hf := xe c3 hf
              refine lv_iload_n hx hb dX7_period_55 rfl (lv_at hl 1 rfl) ?_
              have hf := xo_ret hf ho14
              have hf := xo_ret hf ho2
              exact x_reti hC hr hlk trivial hf dX7_period_56
          · have hf := xe c2 hf
            refine lv_aload_n hx hb dX7_period_22 rfl (lv_at hl 0 rfl) ?_
            refine x_get hC fd_RX7_90 hH.1 0 rfl rfl dX7_period_23 ?_
            refine lv_iload_n hx hb dX7_period_26 rfl (lv_at hl 3 rfl) ?_
            obtain ⟨u4, hf4, hf⟩ := xb hf
            refine x_ran (x_runS (rest := []) (As := [.long v_ring, .int s14.2]) hC mw_336 md_X7_has (c_X7_has (X := X) hf4) hH [] rfl (by decide) hl.1 rfl rfl (Nat.le_of_ble_eq_true rfl) dX7_period_27 ⟨Nat.le_of_ble_eq_true rfl, Nat.le_of_ble_eq_true rfl⟩ ⟨rfl, rfl⟩ ⟨Nat.le_refl _, Nat.le_refl _⟩) rfl (fun hz4 => ?_)
            refine lv_aload_n hx hb dX7_period_30 rfl (lv_at hl 0 rfl) ?_
            refine x_get hC fd_RX7_90 hH.1 0 rfl rfl dX7_period_31 ?_
            refine lv_iload_n hx hb dX7_period_34 rfl (lv_at hl 3 rfl) ?_
            refine lv_iload_n hx hb dX7_period_35 rfl (lv_at hl 1 rfl) ?_
            refine lv_isub hx hb dX7_period_36 ?_
            obtain ⟨u5, hf5, hf⟩ := xb hf
            refine x_ran (x_runS (rest := [.int u4]) (As := [.long v_ring, .int (s14.2 - s2)]) hC mw_336 md_X7_has (c_X7_has (X := X) hf5) hH [] rfl (by decide) hl.1 rfl rfl (Nat.le_of_ble_eq_true rfl) dX7_period_37 ⟨Nat.le_of_ble_eq_true rfl, Nat.le_of_ble_eq_true rfl⟩ ⟨rfl, rfl⟩ ⟨Nat.le_refl _, Nat.le_refl _⟩) rfl (fun hz5 => ?_)
            refine lv_icmp_eq (tgt := 45) hx hb dX7_period_40 (by decide) (fun c6 => ?_) (fun c6 => ?_)
            · have hf := xt c6 hf
              refine lv_iinc (v := s14.2 + (nI 1)) (lv' := [(3, .int (s14.2 + (nI 1))), (0, .ref h0), (1, .int s2), (2, .int s14.1)]) hx hb dX7_period_45 hl (k := 3) rfl rfl (by decide) rfl (fun ls hl => ?_)
              refine lv_goto (tgt := 14) hx hb dX7_period_48 (by decide) ?_
              have hf := xo_go hf ho14
              exact ih14 (s14.1, s14.2 + (nI 1)) hf ls (lv_sub hl [1, 2, 3, 0] rfl)
            · have hf := xe c6 hf
              refine lv_iconst (v := (nI 0)) hx hb dX7_period_43 (by decide) ?_
              refine lv_istore_n (lv' := [(2, .int (nI 0)), (0, .ref h0), (1, .int s2), (3, .int s14.2)]) hx hb dX7_period_44 rfl hl (by decide) rfl (fun ls hl => ?_)
              refine lv_iinc (v := s14.2 + (nI 1)) (lv' := [(3, .int (s14.2 + (nI 1))), (2, .int (nI 0)), (0, .ref h0), (1, .int s2)]) hx hb dX7_period_45 hl (k := 3) rfl rfl (by decide) rfl (fun ls hl => ?_)
              refine lv_goto (tgt := 14) hx hb dX7_period_48 (by decide) ?_
              have hf := xo_go hf ho14
              exact ih14 ((nI 0), s14.2 + (nI 1)) hf ls (lv_sub hl [2, 3, 1, 0] rfl)
      refine lv_iload_n hx hb dX7_period_2 rfl (lv_at hl 1 rfl) ?_
      refine lv_aload_n hx hb dX7_period_3 rfl (lv_at hl 0 rfl) ?_
      refine x_get hC fd_RX7_62 hH.1 0 rfl rfl dX7_period_4 ?_
      refine lv_icmp_ge (tgt := 63) hx hb dX7_period_7 (by decide) (fun c1 => ?_) (fun c1 => ?_)
      · have hf := xt c1 hf
        refine lv_aload_n hx hb dX7_period_63 rfl (lv_at hl 0 rfl) ?_
        refine x_get hC fd_RX7_62 hH.1 0 rfl rfl dX7_period_64 ?_
        have hf := xo_ret hf ho2
        exact x_reti hC hr hlk trivial hf dX7_period_67
      · have hf := xe c1 hf
        refine lv_iconst (v := (nI 1)) hx hb dX7_period_10 (by decide) ?_
        refine lv_istore_n (lv' := [(2, .int (nI 1)), (0, .ref h0), (1, .int s2)]) hx hb dX7_period_11 rfl hl (by decide) rfl (fun ls hl => ?_)
        refine lv_iload_n hx hb dX7_period_12 rfl (lv_at hl 2 rfl) ?_
        refine lv_istore_n (lv' := [(3, .int s2), (2, .int (nI 1)), (0, .ref h0), (1, .int s2)]) hx hb dX7_period_13 rfl hl (by decide) rfl (fun ls hl => ?_)
        exact L14 xN ((nI 1), s2) hf ls (lv_sub hl [2, 3, 1, 0] rfl)
  refine lv_iconst (v := (nI 1)) hx hb dX7_period_0 (by decide) ?_
  refine lv_istore_n (lv' := [(1, .int (nI 1)), (0, .ref h0)]) hx hb dX7_period_1 rfl hl (by decide) rfl (fun ls hl => ?_)
  exact L2 xN (nI 1) hf ls (lv_sub hl [1, 0] rfl)
def f_X7_backward_L4 (v_ring : Int64) (v_size : Int32) (s4 : Int64 × Int32) : Option ((Int64) ⊕ (Int64 × Int32)) :=
  if v_size ≤ s4.2 then
    some (.inl s4.1)
  else
  (f_X7_has v_ring s4.2).bind fun u2 =>
  if u2 = (nI 0) then
    some (.inr (s4.1, s4.2 + (nI 1)))
  else
  some (.inr (s4.1 ||| (xlshl (lN 1) ((v_size - (nI 1)) - s4.2)), s4.2 + (nI 1)))
def f_X7_backward (v_ring : Int64) (v_size : Int32) : Option (Int64) :=
  xloop (f_X7_backward_L4 v_ring v_size) xN ((lN 0), (nI 0))
set_option maxHeartbeats 4000000 in
set_option maxRecDepth 100000 in
theorem c_X7_backward {l : Launch} {X : xG} {h0 g0 g1 g2 g3 g4 g5 g6 g7 g8 g9 g10 : Nat} {v_laws : Int32} {v_inForce : Int32} {v_depth : Int32} {v_miss : Int32} {v_ring : Int64} {v_size : Int32} {v_people : Int32} {v_seed : Int32} {v_taped : Int32} {v_from : Int32} {v_to : Int32} {v_token : Int32} {v_value : Int32} {v_imaged : Int32} {v_oldRing : Int64} {v_aheadRing : Int64} {u : Int64} (hf : f_X7_backward v_ring v_size = some u) : Met l yX7_backward (xw yX7_backward cX7_backward 4 (some .long)) (xrm 1 22) (xPc [.ref h0] X [(h0, xO 7 [.int v_laws, .ref g0, .ref g1, .int v_inForce, .int v_depth, .int v_miss, .long v_ring, .int v_size, .int v_people, .ref g2, .int v_seed, .int v_taped, .ref g3, .int v_from, .int v_to, .int v_token, .int v_value, .ref g4, .ref g5, .ref g6, .ref g7, .int v_imaged, .ref g8, .long v_oldRing, .ref g9, .long v_aheadRing, .ref g10])]) (xQ True (.returned (some (.long u)))) 0 0 xNo := by
  refine xMet (n := 0) md_X7_backward.1 (Nat.le_of_ble_eq_true rfl) ?_
  intro p e s m args below meth c ls A hC hr hlk hH hl
  have hl : lv_has ls 4 [(0, .ref h0)] := hl
  have hx := hC.1
  have hb := hC.2.1
  have L4 : ∀ (n : Nat) (s4 : Int64 × Int32), xloop (f_X7_backward_L4 v_ring v_size) n s4 = some u → ∀ (ls : Array Slot), lv_has ls 4 [(0, .ref h0), (1, .long s4.1), (3, .int s4.2)] → W p l e (xrm 1 22) s m args below meth c s.heap [] 0 0 (MQ below (xQ True (.returned (some (.long u)))) args s 0 0 xNo) (F0 m 4 ls []) := by
    intro  n
    induction n with
    | zero => intro s4 hf; exact xloop_0 hf
    | succ n ih4 =>
      intro s4 hf ls hl
      obtain ⟨o4, hf, ho4⟩ := xloop_s hf
      refine lv_iload_n hx hb dX7_backward_4 rfl (lv_at hl 2 rfl) ?_
      refine lv_aload_n hx hb dX7_backward_5 rfl (lv_at hl 0 rfl) ?_
      refine x_get hC fd_RX7_62 hH.1 0 rfl rfl dX7_backward_6 ?_
      refine lv_icmp_ge (tgt := 42) hx hb dX7_backward_9 (by decide) (fun c1 => ?_) (fun c1 => ?_)
      · have hf := xt c1 hf
        refine lv_lload_n hx hb dX7_backward_42 rfl (lv_at hl 1 rfl) ?_
        have hf := xo_ret hf ho4
        exact x_retl hC hr hlk trivial hf dX7_backward_43
      · have hf := xe c1 hf
        refine lv_aload_n hx hb dX7_backward_12 rfl (lv_at hl 0 rfl) ?_
        refine x_get hC fd_RX7_90 hH.1 0 rfl rfl dX7_backward_13 ?_
        refine lv_iload_n hx hb dX7_backward_16 rfl (lv_at hl 2 rfl) ?_
        obtain ⟨u2, hf2, hf⟩ := xb hf
        refine x_ran (x_runS (rest := []) (As := [.long v_ring, .int s4.2]) hC mw_336 md_X7_has (c_X7_has (X := X) hf2) hH [] rfl (by decide) hl.1 rfl rfl (Nat.le_of_ble_eq_true rfl) dX7_backward_17 ⟨Nat.le_of_ble_eq_true rfl, Nat.le_of_ble_eq_true rfl⟩ ⟨rfl, rfl⟩ ⟨Nat.le_refl _, Nat.le_refl _⟩) rfl (fun hz2 => ?_)
        refine lv_if_eq (tgt := 36) hx hb dX7_backward_20 (by decide) (fun c3 => ?_) (fun c3 => ?_)
        · have hf := xt c3 hf
          refine lv_iinc (v := s4.2 + (nI 1)) (lv' := [(3, .int (s4.2 + (nI 1))), (0, .ref h0), (1, .long s4.1)]) hx hb dX7_backward_36 hl (k := 2) rfl rfl (by decide) rfl (fun ls hl => ?_)
          refine lv_goto (tgt := 4) hx hb dX7_backward_39 (by decide) ?_
          have hf := xo_go hf ho4
          exact ih4 (s4.1, s4.2 + (nI 1)) hf ls (lv_sub hl [1, 2, 0] rfl)
        · have hf := xe c3 hf
          refine lv_lload_n hx hb dX7_backward_23 rfl (lv_at hl 1 rfl) ?_
          refine lv_lconst (v := (lN 1)) hx hb dX7_backward_24 (by decide) ?_
          refine lv_aload_n hx hb dX7_backward_25 rfl (lv_at hl 0 rfl) ?_
          refine x_get hC fd_RX7_62 hH.1 0 rfl rfl dX7_backward_26 ?_
          refine lv_iconst (v := (nI 1)) hx hb dX7_backward_29 (by decide) ?_
          refine lv_isub hx hb dX7_backward_30 ?_
          refine lv_iload_n hx hb dX7_backward_31 rfl (lv_at hl 2 rfl) ?_
          refine lv_isub hx hb dX7_backward_32 ?_
          refine x_lshl hx hb dX7_backward_33 ?_
          refine lv_lor hx hb dX7_backward_34 ?_
          refine lv_lstore_n (lv' := [(1, .long (s4.1 ||| (xlshl (lN 1) ((v_size - (nI 1)) - s4.2)))), (0, .ref h0), (3, .int s4.2)]) hx hb dX7_backward_35 rfl hl (by decide) rfl (fun ls hl => ?_)
          refine lv_iinc (v := s4.2 + (nI 1)) (lv' := [(3, .int (s4.2 + (nI 1))), (1, .long (s4.1 ||| (xlshl (lN 1) ((v_size - (nI 1)) - s4.2)))), (0, .ref h0)]) hx hb dX7_backward_36 hl (k := 2) rfl rfl (by decide) rfl (fun ls hl => ?_)
          refine lv_goto (tgt := 4) hx hb dX7_backward_39 (by decide) ?_
          have hf := xo_go hf ho4
          exact ih4 (s4.1 ||| (xlshl (lN 1) ((v_size - (nI 1)) - s4.2)), s4.2 + (nI 1)) hf ls (lv_sub hl [2, 1, 0] rfl)
  refine lv_lconst (v := (lN 0)) hx hb dX7_backward_0 (by decide) ?_
  refine lv_lstore_n (lv' := [(1, .long (lN 0)), (0, .ref h0)]) hx hb dX7_backward_1 rfl hl (by decide) rfl (fun ls hl => ?_)
  refine lv_iconst (v := (nI 0)) hx hb dX7_backward_2 (by decide) ?_
  refine lv_istore_n (lv' := [(3, .int (nI 0)), (1, .long (lN 0)), (0, .ref h0)]) hx hb dX7_backward_3 rfl hl (by decide) rfl (fun ls hl => ?_)
  exact L4 xN ((lN 0), (nI 0)) hf ls (lv_sub hl [2, 1, 0] rfl)
def f_X7_mirror (v_ring : Int64) (v_size : Int32) : Option (Int32) :=
  (f_X7_backward v_ring v_size).bind fun u1 =>
  if (xcmp u1 v_ring) = (nI 0) then
    some (nI 1)
  else
  some (nI 0)
set_option maxHeartbeats 4000000 in
set_option maxRecDepth 100000 in
theorem c_X7_mirror {l : Launch} {X : xG} {h0 g0 g1 g2 g3 g4 g5 g6 g7 g8 g9 g10 : Nat} {v_laws : Int32} {v_inForce : Int32} {v_depth : Int32} {v_miss : Int32} {v_ring : Int64} {v_size : Int32} {v_people : Int32} {v_seed : Int32} {v_taped : Int32} {v_from : Int32} {v_to : Int32} {v_token : Int32} {v_value : Int32} {v_imaged : Int32} {v_oldRing : Int64} {v_aheadRing : Int64} {u : Int32} (hf : f_X7_mirror v_ring v_size = some u) : Met l yX7_mirror (xw yX7_mirror cX7_mirror 1 (some .int)) (xrm 2 45) (xPc [.ref h0] X [(h0, xO 7 [.int v_laws, .ref g0, .ref g1, .int v_inForce, .int v_depth, .int v_miss, .long v_ring, .int v_size, .int v_people, .ref g2, .int v_seed, .int v_taped, .ref g3, .int v_from, .int v_to, .int v_token, .int v_value, .ref g4, .ref g5, .ref g6, .ref g7, .int v_imaged, .ref g8, .long v_oldRing, .ref g9, .long v_aheadRing, .ref g10])]) (xQ True (.returned (some (.int u)))) 0 0 xNo := by
  refine xMet (n := 0) md_X7_mirror.1 (Nat.le_of_ble_eq_true rfl) ?_
  intro p e s m args below meth c ls A hC hr hlk hH hl
  have hl : lv_has ls 1 [(0, .ref h0)] := hl
  have hx := hC.1
  have hb := hC.2.1
  refine lv_aload_n hx hb dX7_mirror_0 rfl (lv_at hl 0 rfl) ?_
  obtain ⟨u1, hf1, hf⟩ := xb hf
  refine x_ran (x_runV (q0 := 0) (rest := []) (As := []) hC mw_817 md_X7_backward (c_X7_backward (X := X) hf1) hH [0] rfl (by decide) rfl rfl rfl hl.1 rfl rfl (Nat.le_of_ble_eq_true rfl) dX7_mirror_1 ⟨Nat.le_of_ble_eq_true rfl, Nat.le_of_ble_eq_true rfl⟩ ⟨rfl, rfl⟩ ⟨Nat.le_refl _, Nat.le_refl _⟩) rfl (fun hz1 => ?_)
  refine lv_aload_n hx hb dX7_mirror_4 rfl (lv_at hl 0 rfl) ?_
  refine x_get hC fd_RX7_90 hH.1 0 rfl rfl dX7_mirror_5 ?_
  refine x_lcmp hx hb dX7_mirror_8 ?_
  refine lv_if_ne (tgt := 16) hx hb dX7_mirror_9 (by decide) (fun c2 => ?_) (fun c2 => ?_)
  · have hf := xe c2 hf
    refine lv_iconst (v := (nI 0)) hx hb dX7_mirror_16 (by decide) ?_
    exact x_reti hC hr hlk trivial hf dX7_mirror_17
  · have hf := xt c2 hf
    refine lv_iconst (v := (nI 1)) hx hb dX7_mirror_12 (by decide) ?_
    refine lv_goto (tgt := 17) hx hb dX7_mirror_13 (by decide) ?_
    exact x_reti hC hr hlk trivial hf dX7_mirror_17
def f_X7_lastStroke_L7 (v_ring : Int64) (s7 : Int32) : Option ((Int32) ⊕ (Int32)) :=
  if s7 < (nI 0) then
    some (.inl (-1 : Int32))
  else
  (f_X7_has v_ring s7).bind fun u2 =>
  if u2 = (nI 0) then
    some (.inr (s7 + (-1 : Int32)))
  else
  some (.inl s7)
def f_X7_lastStroke (v_ring : Int64) (v_size : Int32) : Option (Int32) :=
  xloop (f_X7_lastStroke_L7 v_ring) xN (v_size - (nI 1))
set_option maxHeartbeats 4000000 in
set_option maxRecDepth 100000 in
theorem c_X7_lastStroke {l : Launch} {X : xG} {h0 g0 g1 g2 g3 g4 g5 g6 g7 g8 g9 g10 : Nat} {v_laws : Int32} {v_inForce : Int32} {v_depth : Int32} {v_miss : Int32} {v_ring : Int64} {v_size : Int32} {v_people : Int32} {v_seed : Int32} {v_taped : Int32} {v_from : Int32} {v_to : Int32} {v_token : Int32} {v_value : Int32} {v_imaged : Int32} {v_oldRing : Int64} {v_aheadRing : Int64} {u : Int32} (hf : f_X7_lastStroke v_ring v_size = some u) : Met l yX7_lastStroke (xw yX7_lastStroke cX7_lastStroke 2 (some .int)) (xrm 1 22) (xPc [.ref h0] X [(h0, xO 7 [.int v_laws, .ref g0, .ref g1, .int v_inForce, .int v_depth, .int v_miss, .long v_ring, .int v_size, .int v_people, .ref g2, .int v_seed, .int v_taped, .ref g3, .int v_from, .int v_to, .int v_token, .int v_value, .ref g4, .ref g5, .ref g6, .ref g7, .int v_imaged, .ref g8, .long v_oldRing, .ref g9, .long v_aheadRing, .ref g10])]) (xQ True (.returned (some (.int u)))) 0 0 xNo := by
  refine xMet (n := 0) md_X7_lastStroke.1 (Nat.le_of_ble_eq_true rfl) ?_
  intro p e s m args below meth c ls A hC hr hlk hH hl
  have hl : lv_has ls 2 [(0, .ref h0)] := hl
  have hx := hC.1
  have hb := hC.2.1
  have L7 : ∀ (n : Nat) (s7 : Int32), xloop (f_X7_lastStroke_L7 v_ring) n s7 = some u → ∀ (ls : Array Slot), lv_has ls 2 [(0, .ref h0), (1, .int s7)] → W p l e (xrm 1 22) s m args below meth c s.heap [] 0 0 (MQ below (xQ True (.returned (some (.int u)))) args s 0 0 xNo) (F0 m 7 ls []) := by
    intro  n
    induction n with
    | zero => intro s7 hf; exact xloop_0 hf
    | succ n ih7 =>
      intro s7 hf ls hl
      obtain ⟨o7, hf, ho7⟩ := xloop_s hf
      refine lv_iload_n hx hb dX7_lastStroke_7 rfl (lv_at hl 1 rfl) ?_
      refine lv_if_lt (tgt := 30) hx hb dX7_lastStroke_8 (by decide) (fun c1 => ?_) (fun c1 => ?_)
      · have hf := xt c1 hf
        refine lv_iconst (v := (-1 : Int32)) hx hb dX7_lastStroke_30 (by decide) ?_
        have hf := xo_ret hf ho7
        exact x_reti hC hr hlk trivial hf dX7_lastStroke_31
      · have hf := xe c1 hf
        refine lv_aload_n hx hb dX7_lastStroke_11 rfl (lv_at hl 0 rfl) ?_
        refine x_get hC fd_RX7_90 hH.1 0 rfl rfl dX7_lastStroke_12 ?_
        refine lv_iload_n hx hb dX7_lastStroke_15 rfl (lv_at hl 1 rfl) ?_
        obtain ⟨u2, hf2, hf⟩ := xb hf
        refine x_ran (x_runS (rest := []) (As := [.long v_ring, .int s7]) hC mw_336 md_X7_has (c_X7_has (X := X) hf2) hH [] rfl (by decide) hl.1 rfl rfl (Nat.le_of_ble_eq_true rfl) dX7_lastStroke_16 ⟨Nat.le_of_ble_eq_true rfl, Nat.le_of_ble_eq_true rfl⟩ ⟨rfl, rfl⟩ ⟨Nat.le_refl _, Nat.le_refl _⟩) rfl (fun hz2 => ?_)
        refine lv_if_eq (tgt := 24) hx hb dX7_lastStroke_19 (by decide) (fun c3 => ?_) (fun c3 => ?_)
        · have hf := xt c3 hf
          refine lv_iinc (v := s7 + (-1 : Int32)) (lv' := [(1, .int (s7 + (-1 : Int32))), (0, .ref h0)]) hx hb dX7_lastStroke_24 hl (k := 1) rfl rfl (by decide) rfl (fun ls hl => ?_)
          refine lv_goto (tgt := 7) hx hb dX7_lastStroke_27 (by decide) ?_
          have hf := xo_go hf ho7
          exact ih7 (s7 + (-1 : Int32)) hf ls (lv_sub hl [1, 0] rfl)
        · have hf := xe c3 hf
          refine lv_iload_n hx hb dX7_lastStroke_22 rfl (lv_at hl 1 rfl) ?_
          have hf := xo_ret hf ho7
          exact x_reti hC hr hlk trivial hf dX7_lastStroke_23
  refine lv_aload_n hx hb dX7_lastStroke_0 rfl (lv_at hl 0 rfl) ?_
  refine x_get hC fd_RX7_62 hH.1 0 rfl rfl dX7_lastStroke_1 ?_
  refine lv_iconst (v := (nI 1)) hx hb dX7_lastStroke_4 (by decide) ?_
  refine lv_isub hx hb dX7_lastStroke_5 ?_
  refine lv_istore_n (lv' := [(1, .int (v_size - (nI 1))), (0, .ref h0)]) hx hb dX7_lastStroke_6 rfl hl (by decide) rfl (fun ls hl => ?_)
  exact L7 xN (v_size - (nI 1)) hf ls (lv_sub hl [1, 0] rfl)
def f_X7_shift_L20 (v_laws : Int32) (v_inForce : Int32) (v_ring : Int64) (v_size : Int32) (v_kind : (Nat → Int32)) (v_own : (Nat → Int32)) (v_refusals : (Nat → Int32)) (p1 : Int32) (s20 : Int64 × Int32) : Option ((Int32 × (Nat → Int32)) ⊕ (Int64 × Int32)) :=
  if v_size ≤ s20.2 then
    (f_X7_struckNow v_laws v_inForce v_kind v_own s20.1 v_size).bind fun u4 =>
    some (.inl (u4, v_refusals))
  else
  if v_size = nI 0 then none else
  (f_X7_has v_ring (xrem (p1 + s20.2) v_size)).bind fun u6 =>
  if u6 = (nI 0) then
    some (.inr (s20.1, s20.2 + (nI 1)))
  else
  some (.inr (s20.1 ||| (xlshl (lN 1) s20.2), s20.2 + (nI 1)))
def f_X7_shift (v_laws : Int32) (v_inForce : Int32) (v_ring : Int64) (v_size : Int32) (v_kind : (Nat → Int32)) (v_own : (Nat → Int32)) (v_refusals : (Nat → Int32)) (p1 : Int32) : Option (Int32 × (Nat → Int32)) :=
  (f_X7_isStep v_size p1).bind fun u1 =>
  if u1 = (nI 0) then
    (f_X7_no v_refusals (-2 : Int32)).bind fun u8 =>
    some (u8.1, u8.2)
  else
  xloop (f_X7_shift_L20 v_laws v_inForce v_ring v_size v_kind v_own v_refusals p1) xN ((lN 0), (nI 0))
set_option maxHeartbeats 4000000 in
set_option maxRecDepth 100000 in
theorem c_X7_shift {l : Launch} {X : xG} {h0 h1 h2 h3 g0 g1 g2 g3 g4 g5 g6 g7 : Nat} {v_laws : Int32} {v_inForce : Int32} {v_depth : Int32} {v_miss : Int32} {v_ring : Int64} {v_size : Int32} {v_people : Int32} {v_seed : Int32} {v_taped : Int32} {v_from : Int32} {v_to : Int32} {v_token : Int32} {v_value : Int32} {v_imaged : Int32} {v_oldRing : Int64} {v_aheadRing : Int64} {v_kind : (Nat → Int32)} {v_own : (Nat → Int32)} {v_refusals : (Nat → Int32)} {p1 : Int32} {u : Int32 × (Nat → Int32)} (hf : f_X7_shift v_laws v_inForce v_ring v_size v_kind v_own v_refusals p1 = some u) : Met l yX7_shift (xw yX7_shift cX7_shift 5 (some .int)) (xrm 5 121) (xPc [.ref h0, .int p1] X [(h0, xO 7 [.int v_laws, .ref h1, .ref h2, .int v_inForce, .int v_depth, .int v_miss, .long v_ring, .int v_size, .int v_people, .ref g0, .int v_seed, .int v_taped, .ref g1, .int v_from, .int v_to, .int v_token, .int v_value, .ref g2, .ref g3, .ref g4, .ref h3, .int v_imaged, .ref g5, .long v_oldRing, .ref g6, .long v_aheadRing, .ref g7]), (h1, xI X 6 v_kind), (h2, xI X 6 v_own), (h3, xI X 7 v_refusals)]) (xQw True (.returned (some (.int u.1))) X [(h0, xO 7 [.int v_laws, .ref h1, .ref h2, .int v_inForce, .int v_depth, .int v_miss, .long v_ring, .int v_size, .int v_people, .ref g0, .int v_seed, .int v_taped, .ref g1, .int v_from, .int v_to, .int v_token, .int v_value, .ref g2, .ref g3, .ref g4, .ref h3, .int v_imaged, .ref g5, .long v_oldRing, .ref g6, .long v_aheadRing, .ref g7]), (h1, xI X 6 v_kind), (h2, xI X 6 v_own), (h3, xI X 7 u.2)] (xAs [(h0, xO 7 [.int v_laws, .ref h1, .ref h2, .int v_inForce, .int v_depth, .int v_miss, .long v_ring, .int v_size, .int v_people, .ref g0, .int v_seed, .int v_taped, .ref g1, .int v_from, .int v_to, .int v_token, .int v_value, .ref g2, .ref g3, .ref g4, .ref h3, .int v_imaged, .ref g5, .long v_oldRing, .ref g6, .long v_aheadRing, .ref g7]), (h1, xI X 6 v_kind), (h2, xI X 6 v_own), (h3, xI X 7 v_refusals)])) 0 0 (xAs [(h0, xO 7 [.int v_laws, .ref h1, .ref h2, .int v_inForce, .int v_depth, .int v_miss, .long v_ring, .int v_size, .int v_people, .ref g0, .int v_seed, .int v_taped, .ref g1, .int v_from, .int v_to, .int v_token, .int v_value, .ref g2, .ref g3, .ref g4, .ref h3, .int v_imaged, .ref g5, .long v_oldRing, .ref g6, .long v_aheadRing, .ref g7]), (h1, xI X 6 v_kind), (h2, xI X 6 v_own), (h3, xI X 7 v_refusals)]) := by
  refine xMetw (Qc := fun A => xQw True (.returned (some (.int u.1))) X [(h0, xO 7 [.int v_laws, .ref h1, .ref h2, .int v_inForce, .int v_depth, .int v_miss, .long v_ring, .int v_size, .int v_people, .ref g0, .int v_seed, .int v_taped, .ref g1, .int v_from, .int v_to, .int v_token, .int v_value, .ref g2, .ref g3, .ref g4, .ref h3, .int v_imaged, .ref g5, .long v_oldRing, .ref g6, .long v_aheadRing, .ref g7]), (h1, xI X 6 v_kind), (h2, xI X 6 v_own), (h3, xI X 7 u.2)] A) (n := 1) md_X7_shift.1 (Nat.le_of_ble_eq_true rfl) ?_
  intro p e s m args below meth c ls A hC hr hlk hH hl
  have hl : lv_has ls 5 [(0, .ref h0), (1, .int p1)] := hl
  have hx := hC.1
  have hb := hC.2.1
  have L20 : ∀ (n : Nat) (s20 : Int64 × Int32), xloop (f_X7_shift_L20 v_laws v_inForce v_ring v_size v_kind v_own v_refusals p1) n s20 = some u → ∀ (H : Heap) (locs : List Loc), xH X A [(h0, xO 7 [.int v_laws, .ref h1, .ref h2, .int v_inForce, .int v_depth, .int v_miss, .long v_ring, .int v_size, .int v_people, .ref g0, .int v_seed, .int v_taped, .ref g1, .int v_from, .int v_to, .int v_token, .int v_value, .ref g2, .ref g3, .ref g4, .ref h3, .int v_imaged, .ref g5, .long v_oldRing, .ref g6, .long v_aheadRing, .ref g7]), (h1, xI X 6 v_kind), (h2, xI X 6 v_own), (h3, xI X 7 v_refusals)] s.heap H locs → ∀ (ls : Array Slot), lv_has ls 5 [(0, .ref h0), (1, .int p1), (2, .long s20.1), (4, .int s20.2)] → W p l e (xrm 5 121) s m args below meth c H locs 0 0 (MQ below (xQw True (.returned (some (.int u.1))) X [(h0, xO 7 [.int v_laws, .ref h1, .ref h2, .int v_inForce, .int v_depth, .int v_miss, .long v_ring, .int v_size, .int v_people, .ref g0, .int v_seed, .int v_taped, .ref g1, .int v_from, .int v_to, .int v_token, .int v_value, .ref g2, .ref g3, .ref g4, .ref h3, .int v_imaged, .ref g5, .long v_oldRing, .ref g6, .long v_aheadRing, .ref g7]), (h1, xI X 6 v_kind), (h2, xI X 6 v_own), (h3, xI X 7 u.2)] A) args s 0 0 A) (F0 m 20 ls []) := by
    intro  n
    induction n with
    | zero => intro s20 hf; exact xloop_0 hf
    | succ n ih20 =>
      intro s20 hf H locs hH ls hl
      obtain ⟨o20, hf, ho20⟩ := xloop_s hf
      refine lv_iload hx hb dX7_shift_20 (lv_at hl 3 rfl) ?_
      refine lv_aload_n hx hb dX7_shift_22 rfl (lv_at hl 0 rfl) ?_
      refine x_get hC fd_RX7_62 hH.1 0 rfl rfl dX7_shift_23 ?_
      refine lv_icmp_ge (tgt := 61) hx hb dX7_shift_26 (by decide) (fun c3 => ?_) (fun c3 => ?_)
      · have hf := xt c3 hf
        refine lv_aload_n hx hb dX7_shift_61 rfl (lv_at hl 0 rfl) ?_
        refine lv_lload_n hx hb dX7_shift_62 rfl (lv_at hl 2 rfl) ?_
        refine lv_aload_n hx hb dX7_shift_63 rfl (lv_at hl 0 rfl) ?_
        refine x_get hC fd_RX7_62 hH.1 0 rfl rfl dX7_shift_64 ?_
        obtain ⟨u4, hf4, hf⟩ := xb hf
        refine x_ran (x_runV (q0 := 0) (rest := []) (As := [.long s20.1, .int v_size]) hC mw_837 md_X7_struckNow (c_X7_struckNow (X := X) hf4) hH [0, 1, 2] rfl (by decide) rfl rfl rfl hl.1 rfl rfl (Nat.le_of_ble_eq_true rfl) dX7_shift_67 ⟨Nat.le_of_ble_eq_true rfl, Nat.le_of_ble_eq_true rfl⟩ ⟨rfl, rfl⟩ ⟨Nat.le_refl _, Nat.le_refl _⟩) rfl (fun hz4 => ?_)
        have hf := xo_ret hf ho20
        exact x_retiw (φ := fun _ => True) (f := fun u : Int32 × (Nat → Int32) => u.1) (wf := fun u : Int32 × (Nat → Int32) => [(h0, xO 7 [.int v_laws, .ref h1, .ref h2, .int v_inForce, .int v_depth, .int v_miss, .long v_ring, .int v_size, .int v_people, .ref g0, .int v_seed, .int v_taped, .ref g1, .int v_from, .int v_to, .int v_token, .int v_value, .ref g2, .ref g3, .ref g4, .ref h3, .int v_imaged, .ref g5, .long v_oldRing, .ref g6, .long v_aheadRing, .ref g7]), (h1, xI X 6 v_kind), (h2, xI X 6 v_own), (h3, xI X 7 u.2)]) hC hr hlk trivial hf hH rfl rfl dX7_shift_70
      · have hf := xe c3 hf
        refine lv_aload_n hx hb dX7_shift_29 rfl (lv_at hl 0 rfl) ?_
        refine x_get hC fd_RX7_90 hH.1 0 rfl rfl dX7_shift_30 ?_
        refine lv_iload_n hx hb dX7_shift_33 rfl (lv_at hl 1 rfl) ?_
        refine lv_iload hx hb dX7_shift_34 (lv_at hl 3 rfl) ?_
        refine lv_iadd hx hb dX7_shift_36 ?_
        refine lv_aload_n hx hb dX7_shift_37 rfl (lv_at hl 0 rfl) ?_
        refine x_get hC fd_RX7_62 hH.1 0 rfl rfl dX7_shift_38 ?_
        obtain ⟨n5, hf⟩ := xok hf
        refine x_irem hx hb dX7_shift_41 n5 ?_
        obtain ⟨u6, hf6, hf⟩ := xb hf
        refine x_ran (x_runS (rest := []) (As := [.long v_ring, .int (xrem (p1 + s20.2) v_size)]) hC mw_336 md_X7_has (c_X7_has (X := X) hf6) hH [] rfl (by decide) hl.1 rfl rfl (Nat.le_of_ble_eq_true rfl) dX7_shift_42 ⟨Nat.le_of_ble_eq_true rfl, Nat.le_of_ble_eq_true rfl⟩ ⟨rfl, rfl⟩ ⟨Nat.le_refl _, Nat.le_refl _⟩) rfl (fun hz6 => ?_)
        refine lv_if_eq (tgt := 55) hx hb dX7_shift_45 (by decide) (fun c7 => ?_) (fun c7 => ?_)
        · have hf := xt c7 hf
          refine lv_iinc (v := s20.2 + (nI 1)) (lv' := [(4, .int (s20.2 + (nI 1))), (0, .ref h0), (1, .int p1), (2, .long s20.1)]) hx hb dX7_shift_55 hl (k := 3) rfl rfl (by decide) rfl (fun ls hl => ?_)
          refine lv_goto (tgt := 20) hx hb dX7_shift_58 (by decide) ?_
          have hf := xo_go hf ho20
          exact ih20 (s20.1, s20.2 + (nI 1)) hf _ _ hH ls (lv_sub hl [1, 2, 3, 0] rfl)
        · have hf := xe c7 hf
          refine lv_lload_n hx hb dX7_shift_48 rfl (lv_at hl 2 rfl) ?_
          refine lv_lconst (v := (lN 1)) hx hb dX7_shift_49 (by decide) ?_
          refine lv_iload hx hb dX7_shift_50 (lv_at hl 3 rfl) ?_
          refine x_lshl hx hb dX7_shift_52 ?_
          refine lv_lor hx hb dX7_shift_53 ?_
          refine lv_lstore_n (lv' := [(2, .long (s20.1 ||| (xlshl (lN 1) s20.2))), (0, .ref h0), (1, .int p1), (4, .int s20.2)]) hx hb dX7_shift_54 rfl hl (by decide) rfl (fun ls hl => ?_)
          refine lv_iinc (v := s20.2 + (nI 1)) (lv' := [(4, .int (s20.2 + (nI 1))), (2, .long (s20.1 ||| (xlshl (lN 1) s20.2))), (0, .ref h0), (1, .int p1)]) hx hb dX7_shift_55 hl (k := 3) rfl rfl (by decide) rfl (fun ls hl => ?_)
          refine lv_goto (tgt := 20) hx hb dX7_shift_58 (by decide) ?_
          have hf := xo_go hf ho20
          exact ih20 (s20.1 ||| (xlshl (lN 1) s20.2), s20.2 + (nI 1)) hf _ _ hH ls (lv_sub hl [2, 3, 1, 0] rfl)
  refine lv_aload_n hx hb dX7_shift_0 rfl (lv_at hl 0 rfl) ?_
  refine lv_iload_n hx hb dX7_shift_1 rfl (lv_at hl 1 rfl) ?_
  obtain ⟨u1, hf1, hf⟩ := xb hf
  refine x_ran (x_runV (q0 := 0) (rest := []) (As := [.int p1]) hC mw_685 md_X7_isStep (c_X7_isStep (X := X) hf1) hH [0] rfl (by decide) rfl rfl rfl hl.1 rfl rfl (Nat.le_of_ble_eq_true rfl) dX7_shift_2 ⟨Nat.le_of_ble_eq_true rfl, Nat.le_of_ble_eq_true rfl⟩ ⟨rfl, rfl⟩ ⟨Nat.le_refl _, Nat.le_refl _⟩) rfl (fun hz1 => ?_)
  refine lv_if_ne (tgt := 15) hx hb dX7_shift_5 (by decide) (fun c2 => ?_) (fun c2 => ?_)
  · have hf := xe c2 hf
    refine lv_lconst (v := (lN 0)) hx hb dX7_shift_15 (by decide) ?_
    refine lv_lstore_n (lv' := [(2, .long (lN 0)), (0, .ref h0), (1, .int p1)]) hx hb dX7_shift_16 rfl hl (by decide) rfl (fun ls hl => ?_)
    refine lv_iconst (v := (nI 0)) hx hb dX7_shift_17 (by decide) ?_
    refine lv_istore (lv' := [(4, .int (nI 0)), (2, .long (lN 0)), (0, .ref h0), (1, .int p1)]) hx hb dX7_shift_18 hl (by decide) rfl (fun ls hl => ?_)
    exact L20 xN ((lN 0), (nI 0)) hf _ _ hH ls (lv_sub hl [2, 3, 1, 0] rfl)
  · have hf := xt c2 hf
    refine lv_aload_n hx hb dX7_shift_8 rfl (lv_at hl 0 rfl) ?_
    refine lv_bipush (v := (-2 : Int32)) hx hb dX7_shift_9 (by decide) ?_
    obtain ⟨u8, hf8, hf⟩ := xb hf
    refine x_ranw (ws' := [(h0, xO 7 [.int v_laws, .ref h1, .ref h2, .int v_inForce, .int v_depth, .int v_miss, .long v_ring, .int v_size, .int v_people, .ref g0, .int v_seed, .int v_taped, .ref g1, .int v_from, .int v_to, .int v_token, .int v_value, .ref g2, .ref g3, .ref g4, .ref h3, .int v_imaged, .ref g5, .long v_oldRing, .ref g6, .long v_aheadRing, .ref g7]), (h1, xI X 6 v_kind), (h2, xI X 6 v_own), (h3, xI X 7 u8.2)]) (x_runV (q0 := 0) (rest := []) (As := [.int (-2 : Int32)]) hC mw_143 md_X7_no (c_X7_no (X := X) hf8) hH [0, 3] rfl (by decide) rfl rfl rfl hl.1 rfl rfl (Nat.le_of_ble_eq_true rfl) dX7_shift_11 ⟨Nat.le_of_ble_eq_true rfl, Nat.le_of_ble_eq_true rfl⟩ ⟨rfl, rfl⟩ ⟨Nat.le_refl _, Nat.le_refl _⟩) hH [0, 3] rfl rfl rfl rfl rfl (fun hz8 H locs hH => ?_)
    exact x_retiw (φ := fun _ => True) (f := fun u : Int32 × (Nat → Int32) => u.1) (wf := fun u : Int32 × (Nat → Int32) => [(h0, xO 7 [.int v_laws, .ref h1, .ref h2, .int v_inForce, .int v_depth, .int v_miss, .long v_ring, .int v_size, .int v_people, .ref g0, .int v_seed, .int v_taped, .ref g1, .int v_from, .int v_to, .int v_token, .int v_value, .ref g2, .ref g3, .ref g4, .ref h3, .int v_imaged, .ref g5, .long v_oldRing, .ref g6, .long v_aheadRing, .ref g7]), (h1, xI X 6 v_kind), (h2, xI X 6 v_own), (h3, xI X 7 u.2)]) hC hr hlk trivial hf hH rfl rfl dX7_shift_14
def f_X7_flip_L20 (v_laws : Int32) (v_inForce : Int32) (v_depth : Int32) (v_ring : Int64) (v_size : Int32) (v_kind : (Nat → Int32)) (v_own : (Nat → Int32)) (v_refusals : (Nat → Int32)) (s20 : Int32 × Int32 × Int32) : Option ((Int32 × (Nat → Int32)) ⊕ (Int32 × Int32 × Int32)) :=
  if v_size ≤ s20.2.2 then
    some (.inl (s20.1, v_refusals))
  else
  (f_X7_many v_laws v_inForce v_depth v_kind v_own (v_ring ^^^ (xlshl (lN 1) s20.2.2)) v_size (nI 0)).bind fun u3 =>
  if s20.2.1 < u3 then
    some (.inr (s20.2.2, u3, s20.2.2 + (nI 1)))
  else
  some (.inr (s20.1, s20.2.1, s20.2.2 + (nI 1)))
def f_X7_flip (v_laws : Int32) (v_inForce : Int32) (v_depth : Int32) (v_ring : Int64) (v_size : Int32) (v_kind : (Nat → Int32)) (v_own : (Nat → Int32)) (v_refusals : (Nat → Int32)) : Option (Int32 × (Nat → Int32)) :=
  if v_size = (nI 0) then
    (f_X7_no v_refusals (-5 : Int32)).bind fun u5 =>
    some (u5.1, u5.2)
  else
  xloop (f_X7_flip_L20 v_laws v_inForce v_depth v_ring v_size v_kind v_own v_refusals) xN ((nI 0), (-1 : Int32), (nI 0))
set_option maxHeartbeats 4000000 in
set_option maxRecDepth 100000 in
theorem c_X7_flip {l : Launch} {X : xG} {h0 h1 h2 h3 g0 g1 g2 g3 g4 g5 g6 g7 : Nat} {v_laws : Int32} {v_inForce : Int32} {v_depth : Int32} {v_miss : Int32} {v_ring : Int64} {v_size : Int32} {v_people : Int32} {v_seed : Int32} {v_taped : Int32} {v_from : Int32} {v_to : Int32} {v_token : Int32} {v_value : Int32} {v_imaged : Int32} {v_oldRing : Int64} {v_aheadRing : Int64} {v_kind : (Nat → Int32)} {v_own : (Nat → Int32)} {v_refusals : (Nat → Int32)} {u : Int32 × (Nat → Int32)} (hf : f_X7_flip v_laws v_inForce v_depth v_ring v_size v_kind v_own v_refusals = some u) : Met l yX7_flip (xw yX7_flip cX7_flip 5 (some .int)) (xrm 7 171) (xPc [.ref h0] X [(h0, xO 7 [.int v_laws, .ref h1, .ref h2, .int v_inForce, .int v_depth, .int v_miss, .long v_ring, .int v_size, .int v_people, .ref g0, .int v_seed, .int v_taped, .ref g1, .int v_from, .int v_to, .int v_token, .int v_value, .ref g2, .ref g3, .ref g4, .ref h3, .int v_imaged, .ref g5, .long v_oldRing, .ref g6, .long v_aheadRing, .ref g7]), (h1, xI X 6 v_kind), (h2, xI X 6 v_own), (h3, xI X 7 v_refusals)]) (xQw True (.returned (some (.int u.1))) X [(h0, xO 7 [.int v_laws, .ref h1, .ref h2, .int v_inForce, .int v_depth, .int v_miss, .long v_ring, .int v_size, .int v_people, .ref g0, .int v_seed, .int v_taped, .ref g1, .int v_from, .int v_to, .int v_token, .int v_value, .ref g2, .ref g3, .ref g4, .ref h3, .int v_imaged, .ref g5, .long v_oldRing, .ref g6, .long v_aheadRing, .ref g7]), (h1, xI X 6 v_kind), (h2, xI X 6 v_own), (h3, xI X 7 u.2)] (xAs [(h0, xO 7 [.int v_laws, .ref h1, .ref h2, .int v_inForce, .int v_depth, .int v_miss, .long v_ring, .int v_size, .int v_people, .ref g0, .int v_seed, .int v_taped, .ref g1, .int v_from, .int v_to, .int v_token, .int v_value, .ref g2, .ref g3, .ref g4, .ref h3, .int v_imaged, .ref g5, .long v_oldRing, .ref g6, .long v_aheadRing, .ref g7]), (h1, xI X 6 v_kind), (h2, xI X 6 v_own), (h3, xI X 7 v_refusals)])) 0 0 (xAs [(h0, xO 7 [.int v_laws, .ref h1, .ref h2, .int v_inForce, .int v_depth, .int v_miss, .long v_ring, .int v_size, .int v_people, .ref g0, .int v_seed, .int v_taped, .ref g1, .int v_from, .int v_to, .int v_token, .int v_value, .ref g2, .ref g3, .ref g4, .ref h3, .int v_imaged, .ref g5, .long v_oldRing, .ref g6, .long v_aheadRing, .ref g7]), (h1, xI X 6 v_kind), (h2, xI X 6 v_own), (h3, xI X 7 v_refusals)]) := by
  refine xMetw (Qc := fun A => xQw True (.returned (some (.int u.1))) X [(h0, xO 7 [.int v_laws, .ref h1, .ref h2, .int v_inForce, .int v_depth, .int v_miss, .long v_ring, .int v_size, .int v_people, .ref g0, .int v_seed, .int v_taped, .ref g1, .int v_from, .int v_to, .int v_token, .int v_value, .ref g2, .ref g3, .ref g4, .ref h3, .int v_imaged, .ref g5, .long v_oldRing, .ref g6, .long v_aheadRing, .ref g7]), (h1, xI X 6 v_kind), (h2, xI X 6 v_own), (h3, xI X 7 u.2)] A) (n := 0) md_X7_flip.1 (Nat.le_of_ble_eq_true rfl) ?_
  intro p e s m args below meth c ls A hC hr hlk hH hl
  have hl : lv_has ls 5 [(0, .ref h0)] := hl
  have hx := hC.1
  have hb := hC.2.1
  have L20 : ∀ (n : Nat) (s20 : Int32 × Int32 × Int32), xloop (f_X7_flip_L20 v_laws v_inForce v_depth v_ring v_size v_kind v_own v_refusals) n s20 = some u → ∀ (H : Heap) (locs : List Loc), xH X A [(h0, xO 7 [.int v_laws, .ref h1, .ref h2, .int v_inForce, .int v_depth, .int v_miss, .long v_ring, .int v_size, .int v_people, .ref g0, .int v_seed, .int v_taped, .ref g1, .int v_from, .int v_to, .int v_token, .int v_value, .ref g2, .ref g3, .ref g4, .ref h3, .int v_imaged, .ref g5, .long v_oldRing, .ref g6, .long v_aheadRing, .ref g7]), (h1, xI X 6 v_kind), (h2, xI X 6 v_own), (h3, xI X 7 v_refusals)] s.heap H locs → ∀ (ls : Array Slot), lv_has ls 5 [(0, .ref h0), (1, .int s20.1), (2, .int s20.2.1), (3, .int s20.2.2)] → W p l e (xrm 7 171) s m args below meth c H locs 0 0 (MQ below (xQw True (.returned (some (.int u.1))) X [(h0, xO 7 [.int v_laws, .ref h1, .ref h2, .int v_inForce, .int v_depth, .int v_miss, .long v_ring, .int v_size, .int v_people, .ref g0, .int v_seed, .int v_taped, .ref g1, .int v_from, .int v_to, .int v_token, .int v_value, .ref g2, .ref g3, .ref g4, .ref h3, .int v_imaged, .ref g5, .long v_oldRing, .ref g6, .long v_aheadRing, .ref g7]), (h1, xI X 6 v_kind), (h2, xI X 6 v_own), (h3, xI X 7 u.2)] A) args s 0 0 A) (F0 m 20 ls []) := by
    intro  n
    induction n with
    | zero => intro s20 hf; exact xloop_0 hf
    | succ n ih20 =>
      intro s20 hf H locs hH ls hl
      obtain ⟨o20, hf, ho20⟩ := xloop_s hf
      refine lv_iload_n hx hb dX7_flip_20 rfl (lv_at hl 3 rfl) ?_
      refine lv_aload_n hx hb dX7_flip_21 rfl (lv_at hl 0 rfl) ?_
      refine x_get hC fd_RX7_62 hH.1 0 rfl rfl dX7_flip_22 ?_
      refine lv_icmp_ge (tgt := 67) hx hb dX7_flip_25 (by decide) (fun c2 => ?_) (fun c2 => ?_)
      · have hf := xt c2 hf
        refine lv_iload_n hx hb dX7_flip_67 rfl (lv_at hl 1 rfl) ?_
        have hf := xo_ret hf ho20
        exact x_retiw (φ := fun _ => True) (f := fun u : Int32 × (Nat → Int32) => u.1) (wf := fun u : Int32 × (Nat → Int32) => [(h0, xO 7 [.int v_laws, .ref h1, .ref h2, .int v_inForce, .int v_depth, .int v_miss, .long v_ring, .int v_size, .int v_people, .ref g0, .int v_seed, .int v_taped, .ref g1, .int v_from, .int v_to, .int v_token, .int v_value, .ref g2, .ref g3, .ref g4, .ref h3, .int v_imaged, .ref g5, .long v_oldRing, .ref g6, .long v_aheadRing, .ref g7]), (h1, xI X 6 v_kind), (h2, xI X 6 v_own), (h3, xI X 7 u.2)]) hC hr hlk trivial hf hH rfl rfl dX7_flip_68
      · have hf := xe c2 hf
        refine lv_aload_n hx hb dX7_flip_28 rfl (lv_at hl 0 rfl) ?_
        refine lv_aload_n hx hb dX7_flip_29 rfl (lv_at hl 0 rfl) ?_
        refine x_get hC fd_RX7_90 hH.1 0 rfl rfl dX7_flip_30 ?_
        refine lv_lconst (v := (lN 1)) hx hb dX7_flip_33 (by decide) ?_
        refine lv_iload_n hx hb dX7_flip_34 rfl (lv_at hl 3 rfl) ?_
        refine x_lshl hx hb dX7_flip_35 ?_
        refine lv_lxor hx hb dX7_flip_36 ?_
        refine lv_aload_n hx hb dX7_flip_37 rfl (lv_at hl 0 rfl) ?_
        refine x_get hC fd_RX7_62 hH.1 0 rfl rfl dX7_flip_38 ?_
        refine lv_iconst (v := (nI 0)) hx hb dX7_flip_41 (by decide) ?_
        obtain ⟨u3, hf3, hf⟩ := xb hf
        refine x_ran (x_runV (q0 := 0) (rest := []) (As := [.long (v_ring ^^^ (xlshl (lN 1) s20.2.2)), .int v_size, .int (nI 0)]) hC mw_749 md_X7_many (c_X7_many (X := X) hf3) hH [0, 1, 2] rfl (by decide) rfl rfl rfl hl.1 rfl rfl (Nat.le_of_ble_eq_true rfl) dX7_flip_42 ⟨Nat.le_of_ble_eq_true rfl, Nat.le_of_ble_eq_true rfl⟩ ⟨rfl, rfl⟩ ⟨Nat.le_refl _, Nat.le_refl _⟩) rfl (fun hz3 => ?_)
        refine lv_istore (lv' := [(4, .int u3), (0, .ref h0), (1, .int s20.1), (2, .int s20.2.1), (3, .int s20.2.2)]) hx hb dX7_flip_45 hl (by decide) rfl (fun ls hl => ?_)
        refine lv_iload hx hb dX7_flip_47 (lv_at hl 0 rfl) ?_
        refine lv_iload_n hx hb dX7_flip_49 rfl (lv_at hl 3 rfl) ?_
        refine lv_icmp_gt (tgt := 56) hx hb dX7_flip_50 (by decide) (fun c4 => ?_) (fun c4 => ?_)
        · have hf := xt c4 hf
          refine lv_iload hx hb dX7_flip_56 (lv_at hl 0 rfl) ?_
          refine lv_istore_n (lv' := [(2, .int u3), (4, .int u3), (0, .ref h0), (1, .int s20.1), (3, .int s20.2.2)]) hx hb dX7_flip_58 rfl hl (by decide) rfl (fun ls hl => ?_)
          refine lv_iload_n hx hb dX7_flip_59 rfl (lv_at hl 4 rfl) ?_
          refine lv_istore_n (lv' := [(1, .int s20.2.2), (2, .int u3), (4, .int u3), (0, .ref h0), (3, .int s20.2.2)]) hx hb dX7_flip_60 rfl hl (by decide) rfl (fun ls hl => ?_)
          refine lv_iinc (v := s20.2.2 + (nI 1)) (lv' := [(3, .int (s20.2.2 + (nI 1))), (1, .int s20.2.2), (2, .int u3), (4, .int u3), (0, .ref h0)]) hx hb dX7_flip_61 hl (k := 4) rfl rfl (by decide) rfl (fun ls hl => ?_)
          refine lv_goto (tgt := 20) hx hb dX7_flip_64 (by decide) ?_
          have hf := xo_go hf ho20
          exact ih20 (s20.2.2, u3, s20.2.2 + (nI 1)) hf _ _ hH ls (lv_sub hl [4, 1, 2, 0] rfl)
        · have hf := xe c4 hf
          refine lv_goto (tgt := 61) hx hb dX7_flip_53 (by decide) ?_
          refine lv_iinc (v := s20.2.2 + (nI 1)) (lv' := [(3, .int (s20.2.2 + (nI 1))), (4, .int u3), (0, .ref h0), (1, .int s20.1), (2, .int s20.2.1)]) hx hb dX7_flip_61 hl (k := 4) rfl rfl (by decide) rfl (fun ls hl => ?_)
          refine lv_goto (tgt := 20) hx hb dX7_flip_64 (by decide) ?_
          have hf := xo_go hf ho20
          exact ih20 (s20.1, s20.2.1, s20.2.2 + (nI 1)) hf _ _ hH ls (lv_sub hl [2, 3, 4, 0] rfl)
  refine lv_aload_n hx hb dX7_flip_0 rfl (lv_at hl 0 rfl) ?_
  refine x_get hC fd_RX7_62 hH.1 0 rfl rfl dX7_flip_1 ?_
  refine lv_if_ne (tgt := 14) hx hb dX7_flip_4 (by decide) (fun c1 => ?_) (fun c1 => ?_)
  · have hf := xe c1 hf
    refine lv_iconst (v := (nI 0)) hx hb dX7_flip_14 (by decide) ?_
    refine lv_istore_n (lv' := [(1, .int (nI 0)), (0, .ref h0)]) hx hb dX7_flip_15 rfl hl (by decide) rfl (fun ls hl => ?_)
    refine lv_iconst (v := (-1 : Int32)) hx hb dX7_flip_16 (by decide) ?_
    refine lv_istore_n (lv' := [(2, .int (-1 : Int32)), (1, .int (nI 0)), (0, .ref h0)]) hx hb dX7_flip_17 rfl hl (by decide) rfl (fun ls hl => ?_)
    refine lv_iconst (v := (nI 0)) hx hb dX7_flip_18 (by decide) ?_
    refine lv_istore_n (lv' := [(3, .int (nI 0)), (2, .int (-1 : Int32)), (1, .int (nI 0)), (0, .ref h0)]) hx hb dX7_flip_19 rfl hl (by decide) rfl (fun ls hl => ?_)
    exact L20 xN ((nI 0), (-1 : Int32), (nI 0)) hf _ _ hH ls (lv_sub hl [3, 2, 1, 0] rfl)
  · have hf := xt c1 hf
    refine lv_aload_n hx hb dX7_flip_7 rfl (lv_at hl 0 rfl) ?_
    refine lv_bipush (v := (-5 : Int32)) hx hb dX7_flip_8 (by decide) ?_
    obtain ⟨u5, hf5, hf⟩ := xb hf
    refine x_ranw (ws' := [(h0, xO 7 [.int v_laws, .ref h1, .ref h2, .int v_inForce, .int v_depth, .int v_miss, .long v_ring, .int v_size, .int v_people, .ref g0, .int v_seed, .int v_taped, .ref g1, .int v_from, .int v_to, .int v_token, .int v_value, .ref g2, .ref g3, .ref g4, .ref h3, .int v_imaged, .ref g5, .long v_oldRing, .ref g6, .long v_aheadRing, .ref g7]), (h1, xI X 6 v_kind), (h2, xI X 6 v_own), (h3, xI X 7 u5.2)]) (x_runV (q0 := 0) (rest := []) (As := [.int (-5 : Int32)]) hC mw_143 md_X7_no (c_X7_no (X := X) hf5) hH [0, 3] rfl (by decide) rfl rfl rfl hl.1 rfl rfl (Nat.le_of_ble_eq_true rfl) dX7_flip_10 ⟨Nat.le_of_ble_eq_true rfl, Nat.le_of_ble_eq_true rfl⟩ ⟨rfl, rfl⟩ ⟨Nat.le_refl _, Nat.le_refl _⟩) hH [0, 3] rfl rfl rfl rfl rfl (fun hz5 H locs hH => ?_)
    exact x_retiw (φ := fun _ => True) (f := fun u : Int32 × (Nat → Int32) => u.1) (wf := fun u : Int32 × (Nat → Int32) => [(h0, xO 7 [.int v_laws, .ref h1, .ref h2, .int v_inForce, .int v_depth, .int v_miss, .long v_ring, .int v_size, .int v_people, .ref g0, .int v_seed, .int v_taped, .ref g1, .int v_from, .int v_to, .int v_token, .int v_value, .ref g2, .ref g3, .ref g4, .ref h3, .int v_imaged, .ref g5, .long v_oldRing, .ref g6, .long v_aheadRing, .ref g7]), (h1, xI X 6 v_kind), (h2, xI X 6 v_own), (h3, xI X 7 u.2)]) hC hr hlk trivial hf hH rfl rfl dX7_flip_13
