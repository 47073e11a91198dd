def f_X6_firstIn_L3 (p0 : Int64) (p2 : Int32) (s3 : Int32) : Option ((Int32) ⊕ (Int32)) :=
  if p2 ≤ s3 then
    some (.inl (-1 : Int32))
  else
  (f_X6_isIn p0 s3).bind fun u2 =>
  if u2 = (nI 0) then
    some (.inr (s3 + (nI 1)))
  else
  some (.inl s3)
def f_X6_firstIn (p0 : Int64) (p1 : Int32) (p2 : Int32) : Option (Int32) :=
  xloop (f_X6_firstIn_L3 p0 p2) xN p1
set_option maxHeartbeats 4000000 in
set_option maxRecDepth 100000 in
theorem c_X6_firstIn {l : Launch} {X : xG} {p0 : Int64} {p1 : Int32} {p2 : Int32} {u : Int32} (hf : f_X6_firstIn p0 p1 p2 = some u) : Met l yX6_firstIn (xw yX6_firstIn cX6_firstIn 5 (some .int)) (xrm 1 22) (xPc [.long p0, .int p1, .int p2] X []) (xQ True (.returned (some (.int u)))) 0 0 xNo := by
  refine xMet (n := 3) md_X6_firstIn.1 (Nat.le_of_ble_eq_true rfl) ?_
  intro p e s m args below meth c ls A hC hr hlk hH hl
  have hl : lv_has ls 5 [(0, .long p0), (2, .int p1), (3, .int p2)] := hl
  have hx := hC.1
  have hb := hC.2.1
  have L3 : ∀ (n : Nat) (s3 : Int32), xloop (f_X6_firstIn_L3 p0 p2) n s3 = some u → ∀ (ls : Array Slot), lv_has ls 5 [(0, .long p0), (3, .int p2), (4, .int s3)] → W p l e (xrm 1 22) s m args below meth c s.heap [] 0 0 (MQ below (xQ True (.returned (some (.int u)))) args s 0 0 xNo) (F0 m 3 ls []) := by
    intro  n
    induction n with
    | zero => intro s3 hf; exact xloop_0 hf
    | succ n ih3 =>
      intro s3 hf ls hl
      obtain ⟨o3, hf, ho3⟩ := xloop_s hf
      refine lv_iload hx hb dX6_firstIn_3 (lv_at hl 2 rfl) ?_
      refine lv_iload_n hx hb dX6_firstIn_5 rfl (lv_at hl 1 rfl) ?_
      refine lv_icmp_ge (tgt := 27) hx hb dX6_firstIn_6 (by decide) (fun c1 => ?_) (fun c1 => ?_)
      · have hf := xt c1 hf
        refine lv_iconst (v := (-1 : Int32)) hx hb dX6_firstIn_27 (by decide) ?_
        have hf := xo_ret hf ho3
        exact x_reti hC hr hlk trivial hf dX6_firstIn_28
      · have hf := xe c1 hf
        refine lv_lload_n hx hb dX6_firstIn_9 rfl (lv_at hl 0 rfl) ?_
        refine lv_iload hx hb dX6_firstIn_10 (lv_at hl 2 rfl) ?_
        obtain ⟨u2, hf2, hf⟩ := xb hf
        refine x_ran (x_runS (rest := []) (As := [.long p0, .int s3]) hC mw_677 md_X6_isIn (c_X6_isIn (X := X) hf2) hH [] rfl (by decide) hl.1 rfl rfl (Nat.le_of_ble_eq_true rfl) dX6_firstIn_12 ⟨Nat.le_of_ble_eq_true rfl, Nat.le_of_ble_eq_true rfl⟩ ⟨rfl, rfl⟩ ⟨Nat.le_refl _, Nat.le_refl _⟩) rfl (fun hz2 => ?_)
        refine lv_if_eq (tgt := 21) hx hb dX6_firstIn_15 (by decide) (fun c3 => ?_) (fun c3 => ?_)
        · have hf := xt c3 hf
          refine lv_iinc (v := s3 + (nI 1)) (lv' := [(4, .int (s3 + (nI 1))), (0, .long p0), (3, .int p2)]) hx hb dX6_firstIn_21 hl (k := 2) rfl rfl (by decide) rfl (fun ls hl => ?_)
          refine lv_goto (tgt := 3) hx hb dX6_firstIn_24 (by decide) ?_
          have hf := xo_go hf ho3
          exact ih3 (s3 + (nI 1)) hf ls (lv_sub hl [1, 2, 0] rfl)
        · have hf := xe c3 hf
          refine lv_iload hx hb dX6_firstIn_18 (lv_at hl 2 rfl) ?_
          have hf := xo_ret hf ho3
          exact x_reti hC hr hlk trivial hf dX6_firstIn_20
  refine lv_iload_n hx hb dX6_firstIn_0 rfl (lv_at hl 1 rfl) ?_
  refine lv_istore (lv' := [(4, .int p1), (0, .long p0), (2, .int p1), (3, .int p2)]) hx hb dX6_firstIn_1 hl (by decide) rfl (fun ls hl => ?_)
  exact L3 xN p1 hf ls (lv_sub hl [1, 3, 0] rfl)
def f_X6_silent (v_now_inForce : Int32) (v_now_depth : Int32) (v_now_ring : Int64) (v_now_steps : Int32) (v_now_laws_count : Int32) (v_now_laws_kinds : (Nat → Int32)) (v_now_laws_tunes : (Nat → Int32)) (v_refusals : (Nat → Int32)) (p1 : Int32) : Option (Int32 × (Nat → Int32)) :=
  (f_X6_isStep v_now_steps p1).bind fun u1 =>
  if u1 = (nI 0) then
    (f_X6_refuse v_refusals (-2 : Int32)).bind fun u5 =>
    some (u5.1, u5.2)
  else
  (f_X0_sounds v_now_inForce v_now_depth v_now_laws_count v_now_laws_kinds v_now_laws_tunes v_now_ring v_now_steps (nI 2)).bind fun u3 =>
  (f_X6_firstIn u3 p1 v_now_steps).bind fun u4 =>
  some (u4, v_refusals)
set_option maxHeartbeats 4000000 in
set_option maxRecDepth 100000 in
theorem c_X6_silent {l : Launch} {X : xG} {h0 h1 h2 h3 h4 h5 g0 g1 g2 g3 : Nat} {v_isKept : Int32} {v_now_inForce : Int32} {v_now_depth : Int32} {v_now_miss : Int32} {v_now_ring : Int64} {v_now_steps : Int32} {v_now_seed : Int32} {v_now_laws_count : Int32} {v_now_laws_kinds : (Nat → Int32)} {v_now_laws_tunes : (Nat → Int32)} {v_refusals : (Nat → Int32)} {p1 : Int32} {u : Int32 × (Nat → Int32)} (hf : f_X6_silent v_now_inForce v_now_depth v_now_ring v_now_steps v_now_laws_count v_now_laws_kinds v_now_laws_tunes v_refusals p1 = some u) : Met l yX6_silent (xw yX6_silent cX6_silent 2 (some .int)) (xrm 5 128) (xPc [.ref h0, .int p1] X [(h0, xO 6 [.ref h1, .ref g0, .ref g1, .ref g2, .ref h5, .int v_isKept]), (h1, xO 0 [.ref h2, .ref g3, .int v_now_inForce, .int v_now_depth, .int v_now_miss, .long v_now_ring, .int v_now_steps, .int v_now_seed]), (h2, xO 2 [.ref h3, .ref h4, .int v_now_laws_count]), (h3, xI X 6 v_now_laws_kinds), (h4, xI X 6 v_now_laws_tunes), (h5, xI X 5 v_refusals)]) (xQw True (.returned (some (.int u.1))) X [(h0, xO 6 [.ref h1, .ref g0, .ref g1, .ref g2, .ref h5, .int v_isKept]), (h1, xO 0 [.ref h2, .ref g3, .int v_now_inForce, .int v_now_depth, .int v_now_miss, .long v_now_ring, .int v_now_steps, .int v_now_seed]), (h2, xO 2 [.ref h3, .ref h4, .int v_now_laws_count]), (h3, xI X 6 v_now_laws_kinds), (h4, xI X 6 v_now_laws_tunes), (h5, xI X 5 u.2)] (xAs [(h0, xO 6 [.ref h1, .ref g0, .ref g1, .ref g2, .ref h5, .int v_isKept]), (h1, xO 0 [.ref h2, .ref g3, .int v_now_inForce, .int v_now_depth, .int v_now_miss, .long v_now_ring, .int v_now_steps, .int v_now_seed]), (h2, xO 2 [.ref h3, .ref h4, .int v_now_laws_count]), (h3, xI X 6 v_now_laws_kinds), (h4, xI X 6 v_now_laws_tunes), (h5, xI X 5 v_refusals)])) 0 0 (xAs [(h0, xO 6 [.ref h1, .ref g0, .ref g1, .ref g2, .ref h5, .int v_isKept]), (h1, xO 0 [.ref h2, .ref g3, .int v_now_inForce, .int v_now_depth, .int v_now_miss, .long v_now_ring, .int v_now_steps, .int v_now_seed]), (h2, xO 2 [.ref h3, .ref h4, .int v_now_laws_count]), (h3, xI X 6 v_now_laws_kinds), (h4, xI X 6 v_now_laws_tunes), (h5, xI X 5 v_refusals)]) := by
  refine xMetw (Qc := fun A => xQw True (.returned (some (.int u.1))) X [(h0, xO 6 [.ref h1, .ref g0, .ref g1, .ref g2, .ref h5, .int v_isKept]), (h1, xO 0 [.ref h2, .ref g3, .int v_now_inForce, .int v_now_depth, .int v_now_miss, .long v_now_ring, .int v_now_steps, .int v_now_seed]), (h2, xO 2 [.ref h3, .ref h4, .int v_now_laws_count]), (h3, xI X 6 v_now_laws_kinds), (h4, xI X 6 v_now_laws_tunes), (h5, xI X 5 u.2)] A) (n := 1) md_X6_silent.1 (Nat.le_of_ble_eq_true rfl) ?_
  intro p e s m args below meth c ls A hC hr hlk hH hl
  have hl : lv_has ls 2 [(0, .ref h0), (1, .int p1)] := hl
  have hx := hC.1
  have hb := hC.2.1
  refine lv_aload_n hx hb dX6_silent_0 rfl (lv_at hl 0 rfl) ?_
  refine lv_iload_n hx hb dX6_silent_1 rfl (lv_at hl 1 rfl) ?_
  obtain ⟨u1, hf1, hf⟩ := xb hf
  refine x_ran (x_runV (q0 := 0) (rest := []) (As := [.int p1]) hC mw_673 md_X6_isStep (c_X6_isStep (X := X) hf1) hH [0, 1] rfl (by decide) rfl rfl rfl hl.1 rfl rfl (Nat.le_of_ble_eq_true rfl) dX6_silent_2 ⟨Nat.le_of_ble_eq_true rfl, Nat.le_of_ble_eq_true rfl⟩ ⟨rfl, rfl⟩ ⟨Nat.le_refl _, Nat.le_refl _⟩) rfl (fun hz1 => ?_)
  refine lv_if_ne (tgt := 15) hx hb dX6_silent_5 (by decide) (fun c2 => ?_) (fun c2 => ?_)
  · have hf := xe c2 hf
    refine lv_aload_n hx hb dX6_silent_15 rfl (lv_at hl 0 rfl) ?_
    refine x_get hC fd_RX6_10 hH.1 0 rfl rfl dX6_silent_16 ?_
    refine lv_aload_n hx hb dX6_silent_19 rfl (lv_at hl 0 rfl) ?_
    refine x_get hC fd_RX6_10 hH.1 0 rfl rfl dX6_silent_20 ?_
    refine x_getN hC fd_RX6_120 hH.1 1 rfl rfl dX6_silent_23 ?_
    refine lv_aload_n hx hb dX6_silent_26 rfl (lv_at hl 0 rfl) ?_
    refine x_get hC fd_RX6_10 hH.1 0 rfl rfl dX6_silent_27 ?_
    refine x_getN hC fd_RX6_200 hH.1 1 rfl rfl dX6_silent_30 ?_
    refine lv_iconst (v := (nI 2)) hx hb dX6_silent_33 (by decide) ?_
    obtain ⟨u3, hf3, hf⟩ := xb hf
    refine x_ran (x_runV (q0 := 0) (rest := []) (As := [.long v_now_ring, .int v_now_steps, .int (nI 2)]) hC mw_719 md_X0_sounds (c_X0_sounds (X := X) hf3) hH [1, 2, 3, 4] rfl (by decide) rfl rfl rfl hl.1 rfl rfl (Nat.le_of_ble_eq_true rfl) dX6_silent_34 ⟨Nat.le_of_ble_eq_true rfl, Nat.le_of_ble_eq_true rfl⟩ ⟨rfl, rfl⟩ ⟨Nat.le_refl _, Nat.le_refl _⟩) rfl (fun hz3 => ?_)
    refine lv_iload_n hx hb dX6_silent_37 rfl (lv_at hl 1 rfl) ?_
    refine lv_aload_n hx hb dX6_silent_38 rfl (lv_at hl 0 rfl) ?_
    refine x_get hC fd_RX6_10 hH.1 0 rfl rfl dX6_silent_39 ?_
    refine x_getN hC fd_RX6_200 hH.1 1 rfl rfl dX6_silent_42 ?_
    obtain ⟨u4, hf4, hf⟩ := xb hf
    refine x_ran (x_runS (rest := []) (As := [.long u3, .int p1, .int v_now_steps]) hC mw_757 md_X6_firstIn (c_X6_firstIn (X := X) hf4) hH [] rfl (by decide) hl.1 rfl rfl (Nat.le_of_ble_eq_true rfl) dX6_silent_45 ⟨Nat.le_of_ble_eq_true rfl, Nat.le_of_ble_eq_true rfl⟩ ⟨rfl, rfl⟩ ⟨Nat.le_refl _, Nat.le_refl _⟩) rfl (fun hz4 => ?_)
    exact x_retiw (φ := fun _ => True) (f := fun u : Int32 × (Nat → Int32) => u.1) (wf := fun u : Int32 × (Nat → Int32) => [(h0, xO 6 [.ref h1, .ref g0, .ref g1, .ref g2, .ref h5, .int v_isKept]), (h1, xO 0 [.ref h2, .ref g3, .int v_now_inForce, .int v_now_depth, .int v_now_miss, .long v_now_ring, .int v_now_steps, .int v_now_seed]), (h2, xO 2 [.ref h3, .ref h4, .int v_now_laws_count]), (h3, xI X 6 v_now_laws_kinds), (h4, xI X 6 v_now_laws_tunes), (h5, xI X 5 u.2)]) hC hr hlk trivial hf hH rfl rfl dX6_silent_48
  · have hf := xt c2 hf
    refine lv_aload_n hx hb dX6_silent_8 rfl (lv_at hl 0 rfl) ?_
    refine lv_bipush (v := (-2 : Int32)) hx hb dX6_silent_9 (by decide) ?_
    obtain ⟨u5, hf5, hf⟩ := xb hf
    refine x_ranw (ws' := [(h0, xO 6 [.ref h1, .ref g0, .ref g1, .ref g2, .ref h5, .int v_isKept]), (h1, xO 0 [.ref h2, .ref g3, .int v_now_inForce, .int v_now_depth, .int v_now_miss, .long v_now_ring, .int v_now_steps, .int v_now_seed]), (h2, xO 2 [.ref h3, .ref h4, .int v_now_laws_count]), (h3, xI X 6 v_now_laws_kinds), (h4, xI X 6 v_now_laws_tunes), (h5, xI X 5 u5.2)]) (x_runV (q0 := 0) (rest := []) (As := [.int (-2 : Int32)]) hC mw_100 md_X6_refuse (c_X6_refuse (X := X) hf5) hH [0, 5] rfl (by decide) rfl rfl rfl hl.1 rfl rfl (Nat.le_of_ble_eq_true rfl) dX6_silent_11 ⟨Nat.le_of_ble_eq_true rfl, Nat.le_of_ble_eq_true rfl⟩ ⟨rfl, rfl⟩ ⟨Nat.le_refl _, Nat.le_refl _⟩) hH [0, 5] rfl rfl rfl rfl rfl (fun hz5 H locs hH => ?_)
    exact x_retiw (φ := fun _ => True) (f := fun u : Int32 × (Nat → Int32) => u.1) (wf := fun u : Int32 × (Nat → Int32) => [(h0, xO 6 [.ref h1, .ref g0, .ref g1, .ref g2, .ref h5, .int v_isKept]), (h1, xO 0 [.ref h2, .ref g3, .int v_now_inForce, .int v_now_depth, .int v_now_miss, .long v_now_ring, .int v_now_steps, .int v_now_seed]), (h2, xO 2 [.ref h3, .ref h4, .int v_now_laws_count]), (h3, xI X 6 v_now_laws_kinds), (h4, xI X 6 v_now_laws_tunes), (h5, xI X 5 u.2)]) hC hr hlk trivial hf hH rfl rfl dX6_silent_14
def f_X6_longestRun_J31 (s8 : Int32 × Int32 × Int32) (j31_s0 : Int32) : Option ((Int32) ⊕ (Int32 × Int32 × Int32)) :=
  some (.inr (xmax s8.1 j31_s0, j31_s0, s8.2.2 + (nI 1)))
def f_X6_longestRun_L8 (p0 : Int64) (p1 : Int32) (s8 : Int32 × Int32 × Int32) : Option ((Int32) ⊕ (Int32 × Int32 × Int32)) :=
  if p1 ≤ s8.2.2 then
    some (.inl s8.1)
  else
  (f_X6_isIn p0 s8.2.2).bind fun u2 =>
  if u2 = (nI 0) then
    f_X6_longestRun_J31 s8 (nI 0)
  else
  f_X6_longestRun_J31 s8 (s8.2.1 + (nI 1))
def f_X6_longestRun (p0 : Int64) (p1 : Int32) : Option (Int32) :=
  xloop (f_X6_longestRun_L8 p0 p1) xN ((nI 0), (nI 0), (nI 0))
set_option maxHeartbeats 4000000 in
set_option maxRecDepth 100000 in
theorem c_X6_longestRun {l : Launch} {X : xG} {p0 : Int64} {p1 : Int32} {u : Int32} (hf : f_X6_longestRun p0 p1 = some u) : Met l yX6_longestRun (xw yX6_longestRun cX6_longestRun 6 (some .int)) (xrm 1 22) (xPc [.long p0, .int p1] X []) (xQ True (.returned (some (.int u)))) 0 0 xNo := by
  refine xMet (n := 2) md_X6_longestRun.1 (Nat.le_of_ble_eq_true rfl) ?_
  intro p e s m args below meth c ls A hC hr hlk hH hl
  have hl : lv_has ls 6 [(0, .long p0), (2, .int p1)] := hl
  have hx := hC.1
  have hb := hC.2.1
  have L8 : ∀ (n : Nat) (s8 : Int32 × Int32 × Int32), xloop (f_X6_longestRun_L8 p0 p1) n s8 = some u → ∀ (ls : Array Slot), lv_has ls 6 [(0, .long p0), (2, .int p1), (3, .int s8.1), (4, .int s8.2.1), (5, .int s8.2.2)] → W p l e (xrm 1 22) s m args below meth c s.heap [] 0 0 (MQ below (xQ True (.returned (some (.int u)))) args s 0 0 xNo) (F0 m 8 ls []) := by
    intro  n
    induction n with
    | zero => intro s8 hf; exact xloop_0 hf
    | succ n ih8 =>
      intro s8 hf ls hl
      obtain ⟨o8, hf, ho8⟩ := xloop_s hf
      have J31 : ∀ (j31_s0 : Int32), f_X6_longestRun_J31 s8 j31_s0 = some o8 → ∀ (ls : Array Slot), lv_has ls 6 [(0, .long p0), (2, .int p1), (3, .int s8.1), (5, .int s8.2.2)] → W p l e (xrm 1 22) s m args below meth c s.heap [] 0 0 (MQ below (xQ True (.returned (some (.int u)))) args s 0 0 xNo) (F0 m 31 ls [.int j31_s0]) := by
        intro j31_s0 hf ls hl
        refine lv_istore (lv' := [(4, .int j31_s0), (0, .long p0), (2, .int p1), (3, .int s8.1), (5, .int s8.2.2)]) hx hb dX6_longestRun_31 hl (by decide) rfl (fun ls hl => ?_)
        refine lv_iload_n hx hb dX6_longestRun_33 rfl (lv_at hl 3 rfl) ?_
        refine lv_iload hx hb dX6_longestRun_34 (lv_at hl 0 rfl) ?_
        refine x_max hC hl.1 mw_772 mw_773 mw_477 mw_774 (Nat.le_of_ble_eq_true rfl) (Nat.le_of_ble_eq_true rfl) (Nat.le_refl _) (Nat.le_refl _) dX6_longestRun_36 ?_
        refine lv_istore_n (lv' := [(3, .int (xmax s8.1 j31_s0)), (4, .int j31_s0), (0, .long p0), (2, .int p1), (5, .int s8.2.2)]) hx hb dX6_longestRun_39 rfl hl (by decide) rfl (fun ls hl => ?_)
        refine lv_iinc (v := s8.2.2 + (nI 1)) (lv' := [(5, .int (s8.2.2 + (nI 1))), (3, .int (xmax s8.1 j31_s0)), (4, .int j31_s0), (0, .long p0), (2, .int p1)]) hx hb dX6_longestRun_40 hl (k := 4) rfl rfl (by decide) rfl (fun ls hl => ?_)
        refine lv_goto (tgt := 8) hx hb dX6_longestRun_43 (by decide) ?_
        have hf := xo_go hf ho8
        exact ih8 (xmax s8.1 j31_s0, j31_s0, s8.2.2 + (nI 1)) hf ls (lv_sub hl [3, 4, 1, 2, 0] rfl)
      refine lv_iload hx hb dX6_longestRun_8 (lv_at hl 4 rfl) ?_
      refine lv_iload_n hx hb dX6_longestRun_10 rfl (lv_at hl 1 rfl) ?_
      refine lv_icmp_ge (tgt := 46) hx hb dX6_longestRun_11 (by decide) (fun c1 => ?_) (fun c1 => ?_)
      · have hf := xt c1 hf
        refine lv_iload_n hx hb dX6_longestRun_46 rfl (lv_at hl 2 rfl) ?_
        have hf := xo_ret hf ho8
        exact x_reti hC hr hlk trivial hf dX6_longestRun_47
      · have hf := xe c1 hf
        refine lv_lload_n hx hb dX6_longestRun_14 rfl (lv_at hl 0 rfl) ?_
        refine lv_iload hx hb dX6_longestRun_15 (lv_at hl 4 rfl) ?_
        obtain ⟨u2, hf2, hf⟩ := xb hf
        refine x_ran (x_runS (rest := []) (As := [.long p0, .int s8.2.2]) hC mw_677 md_X6_isIn (c_X6_isIn (X := X) hf2) hH [] rfl (by decide) hl.1 rfl rfl (Nat.le_of_ble_eq_true rfl) dX6_longestRun_17 ⟨Nat.le_of_ble_eq_true rfl, Nat.le_of_ble_eq_true rfl⟩ ⟨rfl, rfl⟩ ⟨Nat.le_refl _, Nat.le_refl _⟩) rfl (fun hz2 => ?_)
        refine lv_if_eq (tgt := 30) hx hb dX6_longestRun_20 (by decide) (fun c3 => ?_) (fun c3 => ?_)
        · have hf := xt c3 hf
          refine lv_iconst (v := (nI 0)) hx hb dX6_longestRun_30 (by decide) ?_
          exact J31 (nI 0) hf ls (lv_sub hl [0, 1, 2, 4] rfl)
        · have hf := xe c3 hf
          refine lv_iload hx hb dX6_longestRun_23 (lv_at hl 3 rfl) ?_
          refine lv_iconst (v := (nI 1)) hx hb dX6_longestRun_25 (by decide) ?_
          refine lv_iadd hx hb dX6_longestRun_26 ?_
          refine lv_goto (tgt := 31) hx hb dX6_longestRun_27 (by decide) ?_
          exact J31 (s8.2.1 + (nI 1)) hf ls (lv_sub hl [0, 1, 2, 4] rfl)
  refine lv_iconst (v := (nI 0)) hx hb dX6_longestRun_0 (by decide) ?_
  refine lv_istore_n (lv' := [(3, .int (nI 0)), (0, .long p0), (2, .int p1)]) hx hb dX6_longestRun_1 rfl hl (by decide) rfl (fun ls hl => ?_)
  refine lv_iconst (v := (nI 0)) hx hb dX6_longestRun_2 (by decide) ?_
  refine lv_istore (lv' := [(4, .int (nI 0)), (3, .int (nI 0)), (0, .long p0), (2, .int p1)]) hx hb dX6_longestRun_3 hl (by decide) rfl (fun ls hl => ?_)
  refine lv_iconst (v := (nI 0)) hx hb dX6_longestRun_5 (by decide) ?_
  refine lv_istore (lv' := [(5, .int (nI 0)), (4, .int (nI 0)), (3, .int (nI 0)), (0, .long p0), (2, .int p1)]) hx hb dX6_longestRun_6 hl (by decide) rfl (fun ls hl => ?_)
  exact L8 xN ((nI 0), (nI 0), (nI 0)) hf ls (lv_sub hl [3, 4, 2, 1, 0] rfl)
def f_X6_run (v_now_inForce : Int32) (v_now_depth : Int32) (v_now_ring : Int64) (v_now_steps : Int32) (v_now_laws_count : Int32) (v_now_laws_kinds : (Nat → Int32)) (v_now_laws_tunes : (Nat → Int32)) (v_refusals : (Nat → Int32)) (p1 : Int32) : Option (Int32 × (Nat → Int32)) :=
  if p1 = (nI 0) then
    (f_X6_longestRun v_now_ring v_now_steps).bind fun u2 =>
    some (u2, v_refusals)
  else
  if p1 = (nI 1) then
    (f_X6_longestRun (v_now_ring ^^^ (-1 : Int64)) v_now_steps).bind fun u4 =>
    some (u4, v_refusals)
  else
  if p1 = (nI 2) then
    (f_X0_sounds v_now_inForce v_now_depth v_now_laws_count v_now_laws_kinds v_now_laws_tunes v_now_ring v_now_steps (nI 2)).bind fun u6 =>
    (f_X6_longestRun u6 v_now_steps).bind fun u7 =>
    some (u7, v_refusals)
  else
  (f_X6_refuse v_refusals (-2 : Int32)).bind fun u8 =>
  some (u8.1, u8.2)
set_option maxHeartbeats 4000000 in
set_option maxRecDepth 100000 in
theorem c_X6_run {l : Launch} {X : xG} {h0 h1 h2 h3 h4 h5 g0 g1 g2 g3 : Nat} {v_isKept : Int32} {v_now_inForce : Int32} {v_now_depth : Int32} {v_now_miss : Int32} {v_now_ring : Int64} {v_now_steps : Int32} {v_now_seed : Int32} {v_now_laws_count : Int32} {v_now_laws_kinds : (Nat → Int32)} {v_now_laws_tunes : (Nat → Int32)} {v_refusals : (Nat → Int32)} {p1 : Int32} {u : Int32 × (Nat → Int32)} (hf : f_X6_run v_now_inForce v_now_depth v_now_ring v_now_steps v_now_laws_count v_now_laws_kinds v_now_laws_tunes v_refusals p1 = some u) : Met l yX6_run (xw yX6_run cX6_run 2 (some .int)) (xrm 5 128) (xPc [.ref h0, .int p1] X [(h0, xO 6 [.ref h1, .ref g0, .ref g1, .ref g2, .ref h5, .int v_isKept]), (h1, xO 0 [.ref h2, .ref g3, .int v_now_inForce, .int v_now_depth, .int v_now_miss, .long v_now_ring, .int v_now_steps, .int v_now_seed]), (h2, xO 2 [.ref h3, .ref h4, .int v_now_laws_count]), (h3, xI X 6 v_now_laws_kinds), (h4, xI X 6 v_now_laws_tunes), (h5, xI X 5 v_refusals)]) (xQw True (.returned (some (.int u.1))) X [(h0, xO 6 [.ref h1, .ref g0, .ref g1, .ref g2, .ref h5, .int v_isKept]), (h1, xO 0 [.ref h2, .ref g3, .int v_now_inForce, .int v_now_depth, .int v_now_miss, .long v_now_ring, .int v_now_steps, .int v_now_seed]), (h2, xO 2 [.ref h3, .ref h4, .int v_now_laws_count]), (h3, xI X 6 v_now_laws_kinds), (h4, xI X 6 v_now_laws_tunes), (h5, xI X 5 u.2)] (xAs [(h0, xO 6 [.ref h1, .ref g0, .ref g1, .ref g2, .ref h5, .int v_isKept]), (h1, xO 0 [.ref h2, .ref g3, .int v_now_inForce, .int v_now_depth, .int v_now_miss, .long v_now_ring, .int v_now_steps, .int v_now_seed]), (h2, xO 2 [.ref h3, .ref h4, .int v_now_laws_count]), (h3, xI X 6 v_now_laws_kinds), (h4, xI X 6 v_now_laws_tunes), (h5, xI X 5 v_refusals)])) 0 0 (xAs [(h0, xO 6 [.ref h1, .ref g0, .ref g1, .ref g2, .ref h5, .int v_isKept]), (h1, xO 0 [.ref h2, .ref g3, .int v_now_inForce, .int v_now_depth, .int v_now_miss, .long v_now_ring, .int v_now_steps, .int v_now_seed]), (h2, xO 2 [.ref h3, .ref h4, .int v_now_laws_count]), (h3, xI X 6 v_now_laws_kinds), (h4, xI X 6 v_now_laws_tunes), (h5, xI X 5 v_refusals)]) := by
  refine xMetw (Qc := fun A => xQw True (.returned (some (.int u.1))) X [(h0, xO 6 [.ref h1, .ref g0, .ref g1, .ref g2, .ref h5, .int v_isKept]), (h1, xO 0 [.ref h2, .ref g3, .int v_now_inForce, .int v_now_depth, .int v_now_miss, .long v_now_ring, .int v_now_steps, .int v_now_seed]), (h2, xO 2 [.ref h3, .ref h4, .int v_now_laws_count]), (h3, xI X 6 v_now_laws_kinds), (h4, xI X 6 v_now_laws_tunes), (h5, xI X 5 u.2)] A) (n := 1) md_X6_run.1 (Nat.le_of_ble_eq_true rfl) ?_
  intro p e s m args below meth c ls A hC hr hlk hH hl
  have hl : lv_has ls 2 [(0, .ref h0), (1, .int p1)] := hl
  have hx := hC.1
  have hb := hC.2.1
  refine lv_iload_n hx hb dX6_run_0 rfl (lv_at hl 1 rfl) ?_
  by_cases c1 : p1 = (nI 0)
  · have hf := xt c1 hf
    refine x_tin (k := (nI 0)) (tgt := 28) hx hb dX6_run_1 c1 (by decide) (by decide) ?_
    refine lv_aload_n hx hb dX6_run_28 rfl (lv_at hl 0 rfl) ?_
    refine x_get hC fd_RX6_10 hH.1 0 rfl rfl dX6_run_29 ?_
    refine x_getN hC fd_RX6_120 hH.1 1 rfl rfl dX6_run_32 ?_
    refine lv_aload_n hx hb dX6_run_35 rfl (lv_at hl 0 rfl) ?_
    refine x_get hC fd_RX6_10 hH.1 0 rfl rfl dX6_run_36 ?_
    refine x_getN hC fd_RX6_200 hH.1 1 rfl rfl dX6_run_39 ?_
    obtain ⟨u2, hf2, hf⟩ := xb hf
    refine x_ran (x_runS (rest := []) (As := [.long v_now_ring, .int v_now_steps]) hC mw_769 md_X6_longestRun (c_X6_longestRun (X := X) hf2) hH [] rfl (by decide) hl.1 rfl rfl (Nat.le_of_ble_eq_true rfl) dX6_run_42 ⟨Nat.le_of_ble_eq_true rfl, Nat.le_of_ble_eq_true rfl⟩ ⟨rfl, rfl⟩ ⟨Nat.le_refl _, Nat.le_refl _⟩) rfl (fun hz2 => ?_)
    exact x_retiw (φ := fun _ => True) (f := fun u : Int32 × (Nat → Int32) => u.1) (wf := fun u : Int32 × (Nat → Int32) => [(h0, xO 6 [.ref h1, .ref g0, .ref g1, .ref g2, .ref h5, .int v_isKept]), (h1, xO 0 [.ref h2, .ref g3, .int v_now_inForce, .int v_now_depth, .int v_now_miss, .long v_now_ring, .int v_now_steps, .int v_now_seed]), (h2, xO 2 [.ref h3, .ref h4, .int v_now_laws_count]), (h3, xI X 6 v_now_laws_kinds), (h4, xI X 6 v_now_laws_tunes), (h5, xI X 5 u.2)]) hC hr hlk trivial hf hH rfl rfl dX6_run_45
  · have hf := xe c1 hf
    by_cases c3 : p1 = (nI 1)
    · have hf := xt c3 hf
      refine x_tin (k := (nI 1)) (tgt := 46) hx hb dX6_run_1 c3 (by decide) (by decide) ?_
      refine lv_aload_n hx hb dX6_run_46 rfl (lv_at hl 0 rfl) ?_
      refine x_get hC fd_RX6_10 hH.1 0 rfl rfl dX6_run_47 ?_
      refine x_getN hC fd_RX6_120 hH.1 1 rfl rfl dX6_run_50 ?_
      refine lv_ldc2 (v := (-1 : Int64)) hx hb hC.2.2.2.1 (hC.2.2.2.2.1 _ mw_768) dX6_run_53 ?_
      refine lv_lxor hx hb dX6_run_56 ?_
      refine lv_aload_n hx hb dX6_run_57 rfl (lv_at hl 0 rfl) ?_
      refine x_get hC fd_RX6_10 hH.1 0 rfl rfl dX6_run_58 ?_
      refine x_getN hC fd_RX6_200 hH.1 1 rfl rfl dX6_run_61 ?_
      obtain ⟨u4, hf4, hf⟩ := xb hf
      refine x_ran (x_runS (rest := []) (As := [.long (v_now_ring ^^^ (-1 : Int64)), .int v_now_steps]) hC mw_769 md_X6_longestRun (c_X6_longestRun (X := X) hf4) hH [] rfl (by decide) hl.1 rfl rfl (Nat.le_of_ble_eq_true rfl) dX6_run_64 ⟨Nat.le_of_ble_eq_true rfl, Nat.le_of_ble_eq_true rfl⟩ ⟨rfl, rfl⟩ ⟨Nat.le_refl _, Nat.le_refl _⟩) rfl (fun hz4 => ?_)
      exact x_retiw (φ := fun _ => True) (f := fun u : Int32 × (Nat → Int32) => u.1) (wf := fun u : Int32 × (Nat → Int32) => [(h0, xO 6 [.ref h1, .ref g0, .ref g1, .ref g2, .ref h5, .int v_isKept]), (h1, xO 0 [.ref h2, .ref g3, .int v_now_inForce, .int v_now_depth, .int v_now_miss, .long v_now_ring, .int v_now_steps, .int v_now_seed]), (h2, xO 2 [.ref h3, .ref h4, .int v_now_laws_count]), (h3, xI X 6 v_now_laws_kinds), (h4, xI X 6 v_now_laws_tunes), (h5, xI X 5 u.2)]) hC hr hlk trivial hf hH rfl rfl dX6_run_67
    · have hf := xe c3 hf
      by_cases c5 : p1 = (nI 2)
      · have hf := xt c5 hf
        refine x_tin (k := (nI 2)) (tgt := 68) hx hb dX6_run_1 c5 (by decide) (by decide) ?_
        refine lv_aload_n hx hb dX6_run_68 rfl (lv_at hl 0 rfl) ?_
        refine x_get hC fd_RX6_10 hH.1 0 rfl rfl dX6_run_69 ?_
        refine lv_aload_n hx hb dX6_run_72 rfl (lv_at hl 0 rfl) ?_
        refine x_get hC fd_RX6_10 hH.1 0 rfl rfl dX6_run_73 ?_
        refine x_getN hC fd_RX6_120 hH.1 1 rfl rfl dX6_run_76 ?_
        refine lv_aload_n hx hb dX6_run_79 rfl (lv_at hl 0 rfl) ?_
        refine x_get hC fd_RX6_10 hH.1 0 rfl rfl dX6_run_80 ?_
        refine x_getN hC fd_RX6_200 hH.1 1 rfl rfl dX6_run_83 ?_
        refine lv_iconst (v := (nI 2)) hx hb dX6_run_86 (by decide) ?_
        obtain ⟨u6, hf6, hf⟩ := xb hf
        refine x_ran (x_runV (q0 := 0) (rest := []) (As := [.long v_now_ring, .int v_now_steps, .int (nI 2)]) hC mw_719 md_X0_sounds (c_X0_sounds (X := X) hf6) hH [1, 2, 3, 4] rfl (by decide) rfl rfl rfl hl.1 rfl rfl (Nat.le_of_ble_eq_true rfl) dX6_run_87 ⟨Nat.le_of_ble_eq_true rfl, Nat.le_of_ble_eq_true rfl⟩ ⟨rfl, rfl⟩ ⟨Nat.le_refl _, Nat.le_refl _⟩) rfl (fun hz6 => ?_)
        refine lv_aload_n hx hb dX6_run_90 rfl (lv_at hl 0 rfl) ?_
        refine x_get hC fd_RX6_10 hH.1 0 rfl rfl dX6_run_91 ?_
        refine x_getN hC fd_RX6_200 hH.1 1 rfl rfl dX6_run_94 ?_
        obtain ⟨u7, hf7, hf⟩ := xb hf
        refine x_ran (x_runS (rest := []) (As := [.long u6, .int v_now_steps]) hC mw_769 md_X6_longestRun (c_X6_longestRun (X := X) hf7) hH [] rfl (by decide) hl.1 rfl rfl (Nat.le_of_ble_eq_true rfl) dX6_run_97 ⟨Nat.le_of_ble_eq_true rfl, Nat.le_of_ble_eq_true rfl⟩ ⟨rfl, rfl⟩ ⟨Nat.le_refl _, Nat.le_refl _⟩) rfl (fun hz7 => ?_)
        exact x_retiw (φ := fun _ => True) (f := fun u : Int32 × (Nat → Int32) => u.1) (wf := fun u : Int32 × (Nat → Int32) => [(h0, xO 6 [.ref h1, .ref g0, .ref g1, .ref g2, .ref h5, .int v_isKept]), (h1, xO 0 [.ref h2, .ref g3, .int v_now_inForce, .int v_now_depth, .int v_now_miss, .long v_now_ring, .int v_now_steps, .int v_now_seed]), (h2, xO 2 [.ref h3, .ref h4, .int v_now_laws_count]), (h3, xI X 6 v_now_laws_kinds), (h4, xI X 6 v_now_laws_tunes), (h5, xI X 5 u.2)]) hC hr hlk trivial hf hH rfl rfl dX6_run_100
      · have hf := xe c5 hf
        refine x_tout (tgt := 101) hx hb dX6_run_1 (fun j hj => match j, hj with | 0, _ => c1 | 1, _ => c3 | 2, _ => c5 | _ + 3, hj => absurd hj (by simp <;> omega)) (by decide) ?_
        refine lv_aload_n hx hb dX6_run_101 rfl (lv_at hl 0 rfl) ?_
        refine lv_bipush (v := (-2 : Int32)) hx hb dX6_run_102 (by decide) ?_
        obtain ⟨u8, hf8, hf⟩ := xb hf
        refine x_ranw (ws' := [(h0, xO 6 [.ref h1, .ref g0, .ref g1, .ref g2, .ref h5, .int v_isKept]), (h1, xO 0 [.ref h2, .ref g3, .int v_now_inForce, .int v_now_depth, .int v_now_miss, .long v_now_ring, .int v_now_steps, .int v_now_seed]), (h2, xO 2 [.ref h3, .ref h4, .int v_now_laws_count]), (h3, xI X 6 v_now_laws_kinds), (h4, xI X 6 v_now_laws_tunes), (h5, xI X 5 u8.2)]) (x_runV (q0 := 0) (rest := []) (As := [.int (-2 : Int32)]) hC mw_100 md_X6_refuse (c_X6_refuse (X := X) hf8) hH [0, 5] rfl (by decide) rfl rfl rfl hl.1 rfl rfl (Nat.le_of_ble_eq_true rfl) dX6_run_104 ⟨Nat.le_of_ble_eq_true rfl, Nat.le_of_ble_eq_true rfl⟩ ⟨rfl, rfl⟩ ⟨Nat.le_refl _, Nat.le_refl _⟩) hH [0, 5] rfl rfl rfl rfl rfl (fun hz8 H locs hH => ?_)
        exact x_retiw (φ := fun _ => True) (f := fun u : Int32 × (Nat → Int32) => u.1) (wf := fun u : Int32 × (Nat → Int32) => [(h0, xO 6 [.ref h1, .ref g0, .ref g1, .ref g2, .ref h5, .int v_isKept]), (h1, xO 0 [.ref h2, .ref g3, .int v_now_inForce, .int v_now_depth, .int v_now_miss, .long v_now_ring, .int v_now_steps, .int v_now_seed]), (h2, xO 2 [.ref h3, .ref h4, .int v_now_laws_count]), (h3, xI X 6 v_now_laws_kinds), (h4, xI X 6 v_now_laws_tunes), (h5, xI X 5 u.2)]) hC hr hlk trivial hf hH rfl rfl dX6_run_107
def f_X6_loop (v_now_inForce : Int32) (v_now_ring : Int64) (v_now_steps : Int32) (v_now_laws_count : Int32) (v_now_laws_kinds : (Nat → Int32)) (v_now_laws_tunes : (Nat → Int32)) (v_refusals : (Nat → Int32)) (p1 : Int32) : Option (Int32 × (Nat → Int32)) :=
  (f_X6_isWithin p1 (nI 0) (nI 60)).bind fun u1 =>
  if u1 = (nI 0) then
    (f_X6_refuse v_refusals (-2 : Int32)).bind fun u7 =>
    some (u7.1, u7.2)
  else
  if v_now_laws_count = (nI 0) then
    (f_X6_refuse v_refusals (-5 : Int32)).bind fun u6 =>
    some (u6.1, u6.2)
  else
  (f_X0_struckInRepetition v_now_inForce v_now_ring v_now_steps v_now_laws_count v_now_laws_kinds v_now_laws_tunes p1).bind fun u4 =>
  (f_J13_bitCount_95d88 u4).bind fun u5 =>
  some (u5, v_refusals)
set_option maxHeartbeats 4000000 in
set_option maxRecDepth 100000 in
theorem c_X6_loop {l : Launch} {X : xG} {h0 h1 h2 h3 h4 h5 g0 g1 g2 g3 : Nat} {v_isKept : Int32} {v_now_inForce : Int32} {v_now_depth : Int32} {v_now_miss : Int32} {v_now_ring : Int64} {v_now_steps : Int32} {v_now_seed : Int32} {v_now_laws_count : Int32} {v_now_laws_kinds : (Nat → Int32)} {v_now_laws_tunes : (Nat → Int32)} {v_refusals : (Nat → Int32)} {p1 : Int32} {u : Int32 × (Nat → Int32)} (hf : f_X6_loop v_now_inForce v_now_ring v_now_steps v_now_laws_count v_now_laws_kinds v_now_laws_tunes v_refusals p1 = some u) : Met l yX6_loop (xw yX6_loop cX6_loop 2 (some .int)) (xrm 5 123) (xPc [.ref h0, .int p1] X [(h0, xO 6 [.ref h1, .ref g0, .ref g1, .ref g2, .ref h5, .int v_isKept]), (h1, xO 0 [.ref h2, .ref g3, .int v_now_inForce, .int v_now_depth, .int v_now_miss, .long v_now_ring, .int v_now_steps, .int v_now_seed]), (h2, xO 2 [.ref h3, .ref h4, .int v_now_laws_count]), (h3, xI X 6 v_now_laws_kinds), (h4, xI X 6 v_now_laws_tunes), (h5, xI X 5 v_refusals)]) (xQw True (.returned (some (.int u.1))) X [(h0, xO 6 [.ref h1, .ref g0, .ref g1, .ref g2, .ref h5, .int v_isKept]), (h1, xO 0 [.ref h2, .ref g3, .int v_now_inForce, .int v_now_depth, .int v_now_miss, .long v_now_ring, .int v_now_steps, .int v_now_seed]), (h2, xO 2 [.ref h3, .ref h4, .int v_now_laws_count]), (h3, xI X 6 v_now_laws_kinds), (h4, xI X 6 v_now_laws_tunes), (h5, xI X 5 u.2)] (xAs [(h0, xO 6 [.ref h1, .ref g0, .ref g1, .ref g2, .ref h5, .int v_isKept]), (h1, xO 0 [.ref h2, .ref g3, .int v_now_inForce, .int v_now_depth, .int v_now_miss, .long v_now_ring, .int v_now_steps, .int v_now_seed]), (h2, xO 2 [.ref h3, .ref h4, .int v_now_laws_count]), (h3, xI X 6 v_now_laws_kinds), (h4, xI X 6 v_now_laws_tunes), (h5, xI X 5 v_refusals)])) 0 0 (xAs [(h0, xO 6 [.ref h1, .ref g0, .ref g1, .ref g2, .ref h5, .int v_isKept]), (h1, xO 0 [.ref h2, .ref g3, .int v_now_inForce, .int v_now_depth, .int v_now_miss, .long v_now_ring, .int v_now_steps, .int v_now_seed]), (h2, xO 2 [.ref h3, .ref h4, .int v_now_laws_count]), (h3, xI X 6 v_now_laws_kinds), (h4, xI X 6 v_now_laws_tunes), (h5, xI X 5 v_refusals)]) := by
  refine xMetw (Qc := fun A => xQw True (.returned (some (.int u.1))) X [(h0, xO 6 [.ref h1, .ref g0, .ref g1, .ref g2, .ref h5, .int v_isKept]), (h1, xO 0 [.ref h2, .ref g3, .int v_now_inForce, .int v_now_depth, .int v_now_miss, .long v_now_ring, .int v_now_steps, .int v_now_seed]), (h2, xO 2 [.ref h3, .ref h4, .int v_now_laws_count]), (h3, xI X 6 v_now_laws_kinds), (h4, xI X 6 v_now_laws_tunes), (h5, xI X 5 u.2)] A) (n := 1) md_X6_loop.1 (Nat.le_of_ble_eq_true rfl) ?_
  intro p e s m args below meth c ls A hC hr hlk hH hl
  have hl : lv_has ls 2 [(0, .ref h0), (1, .int p1)] := hl
  have hx := hC.1
  have hb := hC.2.1
  refine lv_iload_n hx hb dX6_loop_0 rfl (lv_at hl 1 rfl) ?_
  refine lv_iconst (v := (nI 0)) hx hb dX6_loop_1 (by decide) ?_
  refine lv_bipush (v := (nI 60)) hx hb dX6_loop_2 (by decide) ?_
  obtain ⟨u1, hf1, hf⟩ := xb hf
  refine x_ran (x_runS (rest := []) (As := [.int p1, .int (nI 0), .int (nI 60)]) hC mw_99 md_X6_isWithin (c_X6_isWithin (X := X) hf1) hH [] rfl (by decide) hl.1 rfl rfl (Nat.le_of_ble_eq_true rfl) dX6_loop_4 ⟨Nat.le_of_ble_eq_true rfl, Nat.le_of_ble_eq_true rfl⟩ ⟨rfl, rfl⟩ ⟨Nat.le_refl _, Nat.le_refl _⟩) rfl (fun hz1 => ?_)
  refine lv_if_ne (tgt := 17) hx hb dX6_loop_7 (by decide) (fun c2 => ?_) (fun c2 => ?_)
  · have hf := xe c2 hf
    refine lv_aload_n hx hb dX6_loop_17 rfl (lv_at hl 0 rfl) ?_
    refine x_get hC fd_RX6_10 hH.1 0 rfl rfl dX6_loop_18 ?_
    refine x_getN hC fd_RX6_81 hH.1 1 rfl rfl dX6_loop_21 ?_
    refine x_getN hC fd_RX6_194 hH.1 2 rfl rfl dX6_loop_24 ?_
    refine lv_if_ne (tgt := 37) hx hb dX6_loop_27 (by decide) (fun c3 => ?_) (fun c3 => ?_)
    · have hf := xe c3 hf
      refine lv_aload_n hx hb dX6_loop_37 rfl (lv_at hl 0 rfl) ?_
      refine x_get hC fd_RX6_10 hH.1 0 rfl rfl dX6_loop_38 ?_
      refine lv_iload_n hx hb dX6_loop_41 rfl (lv_at hl 1 rfl) ?_
      obtain ⟨u4, hf4, hf⟩ := xb hf
      refine x_ran (x_runV (q0 := 0) (rest := []) (As := [.int p1]) hC mw_784 md_X0_struckInRepetition (c_X0_struckInRepetition (X := X) hf4) hH [1, 2, 3, 4] rfl (by decide) rfl rfl rfl hl.1 rfl rfl (Nat.le_of_ble_eq_true rfl) dX6_loop_42 ⟨Nat.le_of_ble_eq_true rfl, Nat.le_of_ble_eq_true rfl⟩ ⟨rfl, rfl⟩ ⟨Nat.le_refl _, Nat.le_refl _⟩) rfl (fun hz4 => ?_)
      obtain ⟨u5, hf5, hf⟩ := xb hf
      refine x_ran (x_runS (rest := []) (As := [.long u4]) hC mw_744 md_J13_bitCount_95d88 (c_J13_bitCount_95d88 (X := X) hf5) hH [] rfl (by decide) hl.1 rfl rfl (Nat.le_of_ble_eq_true rfl) dX6_loop_45 ⟨Nat.le_of_ble_eq_true rfl, Nat.le_of_ble_eq_true rfl⟩ ⟨rfl, rfl⟩ ⟨Nat.le_refl _, Nat.le_refl _⟩) rfl (fun hz5 => ?_)
      exact x_retiw (φ := fun _ => True) (f := fun u : Int32 × (Nat → Int32) => u.1) (wf := fun u : Int32 × (Nat → Int32) => [(h0, xO 6 [.ref h1, .ref g0, .ref g1, .ref g2, .ref h5, .int v_isKept]), (h1, xO 0 [.ref h2, .ref g3, .int v_now_inForce, .int v_now_depth, .int v_now_miss, .long v_now_ring, .int v_now_steps, .int v_now_seed]), (h2, xO 2 [.ref h3, .ref h4, .int v_now_laws_count]), (h3, xI X 6 v_now_laws_kinds), (h4, xI X 6 v_now_laws_tunes), (h5, xI X 5 u.2)]) hC hr hlk trivial hf hH rfl rfl dX6_loop_48
    · have hf := xt c3 hf
      refine lv_aload_n hx hb dX6_loop_30 rfl (lv_at hl 0 rfl) ?_
      refine lv_bipush (v := (-5 : Int32)) hx hb dX6_loop_31 (by decide) ?_
      obtain ⟨u6, hf6, hf⟩ := xb hf
      refine x_ranw (ws' := [(h0, xO 6 [.ref h1, .ref g0, .ref g1, .ref g2, .ref h5, .int v_isKept]), (h1, xO 0 [.ref h2, .ref g3, .int v_now_inForce, .int v_now_depth, .int v_now_miss, .long v_now_ring, .int v_now_steps, .int v_now_seed]), (h2, xO 2 [.ref h3, .ref h4, .int v_now_laws_count]), (h3, xI X 6 v_now_laws_kinds), (h4, xI X 6 v_now_laws_tunes), (h5, xI X 5 u6.2)]) (x_runV (q0 := 0) (rest := []) (As := [.int (-5 : Int32)]) hC mw_100 md_X6_refuse (c_X6_refuse (X := X) hf6) hH [0, 5] rfl (by decide) rfl rfl rfl hl.1 rfl rfl (Nat.le_of_ble_eq_true rfl) dX6_loop_33 ⟨Nat.le_of_ble_eq_true rfl, Nat.le_of_ble_eq_true rfl⟩ ⟨rfl, rfl⟩ ⟨Nat.le_refl _, Nat.le_refl _⟩) hH [0, 5] rfl rfl rfl rfl rfl (fun hz6 H locs hH => ?_)
      exact x_retiw (φ := fun _ => True) (f := fun u : Int32 × (Nat → Int32) => u.1) (wf := fun u : Int32 × (Nat → Int32) => [(h0, xO 6 [.ref h1, .ref g0, .ref g1, .ref g2, .ref h5, .int v_isKept]), (h1, xO 0 [.ref h2, .ref g3, .int v_now_inForce, .int v_now_depth, .int v_now_miss, .long v_now_ring, .int v_now_steps, .int v_now_seed]), (h2, xO 2 [.ref h3, .ref h4, .int v_now_laws_count]), (h3, xI X 6 v_now_laws_kinds), (h4, xI X 6 v_now_laws_tunes), (h5, xI X 5 u.2)]) hC hr hlk trivial hf hH rfl rfl dX6_loop_36
  · have hf := xt c2 hf
    refine lv_aload_n hx hb dX6_loop_10 rfl (lv_at hl 0 rfl) ?_
    refine lv_bipush (v := (-2 : Int32)) hx hb dX6_loop_11 (by decide) ?_
    obtain ⟨u7, hf7, hf⟩ := xb hf
    refine x_ranw (ws' := [(h0, xO 6 [.ref h1, .ref g0, .ref g1, .ref g2, .ref h5, .int v_isKept]), (h1, xO 0 [.ref h2, .ref g3, .int v_now_inForce, .int v_now_depth, .int v_now_miss, .long v_now_ring, .int v_now_steps, .int v_now_seed]), (h2, xO 2 [.ref h3, .ref h4, .int v_now_laws_count]), (h3, xI X 6 v_now_laws_kinds), (h4, xI X 6 v_now_laws_tunes), (h5, xI X 5 u7.2)]) (x_runV (q0 := 0) (rest := []) (As := [.int (-2 : Int32)]) hC mw_100 md_X6_refuse (c_X6_refuse (X := X) hf7) hH [0, 5] rfl (by decide) rfl rfl rfl hl.1 rfl rfl (Nat.le_of_ble_eq_true rfl) dX6_loop_13 ⟨Nat.le_of_ble_eq_true rfl, Nat.le_of_ble_eq_true rfl⟩ ⟨rfl, rfl⟩ ⟨Nat.le_refl _, Nat.le_refl _⟩) hH [0, 5] rfl rfl rfl rfl rfl (fun hz7 H locs hH => ?_)
    exact x_retiw (φ := fun _ => True) (f := fun u : Int32 × (Nat → Int32) => u.1) (wf := fun u : Int32 × (Nat → Int32) => [(h0, xO 6 [.ref h1, .ref g0, .ref g1, .ref g2, .ref h5, .int v_isKept]), (h1, xO 0 [.ref h2, .ref g3, .int v_now_inForce, .int v_now_depth, .int v_now_miss, .long v_now_ring, .int v_now_steps, .int v_now_seed]), (h2, xO 2 [.ref h3, .ref h4, .int v_now_laws_count]), (h3, xI X 6 v_now_laws_kinds), (h4, xI X 6 v_now_laws_tunes), (h5, xI X 5 u.2)]) hC hr hlk trivial hf hH rfl rfl dX6_loop_16
def f_X6_period_L2 (v_now_ring : Int64) (v_now_steps : Int32) (s2 : Int32) : Option ((Int32) ⊕ (Int32)) :=
  if v_now_steps ≤ s2 then
    some (.inl v_now_steps)
  else
  (f_X6_firstBits (v_now_steps - s2)).bind fun u2 =>
  if (xcmp (xlushr v_now_ring s2) (v_now_ring &&& u2)) = (nI 0) then
    some (.inl s2)
  else
  some (.inr (s2 + (nI 1)))
def f_X6_period (v_now_ring : Int64) (v_now_steps : Int32) : Option (Int32) :=
  xloop (f_X6_period_L2 v_now_ring v_now_steps) xN (nI 1)
set_option maxHeartbeats 4000000 in
set_option maxRecDepth 100000 in
theorem c_X6_period {l : Launch} {X : xG} {h0 h1 g0 g1 g2 g3 g4 g5 : Nat} {v_isKept : Int32} {v_now_inForce : Int32} {v_now_depth : Int32} {v_now_miss : Int32} {v_now_ring : Int64} {v_now_steps : Int32} {v_now_seed : Int32} {u : Int32} (hf : f_X6_period v_now_ring v_now_steps = some u) : Met l yX6_period (xw yX6_period cX6_period 2 (some .int)) (xrm 1 20) (xPc [.ref h0] X [(h0, xO 6 [.ref h1, .ref g0, .ref g1, .ref g2, .ref g3, .int v_isKept]), (h1, xO 0 [.ref g4, .ref g5, .int v_now_inForce, .int v_now_depth, .int v_now_miss, .long v_now_ring, .int v_now_steps, .int v_now_seed])]) (xQ True (.returned (some (.int u)))) 0 0 xNo := by
  refine xMet (n := 0) md_X6_period.1 (Nat.le_of_ble_eq_true rfl) ?_
  intro p e s m args below meth c ls A hC hr hlk hH hl
  have hl : lv_has ls 2 [(0, .ref h0)] := hl
  have hx := hC.1
  have hb := hC.2.1
  have L2 : ∀ (n : Nat) (s2 : Int32), xloop (f_X6_period_L2 v_now_ring v_now_steps) n s2 = some u → ∀ (ls : Array Slot), lv_has ls 2 [(0, .ref h0), (1, .int s2)] → W p l e (xrm 1 20) s m args below meth c s.heap [] 0 0 (MQ below (xQ True (.returned (some (.int u)))) args s 0 0 xNo) (F0 m 2 ls []) := by
    intro  n
    induction n with
    | zero => intro s2 hf; exact xloop_0 hf
    | succ n ih2 =>
      intro s2 hf ls hl
      obtain ⟨o2, hf, ho2⟩ := xloop_s hf
      refine lv_iload_n hx hb dX6_period_2 rfl (lv_at hl 1 rfl) ?_
      refine lv_aload_n hx hb dX6_period_3 rfl (lv_at hl 0 rfl) ?_
      refine x_get hC fd_RX6_10 hH.1 0 rfl rfl dX6_period_4 ?_
      refine x_getN hC fd_RX6_200 hH.1 1 rfl rfl dX6_period_7 ?_
      refine lv_icmp_ge (tgt := 54) hx hb dX6_period_10 (by decide) (fun c1 => ?_) (fun c1 => ?_)
      · have hf := xt c1 hf
        refine lv_aload_n hx hb dX6_period_54 rfl (lv_at hl 0 rfl) ?_
        refine x_get hC fd_RX6_10 hH.1 0 rfl rfl dX6_period_55 ?_
        refine x_getN hC fd_RX6_200 hH.1 1 rfl rfl dX6_period_58 ?_
        have hf := xo_ret hf ho2
        exact x_reti hC hr hlk trivial hf dX6_period_61
      · have hf := xe c1 hf
        refine lv_aload_n hx hb dX6_period_13 rfl (lv_at hl 0 rfl) ?_
        refine x_get hC fd_RX6_10 hH.1 0 rfl rfl dX6_period_14 ?_
        refine x_getN hC fd_RX6_120 hH.1 1 rfl rfl dX6_period_17 ?_
        refine lv_iload_n hx hb dX6_period_20 rfl (lv_at hl 1 rfl) ?_
        refine x_lushr hx hb dX6_period_21 ?_
        refine lv_aload_n hx hb dX6_period_22 rfl (lv_at hl 0 rfl) ?_
        refine x_get hC fd_RX6_10 hH.1 0 rfl rfl dX6_period_23 ?_
        refine x_getN hC fd_RX6_120 hH.1 1 rfl rfl dX6_period_26 ?_
        refine lv_aload_n hx hb dX6_period_29 rfl (lv_at hl 0 rfl) ?_
        refine x_get hC fd_RX6_10 hH.1 0 rfl rfl dX6_period_30 ?_
        refine x_getN hC fd_RX6_200 hH.1 1 rfl rfl dX6_period_33 ?_
        refine lv_iload_n hx hb dX6_period_36 rfl (lv_at hl 1 rfl) ?_
        refine lv_isub hx hb dX6_period_37 ?_
        obtain ⟨u2, hf2, hf⟩ := xb hf
        refine x_ran (x_runS (rest := [.long v_now_ring, .long (xlushr v_now_ring s2)]) (As := [.int (v_now_steps - s2)]) hC mw_800 md_X6_firstBits (c_X6_firstBits (X := X) hf2) hH [] rfl (by decide) hl.1 rfl rfl (Nat.le_of_ble_eq_true rfl) dX6_period_38 ⟨Nat.le_of_ble_eq_true rfl, Nat.le_of_ble_eq_true rfl⟩ ⟨rfl, rfl⟩ ⟨Nat.le_refl _, Nat.le_refl _⟩) rfl (fun hz2 => ?_)
        refine lv_land hx hb dX6_period_41 ?_
        refine x_lcmp hx hb dX6_period_42 ?_
        refine lv_if_ne (tgt := 48) hx hb dX6_period_43 (by decide) (fun c3 => ?_) (fun c3 => ?_)
        · have hf := xe c3 hf
          refine lv_iinc (v := s2 + (nI 1)) (lv' := [(1, .int (s2 + (nI 1))), (0, .ref h0)]) hx hb dX6_period_48 hl (k := 1) rfl rfl (by decide) rfl (fun ls hl => ?_)
          refine lv_goto (tgt := 2) hx hb dX6_period_51 (by decide) ?_
          have hf := xo_go hf ho2
          exact ih2 (s2 + (nI 1)) hf ls (lv_sub hl [1, 0] rfl)
        · have hf := xt c3 hf
          refine lv_iload_n hx hb dX6_period_46 rfl (lv_at hl 1 rfl) ?_
          have hf := xo_ret hf ho2
          exact x_reti hC hr hlk trivial hf dX6_period_47
  refine lv_iconst (v := (nI 1)) hx hb dX6_period_0 (by decide) ?_
  refine lv_istore_n (lv' := [(1, .int (nI 1)), (0, .ref h0)]) hx hb dX6_period_1 rfl hl (by decide) rfl (fun ls hl => ?_)
  exact L2 xN (nI 1) hf ls (lv_sub hl [1, 0] rfl)
def f_X6_mirror (v_now_ring : Int64) (v_now_steps : Int32) : Option (Int32) :=
  (f_X0_turnedAbout v_now_ring v_now_steps).bind fun u1 =>
  if (xcmp u1 v_now_ring) = (nI 0) then
    (f_X6_asNumber (nI 1)).bind fun u4 =>
    some u4
  else
  (f_X6_asNumber (nI 0)).bind fun u3 =>
  some u3
set_option maxHeartbeats 4000000 in
set_option maxRecDepth 100000 in
theorem c_X6_mirror {l : Launch} {X : xG} {h0 h1 g0 g1 g2 g3 g4 g5 : Nat} {v_isKept : Int32} {v_now_inForce : Int32} {v_now_depth : Int32} {v_now_miss : Int32} {v_now_ring : Int64} {v_now_steps : Int32} {v_now_seed : Int32} {u : Int32} (hf : f_X6_mirror v_now_ring v_now_steps = some u) : Met l yX6_mirror (xw yX6_mirror cX6_mirror 1 (some .int)) (xrm 1 23) (xPc [.ref h0] X [(h0, xO 6 [.ref h1, .ref g0, .ref g1, .ref g2, .ref g3, .int v_isKept]), (h1, xO 0 [.ref g4, .ref g5, .int v_now_inForce, .int v_now_depth, .int v_now_miss, .long v_now_ring, .int v_now_steps, .int v_now_seed])]) (xQ True (.returned (some (.int u)))) 0 0 xNo := by
  refine xMet (n := 0) md_X6_mirror.1 (Nat.le_of_ble_eq_true rfl) ?_
  intro p e s m args below meth c ls A hC hr hlk hH hl
  have hl : lv_has ls 1 [(0, .ref h0)] := hl
  have hx := hC.1
  have hb := hC.2.1
  refine lv_aload_n hx hb dX6_mirror_0 rfl (lv_at hl 0 rfl) ?_
  refine x_get hC fd_RX6_10 hH.1 0 rfl rfl dX6_mirror_1 ?_
  obtain ⟨u1, hf1, hf⟩ := xb hf
  refine x_ran (x_runV (q0 := 0) (rest := []) (As := []) hC mw_809 md_X0_turnedAbout (c_X0_turnedAbout (X := X) hf1) hH [1] rfl (by decide) rfl rfl rfl hl.1 rfl rfl (Nat.le_of_ble_eq_true rfl) dX6_mirror_4 ⟨Nat.le_of_ble_eq_true rfl, Nat.le_of_ble_eq_true rfl⟩ ⟨rfl, rfl⟩ ⟨Nat.le_refl _, Nat.le_refl _⟩) rfl (fun hz1 => ?_)
  refine lv_aload_n hx hb dX6_mirror_7 rfl (lv_at hl 0 rfl) ?_
  refine x_get hC fd_RX6_10 hH.1 0 rfl rfl dX6_mirror_8 ?_
  refine x_getN hC fd_RX6_120 hH.1 1 rfl rfl dX6_mirror_11 ?_
  refine x_lcmp hx hb dX6_mirror_14 ?_
  refine lv_if_ne (tgt := 22) hx hb dX6_mirror_15 (by decide) (fun c2 => ?_) (fun c2 => ?_)
  · have hf := xe c2 hf
    refine lv_iconst (v := (nI 0)) hx hb dX6_mirror_22 (by decide) ?_
    obtain ⟨u3, hf3, hf⟩ := xb hf
    refine x_ran (x_runS (rest := []) (As := [.int (nI 0)]) hC mw_678 md_X6_asNumber (c_X6_asNumber (X := X) hf3) hH [] rfl (by decide) hl.1 rfl rfl (Nat.le_of_ble_eq_true rfl) dX6_mirror_23 ⟨Nat.le_of_ble_eq_true rfl, Nat.le_of_ble_eq_true rfl⟩ ⟨rfl, rfl⟩ ⟨Nat.le_refl _, Nat.le_refl _⟩) rfl (fun hz3 => ?_)
    exact x_reti hC hr hlk trivial hf dX6_mirror_26
  · have hf := xt c2 hf
    refine lv_iconst (v := (nI 1)) hx hb dX6_mirror_18 (by decide) ?_
    refine lv_goto (tgt := 23) hx hb dX6_mirror_19 (by decide) ?_
    obtain ⟨u4, hf4, hf⟩ := xb hf
    refine x_ran (x_runS (rest := []) (As := [.int (nI 1)]) hC mw_678 md_X6_asNumber (c_X6_asNumber (X := X) hf4) hH [] rfl (by decide) hl.1 rfl rfl (Nat.le_of_ble_eq_true rfl) dX6_mirror_23 ⟨Nat.le_of_ble_eq_true rfl, Nat.le_of_ble_eq_true rfl⟩ ⟨rfl, rfl⟩ ⟨Nat.le_refl _, Nat.le_refl _⟩) rfl (fun hz4 => ?_)
    exact x_reti hC hr hlk trivial hf dX6_mirror_26
def f_X6_lastStroke_L4 (v_now_ring : Int64) (v_now_steps : Int32) (s4 : Int32 × Int32) : Option ((Int32) ⊕ (Int32 × Int32)) :=
  if v_now_steps ≤ s4.2 then
    some (.inl s4.1)
  else
  (f_X6_isIn v_now_ring s4.2).bind fun u2 =>
  if u2 = (nI 0) then
    some (.inr (s4.1, s4.2 + (nI 1)))
  else
  some (.inr (s4.2, s4.2 + (nI 1)))
def f_X6_lastStroke (v_now_ring : Int64) (v_now_steps : Int32) : Option (Int32) :=
  xloop (f_X6_lastStroke_L4 v_now_ring v_now_steps) xN ((-1 : Int32), (nI 0))
set_option maxHeartbeats 4000000 in
set_option maxRecDepth 100000 in
theorem c_X6_lastStroke {l : Launch} {X : xG} {h0 h1 g0 g1 g2 g3 g4 g5 : Nat} {v_isKept : Int32} {v_now_inForce : Int32} {v_now_depth : Int32} {v_now_miss : Int32} {v_now_ring : Int64} {v_now_steps : Int32} {v_now_seed : Int32} {u : Int32} (hf : f_X6_lastStroke v_now_ring v_now_steps = some u) : Met l yX6_lastStroke (xw yX6_lastStroke cX6_lastStroke 3 (some .int)) (xrm 1 22) (xPc [.ref h0] X [(h0, xO 6 [.ref h1, .ref g0, .ref g1, .ref g2, .ref g3, .int v_isKept]), (h1, xO 0 [.ref g4, .ref g5, .int v_now_inForce, .int v_now_depth, .int v_now_miss, .long v_now_ring, .int v_now_steps, .int v_now_seed])]) (xQ True (.returned (some (.int u)))) 0 0 xNo := by
  refine xMet (n := 0) md_X6_lastStroke.1 (Nat.le_of_ble_eq_true rfl) ?_
  intro p e s m args below meth c ls A hC hr hlk hH hl
  have hl : lv_has ls 3 [(0, .ref h0)] := hl
  have hx := hC.1
  have hb := hC.2.1
  have L4 : ∀ (n : Nat) (s4 : Int32 × Int32), xloop (f_X6_lastStroke_L4 v_now_ring v_now_steps) n s4 = some u → ∀ (ls : Array Slot), lv_has ls 3 [(0, .ref h0), (1, .int s4.1), (2, .int s4.2)] → W p l e (xrm 1 22) s m args below meth c s.heap [] 0 0 (MQ below (xQ True (.returned (some (.int u)))) args s 0 0 xNo) (F0 m 4 ls []) := by
    intro  n
    induction n with
    | zero => intro s4 hf; exact xloop_0 hf
    | succ n ih4 =>
      intro s4 hf ls hl
      obtain ⟨o4, hf, ho4⟩ := xloop_s hf
      refine lv_iload_n hx hb dX6_lastStroke_4 rfl (lv_at hl 2 rfl) ?_
      refine lv_aload_n hx hb dX6_lastStroke_5 rfl (lv_at hl 0 rfl) ?_
      refine x_get hC fd_RX6_10 hH.1 0 rfl rfl dX6_lastStroke_6 ?_
      refine x_getN hC fd_RX6_200 hH.1 1 rfl rfl dX6_lastStroke_9 ?_
      refine lv_icmp_ge (tgt := 37) hx hb dX6_lastStroke_12 (by decide) (fun c1 => ?_) (fun c1 => ?_)
      · have hf := xt c1 hf
        refine lv_iload_n hx hb dX6_lastStroke_37 rfl (lv_at hl 1 rfl) ?_
        have hf := xo_ret hf ho4
        exact x_reti hC hr hlk trivial hf dX6_lastStroke_38
      · have hf := xe c1 hf
        refine lv_aload_n hx hb dX6_lastStroke_15 rfl (lv_at hl 0 rfl) ?_
        refine x_get hC fd_RX6_10 hH.1 0 rfl rfl dX6_lastStroke_16 ?_
        refine x_getN hC fd_RX6_120 hH.1 1 rfl rfl dX6_lastStroke_19 ?_
        refine lv_iload_n hx hb dX6_lastStroke_22 rfl (lv_at hl 2 rfl) ?_
        obtain ⟨u2, hf2, hf⟩ := xb hf
        refine x_ran (x_runS (rest := []) (As := [.long v_now_ring, .int s4.2]) hC mw_677 md_X6_isIn (c_X6_isIn (X := X) hf2) hH [] rfl (by decide) hl.1 rfl rfl (Nat.le_of_ble_eq_true rfl) dX6_lastStroke_23 ⟨Nat.le_of_ble_eq_true rfl, Nat.le_of_ble_eq_true rfl⟩ ⟨rfl, rfl⟩ ⟨Nat.le_refl _, Nat.le_refl _⟩) rfl (fun hz2 => ?_)
        refine lv_if_eq (tgt := 31) hx hb dX6_lastStroke_26 (by decide) (fun c3 => ?_) (fun c3 => ?_)
        · have hf := xt c3 hf
          refine lv_iinc (v := s4.2 + (nI 1)) (lv' := [(2, .int (s4.2 + (nI 1))), (0, .ref h0), (1, .int s4.1)]) hx hb dX6_lastStroke_31 hl (k := 2) rfl rfl (by decide) rfl (fun ls hl => ?_)
          refine lv_goto (tgt := 4) hx hb dX6_lastStroke_34 (by decide) ?_
          have hf := xo_go hf ho4
          exact ih4 (s4.1, s4.2 + (nI 1)) hf ls (lv_sub hl [1, 2, 0] rfl)
        · have hf := xe c3 hf
          refine lv_iload_n hx hb dX6_lastStroke_29 rfl (lv_at hl 2 rfl) ?_
          refine lv_istore_n (lv' := [(1, .int s4.2), (0, .ref h0), (2, .int s4.2)]) hx hb dX6_lastStroke_30 rfl hl (by decide) rfl (fun ls hl => ?_)
          refine lv_iinc (v := s4.2 + (nI 1)) (lv' := [(2, .int (s4.2 + (nI 1))), (1, .int s4.2), (0, .ref h0)]) hx hb dX6_lastStroke_31 hl (k := 2) rfl rfl (by decide) rfl (fun ls hl => ?_)
          refine lv_goto (tgt := 4) hx hb dX6_lastStroke_34 (by decide) ?_
          have hf := xo_go hf ho4
          exact ih4 (s4.2, s4.2 + (nI 1)) hf ls (lv_sub hl [2, 1, 0] rfl)
  refine lv_iconst (v := (-1 : Int32)) hx hb dX6_lastStroke_0 (by decide) ?_
  refine lv_istore_n (lv' := [(1, .int (-1 : Int32)), (0, .ref h0)]) hx hb dX6_lastStroke_1 rfl hl (by decide) rfl (fun ls hl => ?_)
  refine lv_iconst (v := (nI 0)) hx hb dX6_lastStroke_2 (by decide) ?_
  refine lv_istore_n (lv' := [(2, .int (nI 0)), (1, .int (-1 : Int32)), (0, .ref h0)]) hx hb dX6_lastStroke_3 rfl hl (by decide) rfl (fun ls hl => ?_)
  exact L4 xN ((-1 : Int32), (nI 0)) hf ls (lv_sub hl [2, 1, 0] rfl)
def f_X6_shift (v_now_inForce : Int32) (v_now_ring : Int64) (v_now_steps : Int32) (v_now_laws_count : Int32) (v_now_laws_kinds : (Nat → Int32)) (v_now_laws_tunes : (Nat → Int32)) (v_refusals : (Nat → Int32)) (p1 : Int32) : Option (Int32 × (Nat → Int32)) :=
  (f_X6_isStep v_now_steps p1).bind fun u1 =>
  if u1 = (nI 0) then
    (f_X6_refuse v_refusals (-2 : Int32)).bind fun u5 =>
    some (u5.1, u5.2)
  else
  (f_X6_firstBits v_now_steps).bind fun u3 =>
  (f_X0_timesStruck v_now_steps v_now_laws_count v_now_laws_kinds v_now_laws_tunes v_now_inForce (((xlushr v_now_ring p1) ||| (xlshl v_now_ring (v_now_steps - p1))) &&& u3)).bind fun u4 =>
  some (u4, v_refusals)
set_option maxHeartbeats 4000000 in
set_option maxRecDepth 100000 in
theorem c_X6_shift {l : Launch} {X : xG} {h0 h1 h2 h3 h4 h5 g0 g1 g2 g3 : Nat} {v_isKept : Int32} {v_now_inForce : Int32} {v_now_depth : Int32} {v_now_miss : Int32} {v_now_ring : Int64} {v_now_steps : Int32} {v_now_seed : Int32} {v_now_laws_count : Int32} {v_now_laws_kinds : (Nat → Int32)} {v_now_laws_tunes : (Nat → Int32)} {v_refusals : (Nat → Int32)} {p1 : Int32} {u : Int32 × (Nat → Int32)} (hf : f_X6_shift v_now_inForce v_now_ring v_now_steps v_now_laws_count v_now_laws_kinds v_now_laws_tunes v_refusals p1 = some u) : Met l yX6_shift (xw yX6_shift cX6_shift 4 (some .int)) (xrm 6 148) (xPc [.ref h0, .int p1] X [(h0, xO 6 [.ref h1, .ref g0, .ref g1, .ref g2, .ref h5, .int v_isKept]), (h1, xO 0 [.ref h2, .ref g3, .int v_now_inForce, .int v_now_depth, .int v_now_miss, .long v_now_ring, .int v_now_steps, .int v_now_seed]), (h2, xO 2 [.ref h3, .ref h4, .int v_now_laws_count]), (h3, xI X 6 v_now_laws_kinds), (h4, xI X 6 v_now_laws_tunes), (h5, xI X 5 v_refusals)]) (xQw True (.returned (some (.int u.1))) X [(h0, xO 6 [.ref h1, .ref g0, .ref g1, .ref g2, .ref h5, .int v_isKept]), (h1, xO 0 [.ref h2, .ref g3, .int v_now_inForce, .int v_now_depth, .int v_now_miss, .long v_now_ring, .int v_now_steps, .int v_now_seed]), (h2, xO 2 [.ref h3, .ref h4, .int v_now_laws_count]), (h3, xI X 6 v_now_laws_kinds), (h4, xI X 6 v_now_laws_tunes), (h5, xI X 5 u.2)] (xAs [(h0, xO 6 [.ref h1, .ref g0, .ref g1, .ref g2, .ref h5, .int v_isKept]), (h1, xO 0 [.ref h2, .ref g3, .int v_now_inForce, .int v_now_depth, .int v_now_miss, .long v_now_ring, .int v_now_steps, .int v_now_seed]), (h2, xO 2 [.ref h3, .ref h4, .int v_now_laws_count]), (h3, xI X 6 v_now_laws_kinds), (h4, xI X 6 v_now_laws_tunes), (h5, xI X 5 v_refusals)])) 0 0 (xAs [(h0, xO 6 [.ref h1, .ref g0, .ref g1, .ref g2, .ref h5, .int v_isKept]), (h1, xO 0 [.ref h2, .ref g3, .int v_now_inForce, .int v_now_depth, .int v_now_miss, .long v_now_ring, .int v_now_steps, .int v_now_seed]), (h2, xO 2 [.ref h3, .ref h4, .int v_now_laws_count]), (h3, xI X 6 v_now_laws_kinds), (h4, xI X 6 v_now_laws_tunes), (h5, xI X 5 v_refusals)]) := by
  refine xMetw (Qc := fun A => xQw True (.returned (some (.int u.1))) X [(h0, xO 6 [.ref h1, .ref g0, .ref g1, .ref g2, .ref h5, .int v_isKept]), (h1, xO 0 [.ref h2, .ref g3, .int v_now_inForce, .int v_now_depth, .int v_now_miss, .long v_now_ring, .int v_now_steps, .int v_now_seed]), (h2, xO 2 [.ref h3, .ref h4, .int v_now_laws_count]), (h3, xI X 6 v_now_laws_kinds), (h4, xI X 6 v_now_laws_tunes), (h5, xI X 5 u.2)] A) (n := 1) md_X6_shift.1 (Nat.le_of_ble_eq_true rfl) ?_
  intro p e s m args below meth c ls A hC hr hlk hH hl
  have hl : lv_has ls 4 [(0, .ref h0), (1, .int p1)] := hl
  have hx := hC.1
  have hb := hC.2.1
  refine lv_aload_n hx hb dX6_shift_0 rfl (lv_at hl 0 rfl) ?_
  refine lv_iload_n hx hb dX6_shift_1 rfl (lv_at hl 1 rfl) ?_
  obtain ⟨u1, hf1, hf⟩ := xb hf
  refine x_ran (x_runV (q0 := 0) (rest := []) (As := [.int p1]) hC mw_673 md_X6_isStep (c_X6_isStep (X := X) hf1) hH [0, 1] rfl (by decide) rfl rfl rfl hl.1 rfl rfl (Nat.le_of_ble_eq_true rfl) dX6_shift_2 ⟨Nat.le_of_ble_eq_true rfl, Nat.le_of_ble_eq_true rfl⟩ ⟨rfl, rfl⟩ ⟨Nat.le_refl _, Nat.le_refl _⟩) rfl (fun hz1 => ?_)
  refine lv_if_ne (tgt := 15) hx hb dX6_shift_5 (by decide) (fun c2 => ?_) (fun c2 => ?_)
  · have hf := xe c2 hf
    refine lv_aload_n hx hb dX6_shift_15 rfl (lv_at hl 0 rfl) ?_
    refine x_get hC fd_RX6_10 hH.1 0 rfl rfl dX6_shift_16 ?_
    refine x_getN hC fd_RX6_120 hH.1 1 rfl rfl dX6_shift_19 ?_
    refine lv_iload_n hx hb dX6_shift_22 rfl (lv_at hl 1 rfl) ?_
    refine x_lushr hx hb dX6_shift_23 ?_
    refine lv_aload_n hx hb dX6_shift_24 rfl (lv_at hl 0 rfl) ?_
    refine x_get hC fd_RX6_10 hH.1 0 rfl rfl dX6_shift_25 ?_
    refine x_getN hC fd_RX6_120 hH.1 1 rfl rfl dX6_shift_28 ?_
    refine lv_aload_n hx hb dX6_shift_31 rfl (lv_at hl 0 rfl) ?_
    refine x_get hC fd_RX6_10 hH.1 0 rfl rfl dX6_shift_32 ?_
    refine x_getN hC fd_RX6_200 hH.1 1 rfl rfl dX6_shift_35 ?_
    refine lv_iload_n hx hb dX6_shift_38 rfl (lv_at hl 1 rfl) ?_
    refine lv_isub hx hb dX6_shift_39 ?_
    refine x_lshl hx hb dX6_shift_40 ?_
    refine lv_lor hx hb dX6_shift_41 ?_
    refine lv_aload_n hx hb dX6_shift_42 rfl (lv_at hl 0 rfl) ?_
    refine x_get hC fd_RX6_10 hH.1 0 rfl rfl dX6_shift_43 ?_
    refine x_getN hC fd_RX6_200 hH.1 1 rfl rfl dX6_shift_46 ?_
    obtain ⟨u3, hf3, hf⟩ := xb hf
    refine x_ran (x_runS (rest := [.long ((xlushr v_now_ring p1) ||| (xlshl v_now_ring (v_now_steps - p1)))]) (As := [.int v_now_steps]) hC mw_800 md_X6_firstBits (c_X6_firstBits (X := X) hf3) hH [] rfl (by decide) hl.1 rfl rfl (Nat.le_of_ble_eq_true rfl) dX6_shift_49 ⟨Nat.le_of_ble_eq_true rfl, Nat.le_of_ble_eq_true rfl⟩ ⟨rfl, rfl⟩ ⟨Nat.le_refl _, Nat.le_refl _⟩) rfl (fun hz3 => ?_)
    refine lv_land hx hb dX6_shift_52 ?_
    refine lv_lstore_n (lv' := [(2, .long (((xlushr v_now_ring p1) ||| (xlshl v_now_ring (v_now_steps - p1))) &&& u3)), (0, .ref h0), (1, .int p1)]) hx hb dX6_shift_53 rfl hl (by decide) rfl (fun ls hl => ?_)
    refine lv_aload_n hx hb dX6_shift_54 rfl (lv_at hl 1 rfl) ?_
    refine x_get hC fd_RX6_10 hH.1 0 rfl rfl dX6_shift_55 ?_
    refine lv_aload_n hx hb dX6_shift_58 rfl (lv_at hl 1 rfl) ?_
    refine x_get hC fd_RX6_10 hH.1 0 rfl rfl dX6_shift_59 ?_
    refine x_getN hC fd_RX6_135 hH.1 1 rfl rfl dX6_shift_62 ?_
    refine lv_lload_n hx hb dX6_shift_65 rfl (lv_at hl 0 rfl) ?_
    obtain ⟨u4, hf4, hf⟩ := xb hf
    refine x_ran (x_runV (q0 := 0) (rest := []) (As := [.int v_now_inForce, .long (((xlushr v_now_ring p1) ||| (xlshl v_now_ring (v_now_steps - p1))) &&& u3)]) hC mw_269 md_X0_timesStruck (c_X0_timesStruck (X := X) hf4) hH [1, 2, 3, 4] rfl (by decide) rfl rfl rfl hl.1 rfl rfl (Nat.le_of_ble_eq_true rfl) dX6_shift_66 ⟨Nat.le_of_ble_eq_true rfl, Nat.le_of_ble_eq_true rfl⟩ ⟨rfl, rfl⟩ ⟨Nat.le_refl _, Nat.le_refl _⟩) rfl (fun hz4 => ?_)
    exact x_retiw (φ := fun _ => True) (f := fun u : Int32 × (Nat → Int32) => u.1) (wf := fun u : Int32 × (Nat → Int32) => [(h0, xO 6 [.ref h1, .ref g0, .ref g1, .ref g2, .ref h5, .int v_isKept]), (h1, xO 0 [.ref h2, .ref g3, .int v_now_inForce, .int v_now_depth, .int v_now_miss, .long v_now_ring, .int v_now_steps, .int v_now_seed]), (h2, xO 2 [.ref h3, .ref h4, .int v_now_laws_count]), (h3, xI X 6 v_now_laws_kinds), (h4, xI X 6 v_now_laws_tunes), (h5, xI X 5 u.2)]) hC hr hlk trivial hf hH rfl rfl dX6_shift_69
  · have hf := xt c2 hf
    refine lv_aload_n hx hb dX6_shift_8 rfl (lv_at hl 0 rfl) ?_
    refine lv_bipush (v := (-2 : Int32)) hx hb dX6_shift_9 (by decide) ?_
    obtain ⟨u5, hf5, hf⟩ := xb hf
    refine x_ranw (ws' := [(h0, xO 6 [.ref h1, .ref g0, .ref g1, .ref g2, .ref h5, .int v_isKept]), (h1, xO 0 [.ref h2, .ref g3, .int v_now_inForce, .int v_now_depth, .int v_now_miss, .long v_now_ring, .int v_now_steps, .int v_now_seed]), (h2, xO 2 [.ref h3, .ref h4, .int v_now_laws_count]), (h3, xI X 6 v_now_laws_kinds), (h4, xI X 6 v_now_laws_tunes), (h5, xI X 5 u5.2)]) (x_runV (q0 := 0) (rest := []) (As := [.int (-2 : Int32)]) hC mw_100 md_X6_refuse (c_X6_refuse (X := X) hf5) hH [0, 5] rfl (by decide) rfl rfl rfl hl.1 rfl rfl (Nat.le_of_ble_eq_true rfl) dX6_shift_11 ⟨Nat.le_of_ble_eq_true rfl, Nat.le_of_ble_eq_true rfl⟩ ⟨rfl, rfl⟩ ⟨Nat.le_refl _, Nat.le_refl _⟩) hH [0, 5] rfl rfl rfl rfl rfl (fun hz5 H locs hH => ?_)
    exact x_retiw (φ := fun _ => True) (f := fun u : Int32 × (Nat → Int32) => u.1) (wf := fun u : Int32 × (Nat → Int32) => [(h0, xO 6 [.ref h1, .ref g0, .ref g1, .ref g2, .ref h5, .int v_isKept]), (h1, xO 0 [.ref h2, .ref g3, .int v_now_inForce, .int v_now_depth, .int v_now_miss, .long v_now_ring, .int v_now_steps, .int v_now_seed]), (h2, xO 2 [.ref h3, .ref h4, .int v_now_laws_count]), (h3, xI X 6 v_now_laws_kinds), (h4, xI X 6 v_now_laws_tunes), (h5, xI X 5 u.2)]) hC hr hlk trivial hf hH rfl rfl dX6_shift_14
def f_X6_flip_L23 (v_now_inForce : Int32) (v_now_depth : Int32) (v_now_ring : Int64) (v_now_steps : Int32) (v_now_laws_count : Int32) (v_now_laws_kinds : (Nat → Int32)) (v_now_laws_tunes : (Nat → Int32)) (v_refusals : (Nat → Int32)) (s23 : Int32 × Int32 × Int32) : Option ((Int32 × (Nat → Int32)) ⊕ (Int32 × Int32 × Int32)) :=
  if v_now_steps ≤ s23.2.2 then
    some (.inl (s23.1, v_refusals))
  else
  (f_X0_sounds v_now_inForce v_now_depth v_now_laws_count v_now_laws_kinds v_now_laws_tunes (v_now_ring ^^^ (xlshl (lN 1) s23.2.2)) v_now_steps (nI 0)).bind fun u3 =>
  (f_J13_bitCount_95d88 u3).bind fun u4 =>
  if u4 ≤ s23.2.1 then
    some (.inr (s23.1, s23.2.1, s23.2.2 + (nI 1)))
  else
  some (.inr (s23.2.2, u4, s23.2.2 + (nI 1)))
def f_X6_flip (v_now_inForce : Int32) (v_now_depth : Int32) (v_now_ring : Int64) (v_now_steps : Int32) (v_now_laws_count : Int32) (v_now_laws_kinds : (Nat → Int32)) (v_now_laws_tunes : (Nat → Int32)) (v_refusals : (Nat → Int32)) : Option (Int32 × (Nat → Int32)) :=
  if v_now_steps = (nI 0) then
    (f_X6_refuse v_refusals (-5 : Int32)).bind fun u6 =>
    some (u6.1, u6.2)
  else
  xloop (f_X6_flip_L23 v_now_inForce v_now_depth v_now_ring v_now_steps v_now_laws_count v_now_laws_kinds v_now_laws_tunes v_refusals) xN ((nI 0), (-1 : Int32), (nI 0))
set_option maxHeartbeats 4000000 in
set_option maxRecDepth 100000 in
theorem c_X6_flip {l : Launch} {X : xG} {h0 h1 h2 h3 h4 h5 g0 g1 g2 g3 : Nat} {v_isKept : Int32} {v_now_inForce : Int32} {v_now_depth : Int32} {v_now_miss : Int32} {v_now_ring : Int64} {v_now_steps : Int32} {v_now_seed : Int32} {v_now_laws_count : Int32} {v_now_laws_kinds : (Nat → Int32)} {v_now_laws_tunes : (Nat → Int32)} {v_refusals : (Nat → Int32)} {u : Int32 × (Nat → Int32)} (hf : f_X6_flip v_now_inForce v_now_depth v_now_ring v_now_steps v_now_laws_count v_now_laws_kinds v_now_laws_tunes v_refusals = some u) : Met l yX6_flip (xw yX6_flip cX6_flip 5 (some .int)) (xrm 5 128) (xPc [.ref h0] X [(h0, xO 6 [.ref h1, .ref g0, .ref g1, .ref g2, .ref h5, .int v_isKept]), (h1, xO 0 [.ref h2, .ref g3, .int v_now_inForce, .int v_now_depth, .int v_now_miss, .long v_now_ring, .int v_now_steps, .int v_now_seed]), (h2, xO 2 [.ref h3, .ref h4, .int v_now_laws_count]), (h3, xI X 6 v_now_laws_kinds), (h4, xI X 6 v_now_laws_tunes), (h5, xI X 5 v_refusals)]) (xQw True (.returned (some (.int u.1))) X [(h0, xO 6 [.ref h1, .ref g0, .ref g1, .ref g2, .ref h5, .int v_isKept]), (h1, xO 0 [.ref h2, .ref g3, .int v_now_inForce, .int v_now_depth, .int v_now_miss, .long v_now_ring, .int v_now_steps, .int v_now_seed]), (h2, xO 2 [.ref h3, .ref h4, .int v_now_laws_count]), (h3, xI X 6 v_now_laws_kinds), (h4, xI X 6 v_now_laws_tunes), (h5, xI X 5 u.2)] (xAs [(h0, xO 6 [.ref h1, .ref g0, .ref g1, .ref g2, .ref h5, .int v_isKept]), (h1, xO 0 [.ref h2, .ref g3, .int v_now_inForce, .int v_now_depth, .int v_now_miss, .long v_now_ring, .int v_now_steps, .int v_now_seed]), (h2, xO 2 [.ref h3, .ref h4, .int v_now_laws_count]), (h3, xI X 6 v_now_laws_kinds), (h4, xI X 6 v_now_laws_tunes), (h5, xI X 5 v_refusals)])) 0 0 (xAs [(h0, xO 6 [.ref h1, .ref g0, .ref g1, .ref g2, .ref h5, .int v_isKept]), (h1, xO 0 [.ref h2, .ref g3, .int v_now_inForce, .int v_now_depth, .int v_now_miss, .long v_now_ring, .int v_now_steps, .int v_now_seed]), (h2, xO 2 [.ref h3, .ref h4, .int v_now_laws_count]), (h3, xI X 6 v_now_laws_kinds), (h4, xI X 6 v_now_laws_tunes), (h5, xI X 5 v_refusals)]) := by
  refine xMetw (Qc := fun A => xQw True (.returned (some (.int u.1))) X [(h0, xO 6 [.ref h1, .ref g0, .ref g1, .ref g2, .ref h5, .int v_isKept]), (h1, xO 0 [.ref h2, .ref g3, .int v_now_inForce, .int v_now_depth, .int v_now_miss, .long v_now_ring, .int v_now_steps, .int v_now_seed]), (h2, xO 2 [.ref h3, .ref h4, .int v_now_laws_count]), (h3, xI X 6 v_now_laws_kinds), (h4, xI X 6 v_now_laws_tunes), (h5, xI X 5 u.2)] A) (n := 0) md_X6_flip.1 (Nat.le_of_ble_eq_true rfl) ?_
  intro p e s m args below meth c ls A hC hr hlk hH hl
  have hl : lv_has ls 5 [(0, .ref h0)] := hl
  have hx := hC.1
  have hb := hC.2.1
  have L23 : ∀ (n : Nat) (s23 : Int32 × Int32 × Int32), xloop (f_X6_flip_L23 v_now_inForce v_now_depth v_now_ring v_now_steps v_now_laws_count v_now_laws_kinds v_now_laws_tunes v_refusals) n s23 = some u → ∀ (H : Heap) (locs : List Loc), xH X A [(h0, xO 6 [.ref h1, .ref g0, .ref g1, .ref g2, .ref h5, .int v_isKept]), (h1, xO 0 [.ref h2, .ref g3, .int v_now_inForce, .int v_now_depth, .int v_now_miss, .long v_now_ring, .int v_now_steps, .int v_now_seed]), (h2, xO 2 [.ref h3, .ref h4, .int v_now_laws_count]), (h3, xI X 6 v_now_laws_kinds), (h4, xI X 6 v_now_laws_tunes), (h5, xI X 5 v_refusals)] s.heap H locs → ∀ (ls : Array Slot), lv_has ls 5 [(0, .ref h0), (1, .int s23.1), (2, .int s23.2.1), (3, .int s23.2.2)] → W p l e (xrm 5 128) s m args below meth c H locs 0 0 (MQ below (xQw True (.returned (some (.int u.1))) X [(h0, xO 6 [.ref h1, .ref g0, .ref g1, .ref g2, .ref h5, .int v_isKept]), (h1, xO 0 [.ref h2, .ref g3, .int v_now_inForce, .int v_now_depth, .int v_now_miss, .long v_now_ring, .int v_now_steps, .int v_now_seed]), (h2, xO 2 [.ref h3, .ref h4, .int v_now_laws_count]), (h3, xI X 6 v_now_laws_kinds), (h4, xI X 6 v_now_laws_tunes), (h5, xI X 5 u.2)] A) args s 0 0 A) (F0 m 23 ls []) := by
    intro  n
    induction n with
    | zero => intro s23 hf; exact xloop_0 hf
    | succ n ih23 =>
      intro s23 hf H locs hH ls hl
      obtain ⟨o23, hf, ho23⟩ := xloop_s hf
      refine lv_iload_n hx hb dX6_flip_23 rfl (lv_at hl 3 rfl) ?_
      refine lv_aload_n hx hb dX6_flip_24 rfl (lv_at hl 0 rfl) ?_
      refine x_get hC fd_RX6_10 hH.1 0 rfl rfl dX6_flip_25 ?_
      refine x_getN hC fd_RX6_200 hH.1 1 rfl rfl dX6_flip_28 ?_
      refine lv_icmp_ge (tgt := 82) hx hb dX6_flip_31 (by decide) (fun c2 => ?_) (fun c2 => ?_)
      · have hf := xt c2 hf
        refine lv_iload_n hx hb dX6_flip_82 rfl (lv_at hl 1 rfl) ?_
        have hf := xo_ret hf ho23
        exact x_retiw (φ := fun _ => True) (f := fun u : Int32 × (Nat → Int32) => u.1) (wf := fun u : Int32 × (Nat → Int32) => [(h0, xO 6 [.ref h1, .ref g0, .ref g1, .ref g2, .ref h5, .int v_isKept]), (h1, xO 0 [.ref h2, .ref g3, .int v_now_inForce, .int v_now_depth, .int v_now_miss, .long v_now_ring, .int v_now_steps, .int v_now_seed]), (h2, xO 2 [.ref h3, .ref h4, .int v_now_laws_count]), (h3, xI X 6 v_now_laws_kinds), (h4, xI X 6 v_now_laws_tunes), (h5, xI X 5 u.2)]) hC hr hlk trivial hf hH rfl rfl dX6_flip_83
      · have hf := xe c2 hf
        refine lv_aload_n hx hb dX6_flip_34 rfl (lv_at hl 0 rfl) ?_
        refine x_get hC fd_RX6_10 hH.1 0 rfl rfl dX6_flip_35 ?_
        refine lv_aload_n hx hb dX6_flip_38 rfl (lv_at hl 0 rfl) ?_
        refine x_get hC fd_RX6_10 hH.1 0 rfl rfl dX6_flip_39 ?_
        refine x_getN hC fd_RX6_120 hH.1 1 rfl rfl dX6_flip_42 ?_
        refine lv_lconst (v := (lN 1)) hx hb dX6_flip_45 (by decide) ?_
        refine lv_iload_n hx hb dX6_flip_46 rfl (lv_at hl 3 rfl) ?_
        refine x_lshl hx hb dX6_flip_47 ?_
        refine lv_lxor hx hb dX6_flip_48 ?_
        refine lv_aload_n hx hb dX6_flip_49 rfl (lv_at hl 0 rfl) ?_
        refine x_get hC fd_RX6_10 hH.1 0 rfl rfl dX6_flip_50 ?_
        refine x_getN hC fd_RX6_200 hH.1 1 rfl rfl dX6_flip_53 ?_
        refine lv_iconst (v := (nI 0)) hx hb dX6_flip_56 (by decide) ?_
        obtain ⟨u3, hf3, hf⟩ := xb hf
        refine x_ran (x_runV (q0 := 0) (rest := []) (As := [.long (v_now_ring ^^^ (xlshl (lN 1) s23.2.2)), .int v_now_steps, .int (nI 0)]) hC mw_719 md_X0_sounds (c_X0_sounds (X := X) hf3) hH [1, 2, 3, 4] rfl (by decide) rfl rfl rfl hl.1 rfl rfl (Nat.le_of_ble_eq_true rfl) dX6_flip_57 ⟨Nat.le_of_ble_eq_true rfl, Nat.le_of_ble_eq_true rfl⟩ ⟨rfl, rfl⟩ ⟨Nat.le_refl _, Nat.le_refl _⟩) rfl (fun hz3 => ?_)
        obtain ⟨u4, hf4, hf⟩ := xb hf
        refine x_ran (x_runS (rest := []) (As := [.long u3]) hC mw_744 md_J13_bitCount_95d88 (c_J13_bitCount_95d88 (X := X) hf4) hH [] rfl (by decide) hl.1 rfl rfl (Nat.le_of_ble_eq_true rfl) dX6_flip_60 ⟨Nat.le_of_ble_eq_true rfl, Nat.le_of_ble_eq_true rfl⟩ ⟨rfl, rfl⟩ ⟨Nat.le_refl _, Nat.le_refl _⟩) rfl (fun hz4 => ?_)
        refine lv_istore (lv' := [(4, .int u4), (0, .ref h0), (1, .int s23.1), (2, .int s23.2.1), (3, .int s23.2.2)]) hx hb dX6_flip_63 hl (by decide) rfl (fun ls hl => ?_)
        refine lv_iload hx hb dX6_flip_65 (lv_at hl 0 rfl) ?_
        refine lv_iload_n hx hb dX6_flip_67 rfl (lv_at hl 3 rfl) ?_
        refine lv_icmp_le (tgt := 76) hx hb dX6_flip_68 (by decide) (fun c5 => ?_) (fun c5 => ?_)
        · have hf := xt c5 hf
          refine lv_iinc (v := s23.2.2 + (nI 1)) (lv' := [(3, .int (s23.2.2 + (nI 1))), (4, .int u4), (0, .ref h0), (1, .int s23.1), (2, .int s23.2.1)]) hx hb dX6_flip_76 hl (k := 4) rfl rfl (by decide) rfl (fun ls hl => ?_)
          refine lv_goto (tgt := 23) hx hb dX6_flip_79 (by decide) ?_
          have hf := xo_go hf ho23
          exact ih23 (s23.1, s23.2.1, s23.2.2 + (nI 1)) hf _ _ hH ls (lv_sub hl [2, 3, 4, 0] rfl)
        · have hf := xe c5 hf
          refine lv_iload_n hx hb dX6_flip_71 rfl (lv_at hl 4 rfl) ?_
          refine lv_istore_n (lv' := [(1, .int s23.2.2), (4, .int u4), (0, .ref h0), (2, .int s23.2.1), (3, .int s23.2.2)]) hx hb dX6_flip_72 rfl hl (by decide) rfl (fun ls hl => ?_)
          refine lv_iload hx hb dX6_flip_73 (lv_at hl 1 rfl) ?_
          refine lv_istore_n (lv' := [(2, .int u4), (1, .int s23.2.2), (4, .int u4), (0, .ref h0), (3, .int s23.2.2)]) hx hb dX6_flip_75 rfl hl (by decide) rfl (fun ls hl => ?_)
          refine lv_iinc (v := s23.2.2 + (nI 1)) (lv' := [(3, .int (s23.2.2 + (nI 1))), (2, .int u4), (1, .int s23.2.2), (4, .int u4), (0, .ref h0)]) hx hb dX6_flip_76 hl (k := 4) rfl rfl (by decide) rfl (fun ls hl => ?_)
          refine lv_goto (tgt := 23) hx hb dX6_flip_79 (by decide) ?_
          have hf := xo_go hf ho23
          exact ih23 (s23.2.2, u4, s23.2.2 + (nI 1)) hf _ _ hH ls (lv_sub hl [4, 2, 1, 0] rfl)
  refine lv_aload_n hx hb dX6_flip_0 rfl (lv_at hl 0 rfl) ?_
  refine x_get hC fd_RX6_10 hH.1 0 rfl rfl dX6_flip_1 ?_
  refine x_getN hC fd_RX6_200 hH.1 1 rfl rfl dX6_flip_4 ?_
  refine lv_if_ne (tgt := 17) hx hb dX6_flip_7 (by decide) (fun c1 => ?_) (fun c1 => ?_)
  · have hf := xe c1 hf
    refine lv_iconst (v := (nI 0)) hx hb dX6_flip_17 (by decide) ?_
    refine lv_istore_n (lv' := [(1, .int (nI 0)), (0, .ref h0)]) hx hb dX6_flip_18 rfl hl (by decide) rfl (fun ls hl => ?_)
    refine lv_iconst (v := (-1 : Int32)) hx hb dX6_flip_19 (by decide) ?_
    refine lv_istore_n (lv' := [(2, .int (-1 : Int32)), (1, .int (nI 0)), (0, .ref h0)]) hx hb dX6_flip_20 rfl hl (by decide) rfl (fun ls hl => ?_)
    refine lv_iconst (v := (nI 0)) hx hb dX6_flip_21 (by decide) ?_
    refine lv_istore_n (lv' := [(3, .int (nI 0)), (2, .int (-1 : Int32)), (1, .int (nI 0)), (0, .ref h0)]) hx hb dX6_flip_22 rfl hl (by decide) rfl (fun ls hl => ?_)
    exact L23 xN ((nI 0), (-1 : Int32), (nI 0)) hf _ _ hH ls (lv_sub hl [3, 2, 1, 0] rfl)
  · have hf := xt c1 hf
    refine lv_aload_n hx hb dX6_flip_10 rfl (lv_at hl 0 rfl) ?_
    refine lv_bipush (v := (-5 : Int32)) hx hb dX6_flip_11 (by decide) ?_
    obtain ⟨u6, hf6, hf⟩ := xb hf
    refine x_ranw (ws' := [(h0, xO 6 [.ref h1, .ref g0, .ref g1, .ref g2, .ref h5, .int v_isKept]), (h1, xO 0 [.ref h2, .ref g3, .int v_now_inForce, .int v_now_depth, .int v_now_miss, .long v_now_ring, .int v_now_steps, .int v_now_seed]), (h2, xO 2 [.ref h3, .ref h4, .int v_now_laws_count]), (h3, xI X 6 v_now_laws_kinds), (h4, xI X 6 v_now_laws_tunes), (h5, xI X 5 u6.2)]) (x_runV (q0 := 0) (rest := []) (As := [.int (-5 : Int32)]) hC mw_100 md_X6_refuse (c_X6_refuse (X := X) hf6) hH [0, 5] rfl (by decide) rfl rfl rfl hl.1 rfl rfl (Nat.le_of_ble_eq_true rfl) dX6_flip_13 ⟨Nat.le_of_ble_eq_true rfl, Nat.le_of_ble_eq_true rfl⟩ ⟨rfl, rfl⟩ ⟨Nat.le_refl _, Nat.le_refl _⟩) hH [0, 5] rfl rfl rfl rfl rfl (fun hz6 H locs hH => ?_)
    exact x_retiw (φ := fun _ => True) (f := fun u : Int32 × (Nat → Int32) => u.1) (wf := fun u : Int32 × (Nat → Int32) => [(h0, xO 6 [.ref h1, .ref g0, .ref g1, .ref g2, .ref h5, .int v_isKept]), (h1, xO 0 [.ref h2, .ref g3, .int v_now_inForce, .int v_now_depth, .int v_now_miss, .long v_now_ring, .int v_now_steps, .int v_now_seed]), (h2, xO 2 [.ref h3, .ref h4, .int v_now_laws_count]), (h3, xI X 6 v_now_laws_kinds), (h4, xI X 6 v_now_laws_tunes), (h5, xI X 5 u.2)]) hC hr hlk trivial hf hH rfl rfl dX6_flip_16
def f_X6_until_L42 (v_now_steps : Int32) (v_refusals : (Nat → Int32)) (p1 : Int32) (x42_2 : Int64) (s42 : Int32) : Option ((Int32 × (Nat → Int32)) ⊕ (Int32)) :=
  if v_now_steps < s42 then
    some (.inl ((-1 : Int32), v_refusals))
  else
  (f_X6_firstBits s42).bind fun u5 =>
  (f_J13_bitCount_95d88 (x42_2 &&& u5)).bind fun u6 =>
  if u6 < p1 then
    some (.inr (s42 + (nI 1)))
  else
  some (.inl (s42, v_refusals))
def f_X6_until (v_now_inForce : Int32) (v_now_ring : Int64) (v_now_steps : Int32) (v_now_laws_count : Int32) (v_now_laws_kinds : (Nat → Int32)) (v_now_laws_tunes : (Nat → Int32)) (v_refusals : (Nat → Int32)) (p1 : Int32) : Option (Int32 × (Nat → Int32)) :=
  (f_X6_isWithin p1 (nI 0) (nI 40)).bind fun u1 =>
  if u1 = (nI 0) then
    (f_X6_refuse v_refusals (-2 : Int32)).bind fun u8 =>
    some (u8.1, u8.2)
  else
  (f_X0_struck v_now_steps v_now_laws_count v_now_laws_kinds v_now_laws_tunes v_now_inForce v_now_ring).bind fun u3 =>
  xloop (f_X6_until_L42 v_now_steps v_refusals p1 u3) xN (nI 0)
set_option maxHeartbeats 4000000 in
set_option maxRecDepth 100000 in
theorem c_X6_until {l : Launch} {X : xG} {h0 h1 h2 h3 h4 h5 g0 g1 g2 g3 : Nat} {v_isKept : Int32} {v_now_inForce : Int32} {v_now_depth : Int32} {v_now_miss : Int32} {v_now_ring : Int64} {v_now_steps : Int32} {v_now_seed : Int32} {v_now_laws_count : Int32} {v_now_laws_kinds : (Nat → Int32)} {v_now_laws_tunes : (Nat → Int32)} {v_refusals : (Nat → Int32)} {p1 : Int32} {u : Int32 × (Nat → Int32)} (hf : f_X6_until v_now_inForce v_now_ring v_now_steps v_now_laws_count v_now_laws_kinds v_now_laws_tunes v_refusals p1 = some u) : Met l yX6_until (xw yX6_until cX6_until 5 (some .int)) (xrm 5 125) (xPc [.ref h0, .int p1] X [(h0, xO 6 [.ref h1, .ref g0, .ref g1, .ref g2, .ref h5, .int v_isKept]), (h1, xO 0 [.ref h2, .ref g3, .int v_now_inForce, .int v_now_depth, .int v_now_miss, .long v_now_ring, .int v_now_steps, .int v_now_seed]), (h2, xO 2 [.ref h3, .ref h4, .int v_now_laws_count]), (h3, xI X 6 v_now_laws_kinds), (h4, xI X 6 v_now_laws_tunes), (h5, xI X 5 v_refusals)]) (xQw True (.returned (some (.int u.1))) X [(h0, xO 6 [.ref h1, .ref g0, .ref g1, .ref g2, .ref h5, .int v_isKept]), (h1, xO 0 [.ref h2, .ref g3, .int v_now_inForce, .int v_now_depth, .int v_now_miss, .long v_now_ring, .int v_now_steps, .int v_now_seed]), (h2, xO 2 [.ref h3, .ref h4, .int v_now_laws_count]), (h3, xI X 6 v_now_laws_kinds), (h4, xI X 6 v_now_laws_tunes), (h5, xI X 5 u.2)] (xAs [(h0, xO 6 [.ref h1, .ref g0, .ref g1, .ref g2, .ref h5, .int v_isKept]), (h1, xO 0 [.ref h2, .ref g3, .int v_now_inForce, .int v_now_depth, .int v_now_miss, .long v_now_ring, .int v_now_steps, .int v_now_seed]), (h2, xO 2 [.ref h3, .ref h4, .int v_now_laws_count]), (h3, xI X 6 v_now_laws_kinds), (h4, xI X 6 v_now_laws_tunes), (h5, xI X 5 v_refusals)])) 0 0 (xAs [(h0, xO 6 [.ref h1, .ref g0, .ref g1, .ref g2, .ref h5, .int v_isKept]), (h1, xO 0 [.ref h2, .ref g3, .int v_now_inForce, .int v_now_depth, .int v_now_miss, .long v_now_ring, .int v_now_steps, .int v_now_seed]), (h2, xO 2 [.ref h3, .ref h4, .int v_now_laws_count]), (h3, xI X 6 v_now_laws_kinds), (h4, xI X 6 v_now_laws_tunes), (h5, xI X 5 v_refusals)]) := by
  refine xMetw (Qc := fun A => xQw True (.returned (some (.int u.1))) X [(h0, xO 6 [.ref h1, .ref g0, .ref g1, .ref g2, .ref h5, .int v_isKept]), (h1, xO 0 [.ref h2, .ref g3, .int v_now_inForce, .int v_now_depth, .int v_now_miss, .long v_now_ring, .int v_now_steps, .int v_now_seed]), (h2, xO 2 [.ref h3, .ref h4, .int v_now_laws_count]), (h3, xI X 6 v_now_laws_kinds), (h4, xI X 6 v_now_laws_tunes), (h5, xI X 5 u.2)] A) (n := 1) md_X6_until.1 (Nat.le_of_ble_eq_true rfl) ?_
  intro p e s m args below meth c ls A hC hr hlk hH hl
  have hl : lv_has ls 5 [(0, .ref h0), (1, .int p1)] := hl
  have hx := hC.1
  have hb := hC.2.1
  have L42 : ∀ (x42_2 : Int64) (n : Nat) (s42 : Int32), xloop (f_X6_until_L42 v_now_steps v_refusals p1 x42_2) n s42 = some u → ∀ (H : Heap) (locs : List Loc), xH X A [(h0, xO 6 [.ref h1, .ref g0, .ref g1, .ref g2, .ref h5, .int v_isKept]), (h1, xO 0 [.ref h2, .ref g3, .int v_now_inForce, .int v_now_depth, .int v_now_miss, .long v_now_ring, .int v_now_steps, .int v_now_seed]), (h2, xO 2 [.ref h3, .ref h4, .int v_now_laws_count]), (h3, xI X 6 v_now_laws_kinds), (h4, xI X 6 v_now_laws_tunes), (h5, xI X 5 v_refusals)] s.heap H locs → ∀ (ls : Array Slot), lv_has ls 5 [(0, .ref h0), (1, .int p1), (2, .long x42_2), (4, .int s42)] → W p l e (xrm 5 125) s m args below meth c H locs 0 0 (MQ below (xQw True (.returned (some (.int u.1))) X [(h0, xO 6 [.ref h1, .ref g0, .ref g1, .ref g2, .ref h5, .int v_isKept]), (h1, xO 0 [.ref h2, .ref g3, .int v_now_inForce, .int v_now_depth, .int v_now_miss, .long v_now_ring, .int v_now_steps, .int v_now_seed]), (h2, xO 2 [.ref h3, .ref h4, .int v_now_laws_count]), (h3, xI X 6 v_now_laws_kinds), (h4, xI X 6 v_now_laws_tunes), (h5, xI X 5 u.2)] A) args s 0 0 A) (F0 m 42 ls []) := by
    intro x42_2 n
    induction n with
    | zero => intro s42 hf; exact xloop_0 hf
    | succ n ih42 =>
      intro s42 hf H locs hH ls hl
      obtain ⟨o42, hf, ho42⟩ := xloop_s hf
      refine lv_iload hx hb dX6_until_42 (lv_at hl 3 rfl) ?_
      refine lv_aload_n hx hb dX6_until_44 rfl (lv_at hl 0 rfl) ?_
      refine x_get hC fd_RX6_10 hH.1 0 rfl rfl dX6_until_45 ?_
      refine x_getN hC fd_RX6_200 hH.1 1 rfl rfl dX6_until_48 ?_
      refine lv_icmp_gt (tgt := 77) hx hb dX6_until_51 (by decide) (fun c4 => ?_) (fun c4 => ?_)
      · have hf := xt c4 hf
        refine lv_iconst (v := (-1 : Int32)) hx hb dX6_until_77 (by decide) ?_
        have hf := xo_ret hf ho42
        exact x_retiw (φ := fun _ => True) (f := fun u : Int32 × (Nat → Int32) => u.1) (wf := fun u : Int32 × (Nat → Int32) => [(h0, xO 6 [.ref h1, .ref g0, .ref g1, .ref g2, .ref h5, .int v_isKept]), (h1, xO 0 [.ref h2, .ref g3, .int v_now_inForce, .int v_now_depth, .int v_now_miss, .long v_now_ring, .int v_now_steps, .int v_now_seed]), (h2, xO 2 [.ref h3, .ref h4, .int v_now_laws_count]), (h3, xI X 6 v_now_laws_kinds), (h4, xI X 6 v_now_laws_tunes), (h5, xI X 5 u.2)]) hC hr hlk trivial hf hH rfl rfl dX6_until_78
      · have hf := xe c4 hf
        refine lv_lload_n hx hb dX6_until_54 rfl (lv_at hl 2 rfl) ?_
        refine lv_iload hx hb dX6_until_55 (lv_at hl 3 rfl) ?_
        obtain ⟨u5, hf5, hf⟩ := xb hf
        refine x_ran (x_runS (rest := [.long x42_2]) (As := [.int s42]) hC mw_800 md_X6_firstBits (c_X6_firstBits (X := X) hf5) hH [] rfl (by decide) hl.1 rfl rfl (Nat.le_of_ble_eq_true rfl) dX6_until_57 ⟨Nat.le_of_ble_eq_true rfl, Nat.le_of_ble_eq_true rfl⟩ ⟨rfl, rfl⟩ ⟨Nat.le_refl _, Nat.le_refl _⟩) rfl (fun hz5 => ?_)
        refine lv_land hx hb dX6_until_60 ?_
        obtain ⟨u6, hf6, hf⟩ := xb hf
        refine x_ran (x_runS (rest := []) (As := [.long (x42_2 &&& u5)]) hC mw_744 md_J13_bitCount_95d88 (c_J13_bitCount_95d88 (X := X) hf6) hH [] rfl (by decide) hl.1 rfl rfl (Nat.le_of_ble_eq_true rfl) dX6_until_61 ⟨Nat.le_of_ble_eq_true rfl, Nat.le_of_ble_eq_true rfl⟩ ⟨rfl, rfl⟩ ⟨Nat.le_refl _, Nat.le_refl _⟩) rfl (fun hz6 => ?_)
        refine lv_iload_n hx hb dX6_until_64 rfl (lv_at hl 1 rfl) ?_
        refine lv_icmp_lt (tgt := 71) hx hb dX6_until_65 (by decide) (fun c7 => ?_) (fun c7 => ?_)
        · have hf := xt c7 hf
          refine lv_iinc (v := s42 + (nI 1)) (lv' := [(4, .int (s42 + (nI 1))), (0, .ref h0), (1, .int p1), (2, .long x42_2)]) hx hb dX6_until_71 hl (k := 3) rfl rfl (by decide) rfl (fun ls hl => ?_)
          refine lv_goto (tgt := 42) hx hb dX6_until_74 (by decide) ?_
          have hf := xo_go hf ho42
          exact ih42 (s42 + (nI 1)) hf _ _ hH ls (lv_sub hl [1, 2, 3, 0] rfl)
        · have hf := xe c7 hf
          refine lv_iload hx hb dX6_until_68 (lv_at hl 3 rfl) ?_
          have hf := xo_ret hf ho42
          exact x_retiw (φ := fun _ => True) (f := fun u : Int32 × (Nat → Int32) => u.1) (wf := fun u : Int32 × (Nat → Int32) => [(h0, xO 6 [.ref h1, .ref g0, .ref g1, .ref g2, .ref h5, .int v_isKept]), (h1, xO 0 [.ref h2, .ref g3, .int v_now_inForce, .int v_now_depth, .int v_now_miss, .long v_now_ring, .int v_now_steps, .int v_now_seed]), (h2, xO 2 [.ref h3, .ref h4, .int v_now_laws_count]), (h3, xI X 6 v_now_laws_kinds), (h4, xI X 6 v_now_laws_tunes), (h5, xI X 5 u.2)]) hC hr hlk trivial hf hH rfl rfl dX6_until_70
  refine lv_iload_n hx hb dX6_until_0 rfl (lv_at hl 1 rfl) ?_
  refine lv_iconst (v := (nI 0)) hx hb dX6_until_1 (by decide) ?_
  refine lv_bipush (v := (nI 40)) hx hb dX6_until_2 (by decide) ?_
  obtain ⟨u1, hf1, hf⟩ := xb hf
  refine x_ran (x_runS (rest := []) (As := [.int p1, .int (nI 0), .int (nI 40)]) hC mw_99 md_X6_isWithin (c_X6_isWithin (X := X) hf1) hH [] rfl (by decide) hl.1 rfl rfl (Nat.le_of_ble_eq_true rfl) dX6_until_4 ⟨Nat.le_of_ble_eq_true rfl, Nat.le_of_ble_eq_true rfl⟩ ⟨rfl, rfl⟩ ⟨Nat.le_refl _, Nat.le_refl _⟩) rfl (fun hz1 => ?_)
  refine lv_if_ne (tgt := 17) hx hb dX6_until_7 (by decide) (fun c2 => ?_) (fun c2 => ?_)
  · have hf := xe c2 hf
    refine lv_aload_n hx hb dX6_until_17 rfl (lv_at hl 0 rfl) ?_
    refine x_get hC fd_RX6_10 hH.1 0 rfl rfl dX6_until_18 ?_
    refine lv_aload_n hx hb dX6_until_21 rfl (lv_at hl 0 rfl) ?_
    refine x_get hC fd_RX6_10 hH.1 0 rfl rfl dX6_until_22 ?_
    refine x_getN hC fd_RX6_135 hH.1 1 rfl rfl dX6_until_25 ?_
    refine lv_aload_n hx hb dX6_until_28 rfl (lv_at hl 0 rfl) ?_
    refine x_get hC fd_RX6_10 hH.1 0 rfl rfl dX6_until_29 ?_
    refine x_getN hC fd_RX6_120 hH.1 1 rfl rfl dX6_until_32 ?_
    obtain ⟨u3, hf3, hf⟩ := xb hf
    refine x_ran (x_runV (q0 := 0) (rest := []) (As := [.int v_now_inForce, .long v_now_ring]) hC mw_853 md_X0_struck (c_X0_struck (X := X) hf3) hH [1, 2, 3, 4] rfl (by decide) rfl rfl rfl hl.1 rfl rfl (Nat.le_of_ble_eq_true rfl) dX6_until_35 ⟨Nat.le_of_ble_eq_true rfl, Nat.le_of_ble_eq_true rfl⟩ ⟨rfl, rfl⟩ ⟨Nat.le_refl _, Nat.le_refl _⟩) rfl (fun hz3 => ?_)
    refine lv_lstore_n (lv' := [(2, .long u3), (0, .ref h0), (1, .int p1)]) hx hb dX6_until_38 rfl hl (by decide) rfl (fun ls hl => ?_)
    refine lv_iconst (v := (nI 0)) hx hb dX6_until_39 (by decide) ?_
    refine lv_istore (lv' := [(4, .int (nI 0)), (2, .long u3), (0, .ref h0), (1, .int p1)]) hx hb dX6_until_40 hl (by decide) rfl (fun ls hl => ?_)
    exact L42 u3 xN (nI 0) hf _ _ hH ls (lv_sub hl [2, 3, 1, 0] rfl)
  · have hf := xt c2 hf
    refine lv_aload_n hx hb dX6_until_10 rfl (lv_at hl 0 rfl) ?_
    refine lv_bipush (v := (-2 : Int32)) hx hb dX6_until_11 (by decide) ?_
    obtain ⟨u8, hf8, hf⟩ := xb hf
    refine x_ranw (ws' := [(h0, xO 6 [.ref h1, .ref g0, .ref g1, .ref g2, .ref h5, .int v_isKept]), (h1, xO 0 [.ref h2, .ref g3, .int v_now_inForce, .int v_now_depth, .int v_now_miss, .long v_now_ring, .int v_now_steps, .int v_now_seed]), (h2, xO 2 [.ref h3, .ref h4, .int v_now_laws_count]), (h3, xI X 6 v_now_laws_kinds), (h4, xI X 6 v_now_laws_tunes), (h5, xI X 5 u8.2)]) (x_runV (q0 := 0) (rest := []) (As := [.int (-2 : Int32)]) hC mw_100 md_X6_refuse (c_X6_refuse (X := X) hf8) hH [0, 5] rfl (by decide) rfl rfl rfl hl.1 rfl rfl (Nat.le_of_ble_eq_true rfl) dX6_until_13 ⟨Nat.le_of_ble_eq_true rfl, Nat.le_of_ble_eq_true rfl⟩ ⟨rfl, rfl⟩ ⟨Nat.le_refl _, Nat.le_refl _⟩) hH [0, 5] rfl rfl rfl rfl rfl (fun hz8 H locs hH => ?_)
    exact x_retiw (φ := fun _ => True) (f := fun u : Int32 × (Nat → Int32) => u.1) (wf := fun u : Int32 × (Nat → Int32) => [(h0, xO 6 [.ref h1, .ref g0, .ref g1, .ref g2, .ref h5, .int v_isKept]), (h1, xO 0 [.ref h2, .ref g3, .int v_now_inForce, .int v_now_depth, .int v_now_miss, .long v_now_ring, .int v_now_steps, .int v_now_seed]), (h2, xO 2 [.ref h3, .ref h4, .int v_now_laws_count]), (h3, xI X 6 v_now_laws_kinds), (h4, xI X 6 v_now_laws_tunes), (h5, xI X 5 u.2)]) hC hr hlk trivial hf hH rfl rfl dX6_until_16
def f_X6_sameAs_L43 (v_now_ring : Int64) (v_now_steps : Int32) (v_now_laws_count : Int32) (v_now_laws_kinds : (Nat → Int32)) (v_now_laws_tunes : (Nat → Int32)) (v_refusals : (Nat → Int32)) (x43_2 : Int64) (s43 : Int32 × Int32) : Option ((Int32 × (Nat → Int32)) ⊕ (Int32 × Int32)) :=
  if v_now_laws_count ≤ s43.2 then
    some (.inl (s43.1, v_refusals))
  else
  (f_X0_struck v_now_steps v_now_laws_count v_now_laws_kinds v_now_laws_tunes s43.2 v_now_ring).bind fun u5 =>
  if (xcmp u5 x43_2) = (nI 0) then
    some (.inr (s43.1 ||| (xshl (nI 1) s43.2), s43.2 + (nI 1)))
  else
  some (.inr (s43.1, s43.2 + (nI 1)))
def f_X6_sameAs (v_now_ring : Int64) (v_now_steps : Int32) (v_now_laws_count : Int32) (v_now_laws_kinds : (Nat → Int32)) (v_now_laws_tunes : (Nat → Int32)) (v_refusals : (Nat → Int32)) (p1 : Int32) : Option (Int32 × (Nat → Int32)) :=
  (f_X2_isThere v_now_laws_count p1).bind fun u1 =>
  if u1 = (nI 0) then
    (f_X6_refuse v_refusals (-2 : Int32)).bind fun u7 =>
    some (u7.1, u7.2)
  else
  (f_X0_struck v_now_steps v_now_laws_count v_now_laws_kinds v_now_laws_tunes p1 v_now_ring).bind fun u3 =>
  xloop (f_X6_sameAs_L43 v_now_ring v_now_steps v_now_laws_count v_now_laws_kinds v_now_laws_tunes v_refusals u3) xN ((nI 0), (nI 0))
set_option maxHeartbeats 4000000 in
set_option maxRecDepth 100000 in
theorem c_X6_sameAs {l : Launch} {X : xG} {h0 h1 h2 h3 h4 h5 g0 g1 g2 g3 : Nat} {v_isKept : Int32} {v_now_inForce : Int32} {v_now_depth : Int32} {v_now_miss : Int32} {v_now_ring : Int64} {v_now_steps : Int32} {v_now_seed : Int32} {v_now_laws_count : Int32} {v_now_laws_kinds : (Nat → Int32)} {v_now_laws_tunes : (Nat → Int32)} {v_refusals : (Nat → Int32)} {p1 : Int32} {u : Int32 × (Nat → Int32)} (hf : f_X6_sameAs v_now_ring v_now_steps v_now_laws_count v_now_laws_kinds v_now_laws_tunes v_refusals p1 = some u) : Met l yX6_sameAs (xw yX6_sameAs cX6_sameAs 6 (some .int)) (xrm 5 125) (xPc [.ref h0, .int p1] X [(h0, xO 6 [.ref h1, .ref g0, .ref g1, .ref g2, .ref h5, .int v_isKept]), (h1, xO 0 [.ref h2, .ref g3, .int v_now_inForce, .int v_now_depth, .int v_now_miss, .long v_now_ring, .int v_now_steps, .int v_now_seed]), (h2, xO 2 [.ref h3, .ref h4, .int v_now_laws_count]), (h3, xI X 6 v_now_laws_kinds), (h4, xI X 6 v_now_laws_tunes), (h5, xI X 5 v_refusals)]) (xQw True (.returned (some (.int u.1))) X [(h0, xO 6 [.ref h1, .ref g0, .ref g1, .ref g2, .ref h5, .int v_isKept]), (h1, xO 0 [.ref h2, .ref g3, .int v_now_inForce, .int v_now_depth, .int v_now_miss, .long v_now_ring, .int v_now_steps, .int v_now_seed]), (h2, xO 2 [.ref h3, .ref h4, .int v_now_laws_count]), (h3, xI X 6 v_now_laws_kinds), (h4, xI X 6 v_now_laws_tunes), (h5, xI X 5 u.2)] (xAs [(h0, xO 6 [.ref h1, .ref g0, .ref g1, .ref g2, .ref h5, .int v_isKept]), (h1, xO 0 [.ref h2, .ref g3, .int v_now_inForce, .int v_now_depth, .int v_now_miss, .long v_now_ring, .int v_now_steps, .int v_now_seed]), (h2, xO 2 [.ref h3, .ref h4, .int v_now_laws_count]), (h3, xI X 6 v_now_laws_kinds), (h4, xI X 6 v_now_laws_tunes), (h5, xI X 5 v_refusals)])) 0 0 (xAs [(h0, xO 6 [.ref h1, .ref g0, .ref g1, .ref g2, .ref h5, .int v_isKept]), (h1, xO 0 [.ref h2, .ref g3, .int v_now_inForce, .int v_now_depth, .int v_now_miss, .long v_now_ring, .int v_now_steps, .int v_now_seed]), (h2, xO 2 [.ref h3, .ref h4, .int v_now_laws_count]), (h3, xI X 6 v_now_laws_kinds), (h4, xI X 6 v_now_laws_tunes), (h5, xI X 5 v_refusals)]) := by
  refine xMetw (Qc := fun A => xQw True (.returned (some (.int u.1))) X [(h0, xO 6 [.ref h1, .ref g0, .ref g1, .ref g2, .ref h5, .int v_isKept]), (h1, xO 0 [.ref h2, .ref g3, .int v_now_inForce, .int v_now_depth, .int v_now_miss, .long v_now_ring, .int v_now_steps, .int v_now_seed]), (h2, xO 2 [.ref h3, .ref h4, .int v_now_laws_count]), (h3, xI X 6 v_now_laws_kinds), (h4, xI X 6 v_now_laws_tunes), (h5, xI X 5 u.2)] A) (n := 1) md_X6_sameAs.1 (Nat.le_of_ble_eq_true rfl) ?_
  intro p e s m args below meth c ls A hC hr hlk hH hl
  have hl : lv_has ls 6 [(0, .ref h0), (1, .int p1)] := hl
  have hx := hC.1
  have hb := hC.2.1
  have L43 : ∀ (x43_2 : Int64) (n : Nat) (s43 : Int32 × Int32), xloop (f_X6_sameAs_L43 v_now_ring v_now_steps v_now_laws_count v_now_laws_kinds v_now_laws_tunes v_refusals x43_2) n s43 = some u → ∀ (H : Heap) (locs : List Loc), xH X A [(h0, xO 6 [.ref h1, .ref g0, .ref g1, .ref g2, .ref h5, .int v_isKept]), (h1, xO 0 [.ref h2, .ref g3, .int v_now_inForce, .int v_now_depth, .int v_now_miss, .long v_now_ring, .int v_now_steps, .int v_now_seed]), (h2, xO 2 [.ref h3, .ref h4, .int v_now_laws_count]), (h3, xI X 6 v_now_laws_kinds), (h4, xI X 6 v_now_laws_tunes), (h5, xI X 5 v_refusals)] s.heap H locs → ∀ (ls : Array Slot), lv_has ls 6 [(0, .ref h0), (2, .long x43_2), (4, .int s43.1), (5, .int s43.2)] → W p l e (xrm 5 125) s m args below meth c H locs 0 0 (MQ below (xQw True (.returned (some (.int u.1))) X [(h0, xO 6 [.ref h1, .ref g0, .ref g1, .ref g2, .ref h5, .int v_isKept]), (h1, xO 0 [.ref h2, .ref g3, .int v_now_inForce, .int v_now_depth, .int v_now_miss, .long v_now_ring, .int v_now_steps, .int v_now_seed]), (h2, xO 2 [.ref h3, .ref h4, .int v_now_laws_count]), (h3, xI X 6 v_now_laws_kinds), (h4, xI X 6 v_now_laws_tunes), (h5, xI X 5 u.2)] A) args s 0 0 A) (F0 m 43 ls []) := by
    intro x43_2 n
    induction n with
    | zero => intro s43 hf; exact xloop_0 hf
    | succ n ih43 =>
      intro s43 hf H locs hH ls hl
      obtain ⟨o43, hf, ho43⟩ := xloop_s hf
      refine lv_iload hx hb dX6_sameAs_43 (lv_at hl 3 rfl) ?_
      refine lv_aload_n hx hb dX6_sameAs_45 rfl (lv_at hl 0 rfl) ?_
      refine x_get hC fd_RX6_10 hH.1 0 rfl rfl dX6_sameAs_46 ?_
      refine x_getN hC fd_RX6_81 hH.1 1 rfl rfl dX6_sameAs_49 ?_
      refine x_getN hC fd_RX6_194 hH.1 2 rfl rfl dX6_sameAs_52 ?_
      refine lv_icmp_ge (tgt := 94) hx hb dX6_sameAs_55 (by decide) (fun c4 => ?_) (fun c4 => ?_)
      · have hf := xt c4 hf
        refine lv_iload hx hb dX6_sameAs_94 (lv_at hl 2 rfl) ?_
        have hf := xo_ret hf ho43
        exact x_retiw (φ := fun _ => True) (f := fun u : Int32 × (Nat → Int32) => u.1) (wf := fun u : Int32 × (Nat → Int32) => [(h0, xO 6 [.ref h1, .ref g0, .ref g1, .ref g2, .ref h5, .int v_isKept]), (h1, xO 0 [.ref h2, .ref g3, .int v_now_inForce, .int v_now_depth, .int v_now_miss, .long v_now_ring, .int v_now_steps, .int v_now_seed]), (h2, xO 2 [.ref h3, .ref h4, .int v_now_laws_count]), (h3, xI X 6 v_now_laws_kinds), (h4, xI X 6 v_now_laws_tunes), (h5, xI X 5 u.2)]) hC hr hlk trivial hf hH rfl rfl dX6_sameAs_96
      · have hf := xe c4 hf
        refine lv_aload_n hx hb dX6_sameAs_58 rfl (lv_at hl 0 rfl) ?_
        refine x_get hC fd_RX6_10 hH.1 0 rfl rfl dX6_sameAs_59 ?_
        refine lv_iload hx hb dX6_sameAs_62 (lv_at hl 3 rfl) ?_
        refine lv_aload_n hx hb dX6_sameAs_64 rfl (lv_at hl 0 rfl) ?_
        refine x_get hC fd_RX6_10 hH.1 0 rfl rfl dX6_sameAs_65 ?_
        refine x_getN hC fd_RX6_120 hH.1 1 rfl rfl dX6_sameAs_68 ?_
        obtain ⟨u5, hf5, hf⟩ := xb hf
        refine x_ran (x_runV (q0 := 0) (rest := []) (As := [.int s43.2, .long v_now_ring]) hC mw_853 md_X0_struck (c_X0_struck (X := X) hf5) hH [1, 2, 3, 4] rfl (by decide) rfl rfl rfl hl.1 rfl rfl (Nat.le_of_ble_eq_true rfl) dX6_sameAs_71 ⟨Nat.le_of_ble_eq_true rfl, Nat.le_of_ble_eq_true rfl⟩ ⟨rfl, rfl⟩ ⟨Nat.le_refl _, Nat.le_refl _⟩) rfl (fun hz5 => ?_)
        refine lv_lload_n hx hb dX6_sameAs_74 rfl (lv_at hl 1 rfl) ?_
        refine x_lcmp hx hb dX6_sameAs_75 ?_
        refine lv_if_ne (tgt := 88) hx hb dX6_sameAs_76 (by decide) (fun c6 => ?_) (fun c6 => ?_)
        · have hf := xe c6 hf
          refine lv_iinc (v := s43.2 + (nI 1)) (lv' := [(5, .int (s43.2 + (nI 1))), (0, .ref h0), (2, .long x43_2), (4, .int s43.1)]) hx hb dX6_sameAs_88 hl (k := 3) rfl rfl (by decide) rfl (fun ls hl => ?_)
          refine lv_goto (tgt := 43) hx hb dX6_sameAs_91 (by decide) ?_
          have hf := xo_go hf ho43
          exact ih43 (s43.1, s43.2 + (nI 1)) hf _ _ hH ls (lv_sub hl [1, 2, 3, 0] rfl)
        · have hf := xt c6 hf
          refine lv_iload hx hb dX6_sameAs_79 (lv_at hl 2 rfl) ?_
          refine lv_iconst (v := (nI 1)) hx hb dX6_sameAs_81 (by decide) ?_
          refine lv_iload hx hb dX6_sameAs_82 (lv_at hl 3 rfl) ?_
          refine x_ishl hx hb dX6_sameAs_84 ?_
          refine lv_ior hx hb dX6_sameAs_85 ?_
          refine lv_istore (lv' := [(4, .int (s43.1 ||| (xshl (nI 1) s43.2))), (0, .ref h0), (2, .long x43_2), (5, .int s43.2)]) hx hb dX6_sameAs_86 hl (by decide) rfl (fun ls hl => ?_)
          refine lv_iinc (v := s43.2 + (nI 1)) (lv' := [(5, .int (s43.2 + (nI 1))), (4, .int (s43.1 ||| (xshl (nI 1) s43.2))), (0, .ref h0), (2, .long x43_2)]) hx hb dX6_sameAs_88 hl (k := 3) rfl rfl (by decide) rfl (fun ls hl => ?_)
          refine lv_goto (tgt := 43) hx hb dX6_sameAs_91 (by decide) ?_
          have hf := xo_go hf ho43
          exact ih43 (s43.1 ||| (xshl (nI 1) s43.2), s43.2 + (nI 1)) hf _ _ hH ls (lv_sub hl [2, 3, 1, 0] rfl)
  refine lv_aload_n hx hb dX6_sameAs_0 rfl (lv_at hl 0 rfl) ?_
  refine x_get hC fd_RX6_10 hH.1 0 rfl rfl dX6_sameAs_1 ?_
  refine x_getN hC fd_RX6_81 hH.1 1 rfl rfl dX6_sameAs_4 ?_
  refine lv_iload_n hx hb dX6_sameAs_7 rfl (lv_at hl 1 rfl) ?_
  obtain ⟨u1, hf1, hf⟩ := xb hf
  refine x_ran (x_runV (q0 := 0) (rest := []) (As := [.int p1]) hC mw_226 md_X2_isThere (c_X2_isThere (X := X) hf1) hH [2] rfl (by decide) rfl rfl rfl hl.1 rfl rfl (Nat.le_of_ble_eq_true rfl) dX6_sameAs_8 ⟨Nat.le_of_ble_eq_true rfl, Nat.le_of_ble_eq_true rfl⟩ ⟨rfl, rfl⟩ ⟨Nat.le_refl _, Nat.le_refl _⟩) rfl (fun hz1 => ?_)
  refine lv_if_ne (tgt := 21) hx hb dX6_sameAs_11 (by decide) (fun c2 => ?_) (fun c2 => ?_)
  · have hf := xe c2 hf
    refine lv_aload_n hx hb dX6_sameAs_21 rfl (lv_at hl 0 rfl) ?_
    refine x_get hC fd_RX6_10 hH.1 0 rfl rfl dX6_sameAs_22 ?_
    refine lv_iload_n hx hb dX6_sameAs_25 rfl (lv_at hl 1 rfl) ?_
    refine lv_aload_n hx hb dX6_sameAs_26 rfl (lv_at hl 0 rfl) ?_
    refine x_get hC fd_RX6_10 hH.1 0 rfl rfl dX6_sameAs_27 ?_
    refine x_getN hC fd_RX6_120 hH.1 1 rfl rfl dX6_sameAs_30 ?_
    obtain ⟨u3, hf3, hf⟩ := xb hf
    refine x_ran (x_runV (q0 := 0) (rest := []) (As := [.int p1, .long v_now_ring]) hC mw_853 md_X0_struck (c_X0_struck (X := X) hf3) hH [1, 2, 3, 4] rfl (by decide) rfl rfl rfl hl.1 rfl rfl (Nat.le_of_ble_eq_true rfl) dX6_sameAs_33 ⟨Nat.le_of_ble_eq_true rfl, Nat.le_of_ble_eq_true rfl⟩ ⟨rfl, rfl⟩ ⟨Nat.le_refl _, Nat.le_refl _⟩) rfl (fun hz3 => ?_)
    refine lv_lstore_n (lv' := [(2, .long u3), (0, .ref h0), (1, .int p1)]) hx hb dX6_sameAs_36 rfl hl (by decide) rfl (fun ls hl => ?_)
    refine lv_iconst (v := (nI 0)) hx hb dX6_sameAs_37 (by decide) ?_
    refine lv_istore (lv' := [(4, .int (nI 0)), (2, .long u3), (0, .ref h0), (1, .int p1)]) hx hb dX6_sameAs_38 hl (by decide) rfl (fun ls hl => ?_)
    refine lv_iconst (v := (nI 0)) hx hb dX6_sameAs_40 (by decide) ?_
    refine lv_istore (lv' := [(5, .int (nI 0)), (4, .int (nI 0)), (2, .long u3), (0, .ref h0), (1, .int p1)]) hx hb dX6_sameAs_41 hl (by decide) rfl (fun ls hl => ?_)
    exact L43 u3 xN ((nI 0), (nI 0)) hf _ _ hH ls (lv_sub hl [3, 2, 1, 0] rfl)
  · have hf := xt c2 hf
    refine lv_aload_n hx hb dX6_sameAs_14 rfl (lv_at hl 0 rfl) ?_
    refine lv_bipush (v := (-2 : Int32)) hx hb dX6_sameAs_15 (by decide) ?_
    obtain ⟨u7, hf7, hf⟩ := xb hf
    refine x_ranw (ws' := [(h0, xO 6 [.ref h1, .ref g0, .ref g1, .ref g2, .ref h5, .int v_isKept]), (h1, xO 0 [.ref h2, .ref g3, .int v_now_inForce, .int v_now_depth, .int v_now_miss, .long v_now_ring, .int v_now_steps, .int v_now_seed]), (h2, xO 2 [.ref h3, .ref h4, .int v_now_laws_count]), (h3, xI X 6 v_now_laws_kinds), (h4, xI X 6 v_now_laws_tunes), (h5, xI X 5 u7.2)]) (x_runV (q0 := 0) (rest := []) (As := [.int (-2 : Int32)]) hC mw_100 md_X6_refuse (c_X6_refuse (X := X) hf7) hH [0, 5] rfl (by decide) rfl rfl rfl hl.1 rfl rfl (Nat.le_of_ble_eq_true rfl) dX6_sameAs_17 ⟨Nat.le_of_ble_eq_true rfl, Nat.le_of_ble_eq_true rfl⟩ ⟨rfl, rfl⟩ ⟨Nat.le_refl _, Nat.le_refl _⟩) hH [0, 5] rfl rfl rfl rfl rfl (fun hz7 H locs hH => ?_)
    exact x_retiw (φ := fun _ => True) (f := fun u : Int32 × (Nat → Int32) => u.1) (wf := fun u : Int32 × (Nat → Int32) => [(h0, xO 6 [.ref h1, .ref g0, .ref g1, .ref g2, .ref h5, .int v_isKept]), (h1, xO 0 [.ref h2, .ref g3, .int v_now_inForce, .int v_now_depth, .int v_now_miss, .long v_now_ring, .int v_now_steps, .int v_now_seed]), (h2, xO 2 [.ref h3, .ref h4, .int v_now_laws_count]), (h3, xI X 6 v_now_laws_kinds), (h4, xI X 6 v_now_laws_tunes), (h5, xI X 5 u.2)]) hC hr hlk trivial hf hH rfl rfl dX6_sameAs_20
def f_X6_areTwoLaws (v_now_laws_count : Int32) (p1 : Int32) (p2 : Int32) : Option (Int32) :=
  (f_X2_isThere v_now_laws_count p1).bind fun u1 =>
  if u1 = (nI 0) then
    some (nI 0)
  else
  (f_X2_isThere v_now_laws_count p2).bind fun u3 =>
  if u3 = (nI 0) then
    some (nI 0)
  else
  if p1 = p2 then
    some (nI 0)
  else
  some (nI 1)
set_option maxHeartbeats 4000000 in
set_option maxRecDepth 100000 in
theorem c_X6_areTwoLaws {l : Launch} {X : xG} {h0 h1 h2 g0 g1 g2 g3 g4 g5 g6 : Nat} {v_isKept : Int32} {v_now_inForce : Int32} {v_now_depth : Int32} {v_now_miss : Int32} {v_now_ring : Int64} {v_now_steps : Int32} {v_now_seed : Int32} {v_now_laws_count : Int32} {p1 : Int32} {p2 : Int32} {u : Int32} (hf : f_X6_areTwoLaws v_now_laws_count p1 p2 = some u) : Met l yX6_areTwoLaws (xw yX6_areTwoLaws cX6_areTwoLaws 3 (some .boolean)) (xrm 2 43) (xPc [.ref h0, .int p1, .int p2] X [(h0, xO 6 [.ref h1, .ref g0, .ref g1, .ref g2, .ref g3, .int v_isKept]), (h1, xO 0 [.ref h2, .ref g4, .int v_now_inForce, .int v_now_depth, .int v_now_miss, .long v_now_ring, .int v_now_steps, .int v_now_seed]), (h2, xO 2 [.ref g5, .ref g6, .int v_now_laws_count])]) (xQ (u = 0 ∨ u = 1) (.returned (some (.int u)))) 0 0 xNo := by
  refine xMet (n := 2) md_X6_areTwoLaws.1 (Nat.le_of_ble_eq_true rfl) ?_
  intro p e s m args below meth c ls A hC hr hlk hH hl
  have hl : lv_has ls 3 [(0, .ref h0), (1, .int p1), (2, .int p2)] := hl
  have hx := hC.1
  have hb := hC.2.1
  refine lv_aload_n hx hb dX6_areTwoLaws_0 rfl (lv_at hl 0 rfl) ?_
  refine x_get hC fd_RX6_10 hH.1 0 rfl rfl dX6_areTwoLaws_1 ?_
  refine x_getN hC fd_RX6_81 hH.1 1 rfl rfl dX6_areTwoLaws_4 ?_
  refine lv_iload_n hx hb dX6_areTwoLaws_7 rfl (lv_at hl 1 rfl) ?_
  obtain ⟨u1, hf1, hf⟩ := xb hf
  refine x_ran (x_runV (q0 := 0) (rest := []) (As := [.int p1]) hC mw_226 md_X2_isThere (c_X2_isThere (X := X) hf1) hH [2] rfl (by decide) rfl rfl rfl hl.1 rfl rfl (Nat.le_of_ble_eq_true rfl) dX6_areTwoLaws_8 ⟨Nat.le_of_ble_eq_true rfl, Nat.le_of_ble_eq_true rfl⟩ ⟨rfl, rfl⟩ ⟨Nat.le_refl _, Nat.le_refl _⟩) rfl (fun hz1 => ?_)
  refine lv_if_eq (tgt := 37) hx hb dX6_areTwoLaws_11 (by decide) (fun c2 => ?_) (fun c2 => ?_)
  · have hf := xt c2 hf
    refine lv_iconst (v := (nI 0)) hx hb dX6_areTwoLaws_37 (by decide) ?_
    exact x_retz hC hr hlk (Or.inl rfl) hf dX6_areTwoLaws_38
  · have hf := xe c2 hf
    refine lv_aload_n hx hb dX6_areTwoLaws_14 rfl (lv_at hl 0 rfl) ?_
    refine x_get hC fd_RX6_10 hH.1 0 rfl rfl dX6_areTwoLaws_15 ?_
    refine x_getN hC fd_RX6_81 hH.1 1 rfl rfl dX6_areTwoLaws_18 ?_
    refine lv_iload_n hx hb dX6_areTwoLaws_21 rfl (lv_at hl 2 rfl) ?_
    obtain ⟨u3, hf3, hf⟩ := xb hf
    refine x_ran (x_runV (q0 := 0) (rest := []) (As := [.int p2]) hC mw_226 md_X2_isThere (c_X2_isThere (X := X) hf3) hH [2] rfl (by decide) rfl rfl rfl hl.1 rfl rfl (Nat.le_of_ble_eq_true rfl) dX6_areTwoLaws_22 ⟨Nat.le_of_ble_eq_true rfl, Nat.le_of_ble_eq_true rfl⟩ ⟨rfl, rfl⟩ ⟨Nat.le_refl _, Nat.le_refl _⟩) rfl (fun hz3 => ?_)
    refine lv_if_eq (tgt := 37) hx hb dX6_areTwoLaws_25 (by decide) (fun c4 => ?_) (fun c4 => ?_)
    · have hf := xt c4 hf
      refine lv_iconst (v := (nI 0)) hx hb dX6_areTwoLaws_37 (by decide) ?_
      exact x_retz hC hr hlk (Or.inl rfl) hf dX6_areTwoLaws_38
    · have hf := xe c4 hf
      refine lv_iload_n hx hb dX6_areTwoLaws_28 rfl (lv_at hl 1 rfl) ?_
      refine lv_iload_n hx hb dX6_areTwoLaws_29 rfl (lv_at hl 2 rfl) ?_
      refine lv_icmp_eq (tgt := 37) hx hb dX6_areTwoLaws_30 (by decide) (fun c5 => ?_) (fun c5 => ?_)
      · have hf := xt c5 hf
        refine lv_iconst (v := (nI 0)) hx hb dX6_areTwoLaws_37 (by decide) ?_
        exact x_retz hC hr hlk (Or.inl rfl) hf dX6_areTwoLaws_38
      · have hf := xe c5 hf
        refine lv_iconst (v := (nI 1)) hx hb dX6_areTwoLaws_33 (by decide) ?_
        refine lv_goto (tgt := 38) hx hb dX6_areTwoLaws_34 (by decide) ?_
        exact x_retz hC hr hlk (Or.inr rfl) hf dX6_areTwoLaws_38
def f_X6_apart (v_now_ring : Int64) (v_now_steps : Int32) (v_now_laws_count : Int32) (v_now_laws_kinds : (Nat → Int32)) (v_now_laws_tunes : (Nat → Int32)) (v_refusals : (Nat → Int32)) (p1 : Int32) (p2 : Int32) : Option (Int32 × (Nat → Int32)) :=
  (f_X6_areTwoLaws v_now_laws_count p1 p2).bind fun u1 =>
  if u1 = (nI 0) then
    (f_X6_refuse v_refusals (-2 : Int32)).bind fun u6 =>
    some (u6.1, u6.2)
  else
  (f_X0_struck v_now_steps v_now_laws_count v_now_laws_kinds v_now_laws_tunes p1 v_now_ring).bind fun u3 =>
  (f_X0_struck v_now_steps v_now_laws_count v_now_laws_kinds v_now_laws_tunes p2 v_now_ring).bind fun u4 =>
  (f_X6_firstIn (u3 ^^^ u4) (nI 0) v_now_steps).bind fun u5 =>
  some (u5, v_refusals)
set_option maxHeartbeats 4000000 in
set_option maxRecDepth 100000 in
theorem c_X6_apart {l : Launch} {X : xG} {h0 h1 h2 h3 h4 h5 g0 g1 g2 g3 : Nat} {v_isKept : Int32} {v_now_inForce : Int32} {v_now_depth : Int32} {v_now_miss : Int32} {v_now_ring : Int64} {v_now_steps : Int32} {v_now_seed : Int32} {v_now_laws_count : Int32} {v_now_laws_kinds : (Nat → Int32)} {v_now_laws_tunes : (Nat → Int32)} {v_refusals : (Nat → Int32)} {p1 : Int32} {p2 : Int32} {u : Int32 × (Nat → Int32)} (hf : f_X6_apart v_now_ring v_now_steps v_now_laws_count v_now_laws_kinds v_now_laws_tunes v_refusals p1 p2 = some u) : Met l yX6_apart (xw yX6_apart cX6_apart 3 (some .int)) (xrm 5 125) (xPc [.ref h0, .int p1, .int p2] X [(h0, xO 6 [.ref h1, .ref g0, .ref g1, .ref g2, .ref h5, .int v_isKept]), (h1, xO 0 [.ref h2, .ref g3, .int v_now_inForce, .int v_now_depth, .int v_now_miss, .long v_now_ring, .int v_now_steps, .int v_now_seed]), (h2, xO 2 [.ref h3, .ref h4, .int v_now_laws_count]), (h3, xI X 6 v_now_laws_kinds), (h4, xI X 6 v_now_laws_tunes), (h5, xI X 5 v_refusals)]) (xQw True (.returned (some (.int u.1))) X [(h0, xO 6 [.ref h1, .ref g0, .ref g1, .ref g2, .ref h5, .int v_isKept]), (h1, xO 0 [.ref h2, .ref g3, .int v_now_inForce, .int v_now_depth, .int v_now_miss, .long v_now_ring, .int v_now_steps, .int v_now_seed]), (h2, xO 2 [.ref h3, .ref h4, .int v_now_laws_count]), (h3, xI X 6 v_now_laws_kinds), (h4, xI X 6 v_now_laws_tunes), (h5, xI X 5 u.2)] (xAs [(h0, xO 6 [.ref h1, .ref g0, .ref g1, .ref g2, .ref h5, .int v_isKept]), (h1, xO 0 [.ref h2, .ref g3, .int v_now_inForce, .int v_now_depth, .int v_now_miss, .long v_now_ring, .int v_now_steps, .int v_now_seed]), (h2, xO 2 [.ref h3, .ref h4, .int v_now_laws_count]), (h3, xI X 6 v_now_laws_kinds), (h4, xI X 6 v_now_laws_tunes), (h5, xI X 5 v_refusals)])) 0 0 (xAs [(h0, xO 6 [.ref h1, .ref g0, .ref g1, .ref g2, .ref h5, .int v_isKept]), (h1, xO 0 [.ref h2, .ref g3, .int v_now_inForce, .int v_now_depth, .int v_now_miss, .long v_now_ring, .int v_now_steps, .int v_now_seed]), (h2, xO 2 [.ref h3, .ref h4, .int v_now_laws_count]), (h3, xI X 6 v_now_laws_kinds), (h4, xI X 6 v_now_laws_tunes), (h5, xI X 5 v_refusals)]) := by
  refine xMetw (Qc := fun A => xQw True (.returned (some (.int u.1))) X [(h0, xO 6 [.ref h1, .ref g0, .ref g1, .ref g2, .ref h5, .int v_isKept]), (h1, xO 0 [.ref h2, .ref g3, .int v_now_inForce, .int v_now_depth, .int v_now_miss, .long v_now_ring, .int v_now_steps, .int v_now_seed]), (h2, xO 2 [.ref h3, .ref h4, .int v_now_laws_count]), (h3, xI X 6 v_now_laws_kinds), (h4, xI X 6 v_now_laws_tunes), (h5, xI X 5 u.2)] A) (n := 2) md_X6_apart.1 (Nat.le_of_ble_eq_true rfl) ?_
  intro p e s m args below meth c ls A hC hr hlk hH hl
  have hl : lv_has ls 3 [(0, .ref h0), (1, .int p1), (2, .int p2)] := hl
  have hx := hC.1
  have hb := hC.2.1
  refine lv_aload_n hx hb dX6_apart_0 rfl (lv_at hl 0 rfl) ?_
  refine lv_iload_n hx hb dX6_apart_1 rfl (lv_at hl 1 rfl) ?_
  refine lv_iload_n hx hb dX6_apart_2 rfl (lv_at hl 2 rfl) ?_
  obtain ⟨u1, hf1, hf⟩ := xb hf
  refine x_ran (x_runV (q0 := 0) (rest := []) (As := [.int p1, .int p2]) hC mw_874 md_X6_areTwoLaws (c_X6_areTwoLaws (X := X) hf1) hH [0, 1, 2] rfl (by decide) rfl rfl rfl hl.1 rfl rfl (Nat.le_of_ble_eq_true rfl) dX6_apart_3 ⟨Nat.le_of_ble_eq_true rfl, Nat.le_of_ble_eq_true rfl⟩ ⟨rfl, rfl⟩ ⟨Nat.le_refl _, Nat.le_refl _⟩) rfl (fun hz1 => ?_)
  refine lv_if_ne (tgt := 16) hx hb dX6_apart_6 (by decide) (fun c2 => ?_) (fun c2 => ?_)
  · have hf := xe c2 hf
    refine lv_aload_n hx hb dX6_apart_16 rfl (lv_at hl 0 rfl) ?_
    refine x_get hC fd_RX6_10 hH.1 0 rfl rfl dX6_apart_17 ?_
    refine lv_iload_n hx hb dX6_apart_20 rfl (lv_at hl 1 rfl) ?_
    refine lv_aload_n hx hb dX6_apart_21 rfl (lv_at hl 0 rfl) ?_
    refine x_get hC fd_RX6_10 hH.1 0 rfl rfl dX6_apart_22 ?_
    refine x_getN hC fd_RX6_120 hH.1 1 rfl rfl dX6_apart_25 ?_
    obtain ⟨u3, hf3, hf⟩ := xb hf
    refine x_ran (x_runV (q0 := 0) (rest := []) (As := [.int p1, .long v_now_ring]) hC mw_853 md_X0_struck (c_X0_struck (X := X) hf3) hH [1, 2, 3, 4] rfl (by decide) rfl rfl rfl hl.1 rfl rfl (Nat.le_of_ble_eq_true rfl) dX6_apart_28 ⟨Nat.le_of_ble_eq_true rfl, Nat.le_of_ble_eq_true rfl⟩ ⟨rfl, rfl⟩ ⟨Nat.le_refl _, Nat.le_refl _⟩) rfl (fun hz3 => ?_)
    refine lv_aload_n hx hb dX6_apart_31 rfl (lv_at hl 0 rfl) ?_
    refine x_get hC fd_RX6_10 hH.1 0 rfl rfl dX6_apart_32 ?_
    refine lv_iload_n hx hb dX6_apart_35 rfl (lv_at hl 2 rfl) ?_
    refine lv_aload_n hx hb dX6_apart_36 rfl (lv_at hl 0 rfl) ?_
    refine x_get hC fd_RX6_10 hH.1 0 rfl rfl dX6_apart_37 ?_
    refine x_getN hC fd_RX6_120 hH.1 1 rfl rfl dX6_apart_40 ?_
    obtain ⟨u4, hf4, hf⟩ := xb hf
    refine x_ran (x_runV (q0 := 0) (rest := [.long u3]) (As := [.int p2, .long v_now_ring]) hC mw_853 md_X0_struck (c_X0_struck (X := X) hf4) hH [1, 2, 3, 4] rfl (by decide) rfl rfl rfl hl.1 rfl rfl (Nat.le_of_ble_eq_true rfl) dX6_apart_43 ⟨Nat.le_of_ble_eq_true rfl, Nat.le_of_ble_eq_true rfl⟩ ⟨rfl, rfl⟩ ⟨Nat.le_refl _, Nat.le_refl _⟩) rfl (fun hz4 => ?_)
    refine lv_lxor hx hb dX6_apart_46 ?_
    refine lv_iconst (v := (nI 0)) hx hb dX6_apart_47 (by decide) ?_
    refine lv_aload_n hx hb dX6_apart_48 rfl (lv_at hl 0 rfl) ?_
    refine x_get hC fd_RX6_10 hH.1 0 rfl rfl dX6_apart_49 ?_
    refine x_getN hC fd_RX6_200 hH.1 1 rfl rfl dX6_apart_52 ?_
    obtain ⟨u5, hf5, hf⟩ := xb hf
    refine x_ran (x_runS (rest := []) (As := [.long (u3 ^^^ u4), .int (nI 0), .int v_now_steps]) hC mw_757 md_X6_firstIn (c_X6_firstIn (X := X) hf5) hH [] rfl (by decide) hl.1 rfl rfl (Nat.le_of_ble_eq_true rfl) dX6_apart_55 ⟨Nat.le_of_ble_eq_true rfl, Nat.le_of_ble_eq_true rfl⟩ ⟨rfl, rfl⟩ ⟨Nat.le_refl _, Nat.le_refl _⟩) rfl (fun hz5 => ?_)
    exact x_retiw (φ := fun _ => True) (f := fun u : Int32 × (Nat → Int32) => u.1) (wf := fun u : Int32 × (Nat → Int32) => [(h0, xO 6 [.ref h1, .ref g0, .ref g1, .ref g2, .ref h5, .int v_isKept]), (h1, xO 0 [.ref h2, .ref g3, .int v_now_inForce, .int v_now_depth, .int v_now_miss, .long v_now_ring, .int v_now_steps, .int v_now_seed]), (h2, xO 2 [.ref h3, .ref h4, .int v_now_laws_count]), (h3, xI X 6 v_now_laws_kinds), (h4, xI X 6 v_now_laws_tunes), (h5, xI X 5 u.2)]) hC hr hlk trivial hf hH rfl rfl dX6_apart_58
  · have hf := xt c2 hf
    refine lv_aload_n hx hb dX6_apart_9 rfl (lv_at hl 0 rfl) ?_
    refine lv_bipush (v := (-2 : Int32)) hx hb dX6_apart_10 (by decide) ?_
    obtain ⟨u6, hf6, hf⟩ := xb hf
    refine x_ranw (ws' := [(h0, xO 6 [.ref h1, .ref g0, .ref g1, .ref g2, .ref h5, .int v_isKept]), (h1, xO 0 [.ref h2, .ref g3, .int v_now_inForce, .int v_now_depth, .int v_now_miss, .long v_now_ring, .int v_now_steps, .int v_now_seed]), (h2, xO 2 [.ref h3, .ref h4, .int v_now_laws_count]), (h3, xI X 6 v_now_laws_kinds), (h4, xI X 6 v_now_laws_tunes), (h5, xI X 5 u6.2)]) (x_runV (q0 := 0) (rest := []) (As := [.int (-2 : Int32)]) hC mw_100 md_X6_refuse (c_X6_refuse (X := X) hf6) hH [0, 5] rfl (by decide) rfl rfl rfl hl.1 rfl rfl (Nat.le_of_ble_eq_true rfl) dX6_apart_12 ⟨Nat.le_of_ble_eq_true rfl, Nat.le_of_ble_eq_true rfl⟩ ⟨rfl, rfl⟩ ⟨Nat.le_refl _, Nat.le_refl _⟩) hH [0, 5] rfl rfl rfl rfl rfl (fun hz6 H locs hH => ?_)
    exact x_retiw (φ := fun _ => True) (f := fun u : Int32 × (Nat → Int32) => u.1) (wf := fun u : Int32 × (Nat → Int32) => [(h0, xO 6 [.ref h1, .ref g0, .ref g1, .ref g2, .ref h5, .int v_isKept]), (h1, xO 0 [.ref h2, .ref g3, .int v_now_inForce, .int v_now_depth, .int v_now_miss, .long v_now_ring, .int v_now_steps, .int v_now_seed]), (h2, xO 2 [.ref h3, .ref h4, .int v_now_laws_count]), (h3, xI X 6 v_now_laws_kinds), (h4, xI X 6 v_now_laws_tunes), (h5, xI X 5 u.2)]) hC hr hlk trivial hf hH rfl rfl dX6_apart_15
def f_X6_parts_L28 (v_now_laws_count : Int32) (v_now_laws_kinds : (Nat → Int32)) (v_now_laws_tunes : (Nat → Int32)) (v_refusals : (Nat → Int32)) (p1 : Int32) (p2 : Int32) (p3 : Int32) (s28 : Int32) : Option ((Int32 × (Nat → Int32)) ⊕ (Int32)) :=
  if (nI 12) < s28 then
    some (.inl ((-1 : Int32), v_refusals))
  else
  (f_X2_firstPartingRing v_now_laws_count v_now_laws_kinds v_now_laws_tunes p1 p2 s28).bind fun u7 =>
  if u7 = (-1 : Int32) then
    some (.inr (s28 + (nI 1)))
  else
  if p3 = (nI 0) then
    some (.inl (s28, v_refusals))
  else
  some (.inl (u7, v_refusals))
def f_X6_parts (v_now_laws_count : Int32) (v_now_laws_kinds : (Nat → Int32)) (v_now_laws_tunes : (Nat → Int32)) (v_refusals : (Nat → Int32)) (p1 : Int32) (p2 : Int32) (p3 : Int32) : Option (Int32 × (Nat → Int32)) :=
  (f_X6_areTwoLaws v_now_laws_count p1 p2).bind fun u1 =>
  if u1 = (nI 0) then
    (f_X6_refuse v_refusals (-2 : Int32)).bind fun u3 =>
    some (u3.1, u3.2)
  else
  (f_X6_isWithin p3 (nI 0) (nI 1)).bind fun u4 =>
  if u4 = (nI 0) then
    (f_X6_refuse v_refusals (-2 : Int32)).bind fun u10 =>
    some (u10.1, u10.2)
  else
  xloop (f_X6_parts_L28 v_now_laws_count v_now_laws_kinds v_now_laws_tunes v_refusals p1 p2 p3) xN (nI 1)
set_option maxHeartbeats 4000000 in
set_option maxRecDepth 100000 in
theorem c_X6_parts {l : Launch} {X : xG} {h0 h1 h2 h3 h4 h5 g0 g1 g2 g3 : Nat} {v_isKept : Int32} {v_now_inForce : Int32} {v_now_depth : Int32} {v_now_miss : Int32} {v_now_ring : Int64} {v_now_steps : Int32} {v_now_seed : Int32} {v_now_laws_count : Int32} {v_now_laws_kinds : (Nat → Int32)} {v_now_laws_tunes : (Nat → Int32)} {v_refusals : (Nat → Int32)} {p1 : Int32} {p2 : Int32} {p3 : Int32} {u : Int32 × (Nat → Int32)} (hf : f_X6_parts v_now_laws_count v_now_laws_kinds v_now_laws_tunes v_refusals p1 p2 p3 = some u) : Met l yX6_parts (xw yX6_parts cX6_parts 6 (some .int)) (xrm 4 98) (xPc [.ref h0, .int p1, .int p2, .int p3] X [(h0, xO 6 [.ref h1, .ref g0, .ref g1, .ref g2, .ref h5, .int v_isKept]), (h1, xO 0 [.ref h2, .ref g3, .int v_now_inForce, .int v_now_depth, .int v_now_miss, .long v_now_ring, .int v_now_steps, .int v_now_seed]), (h2, xO 2 [.ref h3, .ref h4, .int v_now_laws_count]), (h3, xI X 6 v_now_laws_kinds), (h4, xI X 6 v_now_laws_tunes), (h5, xI X 5 v_refusals)]) (xQw True (.returned (some (.int u.1))) X [(h0, xO 6 [.ref h1, .ref g0, .ref g1, .ref g2, .ref h5, .int v_isKept]), (h1, xO 0 [.ref h2, .ref g3, .int v_now_inForce, .int v_now_depth, .int v_now_miss, .long v_now_ring, .int v_now_steps, .int v_now_seed]), (h2, xO 2 [.ref h3, .ref h4, .int v_now_laws_count]), (h3, xI X 6 v_now_laws_kinds), (h4, xI X 6 v_now_laws_tunes), (h5, xI X 5 u.2)] (xAs [(h0, xO 6 [.ref h1, .ref g0, .ref g1, .ref g2, .ref h5, .int v_isKept]), (h1, xO 0 [.ref h2, .ref g3, .int v_now_inForce, .int v_now_depth, .int v_now_miss, .long v_now_ring, .int v_now_steps, .int v_now_seed]), (h2, xO 2 [.ref h3, .ref h4, .int v_now_laws_count]), (h3, xI X 6 v_now_laws_kinds), (h4, xI X 6 v_now_laws_tunes), (h5, xI X 5 v_refusals)])) 0 0 (xAs [(h0, xO 6 [.ref h1, .ref g0, .ref g1, .ref g2, .ref h5, .int v_isKept]), (h1, xO 0 [.ref h2, .ref g3, .int v_now_inForce, .int v_now_depth, .int v_now_miss, .long v_now_ring, .int v_now_steps, .int v_now_seed]), (h2, xO 2 [.ref h3, .ref h4, .int v_now_laws_count]), (h3, xI X 6 v_now_laws_kinds), (h4, xI X 6 v_now_laws_tunes), (h5, xI X 5 v_refusals)]) := by
  refine xMetw (Qc := fun A => xQw True (.returned (some (.int u.1))) X [(h0, xO 6 [.ref h1, .ref g0, .ref g1, .ref g2, .ref h5, .int v_isKept]), (h1, xO 0 [.ref h2, .ref g3, .int v_now_inForce, .int v_now_depth, .int v_now_miss, .long v_now_ring, .int v_now_steps, .int v_now_seed]), (h2, xO 2 [.ref h3, .ref h4, .int v_now_laws_count]), (h3, xI X 6 v_now_laws_kinds), (h4, xI X 6 v_now_laws_tunes), (h5, xI X 5 u.2)] A) (n := 3) md_X6_parts.1 (Nat.le_of_ble_eq_true rfl) ?_
  intro p e s m args below meth c ls A hC hr hlk hH hl
  have hl : lv_has ls 6 [(0, .ref h0), (1, .int p1), (2, .int p2), (3, .int p3)] := hl
  have hx := hC.1
  have hb := hC.2.1
  have L28 : ∀ (n : Nat) (s28 : Int32), xloop (f_X6_parts_L28 v_now_laws_count v_now_laws_kinds v_now_laws_tunes v_refusals p1 p2 p3) n s28 = some u → ∀ (H : Heap) (locs : List Loc), xH X A [(h0, xO 6 [.ref h1, .ref g0, .ref g1, .ref g2, .ref h5, .int v_isKept]), (h1, xO 0 [.ref h2, .ref g3, .int v_now_inForce, .int v_now_depth, .int v_now_miss, .long v_now_ring, .int v_now_steps, .int v_now_seed]), (h2, xO 2 [.ref h3, .ref h4, .int v_now_laws_count]), (h3, xI X 6 v_now_laws_kinds), (h4, xI X 6 v_now_laws_tunes), (h5, xI X 5 v_refusals)] s.heap H locs → ∀ (ls : Array Slot), lv_has ls 6 [(0, .ref h0), (1, .int p1), (2, .int p2), (3, .int p3), (4, .int s28)] → W p l e (xrm 4 98) s m args below meth c H locs 0 0 (MQ below (xQw True (.returned (some (.int u.1))) X [(h0, xO 6 [.ref h1, .ref g0, .ref g1, .ref g2, .ref h5, .int v_isKept]), (h1, xO 0 [.ref h2, .ref g3, .int v_now_inForce, .int v_now_depth, .int v_now_miss, .long v_now_ring, .int v_now_steps, .int v_now_seed]), (h2, xO 2 [.ref h3, .ref h4, .int v_now_laws_count]), (h3, xI X 6 v_now_laws_kinds), (h4, xI X 6 v_now_laws_tunes), (h5, xI X 5 u.2)] A) args s 0 0 A) (F0 m 28 ls []) := by
    intro  n
    induction n with
    | zero => intro s28 hf; exact xloop_0 hf
    | succ n ih28 =>
      intro s28 hf H locs hH ls hl
      obtain ⟨o28, hf, ho28⟩ := xloop_s hf
      refine lv_iload hx hb dX6_parts_28 (lv_at hl 4 rfl) ?_
      refine lv_bipush (v := (nI 12)) hx hb dX6_parts_30 (by decide) ?_
      refine lv_icmp_gt (tgt := 75) hx hb dX6_parts_32 (by decide) (fun c6 => ?_) (fun c6 => ?_)
      · have hf := xt c6 hf
        refine lv_iconst (v := (-1 : Int32)) hx hb dX6_parts_75 (by decide) ?_
        have hf := xo_ret hf ho28
        exact x_retiw (φ := fun _ => True) (f := fun u : Int32 × (Nat → Int32) => u.1) (wf := fun u : Int32 × (Nat → Int32) => [(h0, xO 6 [.ref h1, .ref g0, .ref g1, .ref g2, .ref h5, .int v_isKept]), (h1, xO 0 [.ref h2, .ref g3, .int v_now_inForce, .int v_now_depth, .int v_now_miss, .long v_now_ring, .int v_now_steps, .int v_now_seed]), (h2, xO 2 [.ref h3, .ref h4, .int v_now_laws_count]), (h3, xI X 6 v_now_laws_kinds), (h4, xI X 6 v_now_laws_tunes), (h5, xI X 5 u.2)]) hC hr hlk trivial hf hH rfl rfl dX6_parts_76
      · have hf := xe c6 hf
        refine lv_aload_n hx hb dX6_parts_35 rfl (lv_at hl 0 rfl) ?_
        refine x_get hC fd_RX6_10 hH.1 0 rfl rfl dX6_parts_36 ?_
        refine x_getN hC fd_RX6_81 hH.1 1 rfl rfl dX6_parts_39 ?_
        refine lv_iload_n hx hb dX6_parts_42 rfl (lv_at hl 1 rfl) ?_
        refine lv_iload_n hx hb dX6_parts_43 rfl (lv_at hl 2 rfl) ?_
        refine lv_iload hx hb dX6_parts_44 (lv_at hl 4 rfl) ?_
        obtain ⟨u7, hf7, hf⟩ := xb hf
        refine x_ran (x_runV (q0 := 0) (rest := []) (As := [.int p1, .int p2, .int s28]) hC mw_898 md_X2_firstPartingRing (c_X2_firstPartingRing (X := X) hf7) hH [2, 3, 4] rfl (by decide) rfl rfl rfl hl.1 rfl rfl (Nat.le_of_ble_eq_true rfl) dX6_parts_46 ⟨Nat.le_of_ble_eq_true rfl, Nat.le_of_ble_eq_true rfl⟩ ⟨rfl, rfl⟩ ⟨Nat.le_refl _, Nat.le_refl _⟩) rfl (fun hz7 => ?_)
        refine lv_istore (lv' := [(5, .int u7), (0, .ref h0), (1, .int p1), (2, .int p2), (3, .int p3), (4, .int s28)]) hx hb dX6_parts_49 hl (by decide) rfl (fun ls hl => ?_)
        refine lv_iload hx hb dX6_parts_51 (lv_at hl 0 rfl) ?_
        refine lv_iconst (v := (-1 : Int32)) hx hb dX6_parts_53 (by decide) ?_
        refine lv_icmp_eq (tgt := 69) hx hb dX6_parts_54 (by decide) (fun c8 => ?_) (fun c8 => ?_)
        · have hf := xt c8 hf
          refine lv_iinc (v := s28 + (nI 1)) (lv' := [(4, .int (s28 + (nI 1))), (5, .int u7), (0, .ref h0), (1, .int p1), (2, .int p2), (3, .int p3)]) hx hb dX6_parts_69 hl (k := 5) rfl rfl (by decide) rfl (fun ls hl => ?_)
          refine lv_goto (tgt := 28) hx hb dX6_parts_72 (by decide) ?_
          have hf := xo_go hf ho28
          exact ih28 (s28 + (nI 1)) hf _ _ hH ls (lv_sub hl [2, 3, 4, 5, 0] rfl)
        · have hf := xe c8 hf
          refine lv_iload_n hx hb dX6_parts_57 rfl (lv_at hl 4 rfl) ?_
          refine lv_if_ne (tgt := 66) hx hb dX6_parts_58 (by decide) (fun c9 => ?_) (fun c9 => ?_)
          · have hf := xe c9 hf
            refine lv_iload hx hb dX6_parts_66 (lv_at hl 0 rfl) ?_
            have hf := xo_ret hf ho28
            exact x_retiw (φ := fun _ => True) (f := fun u : Int32 × (Nat → Int32) => u.1) (wf := fun u : Int32 × (Nat → Int32) => [(h0, xO 6 [.ref h1, .ref g0, .ref g1, .ref g2, .ref h5, .int v_isKept]), (h1, xO 0 [.ref h2, .ref g3, .int v_now_inForce, .int v_now_depth, .int v_now_miss, .long v_now_ring, .int v_now_steps, .int v_now_seed]), (h2, xO 2 [.ref h3, .ref h4, .int v_now_laws_count]), (h3, xI X 6 v_now_laws_kinds), (h4, xI X 6 v_now_laws_tunes), (h5, xI X 5 u.2)]) hC hr hlk trivial hf hH rfl rfl dX6_parts_68
          · have hf := xt c9 hf
            refine lv_iload hx hb dX6_parts_61 (lv_at hl 5 rfl) ?_
            refine lv_goto (tgt := 68) hx hb dX6_parts_63 (by decide) ?_
            have hf := xo_ret hf ho28
            exact x_retiw (φ := fun _ => True) (f := fun u : Int32 × (Nat → Int32) => u.1) (wf := fun u : Int32 × (Nat → Int32) => [(h0, xO 6 [.ref h1, .ref g0, .ref g1, .ref g2, .ref h5, .int v_isKept]), (h1, xO 0 [.ref h2, .ref g3, .int v_now_inForce, .int v_now_depth, .int v_now_miss, .long v_now_ring, .int v_now_steps, .int v_now_seed]), (h2, xO 2 [.ref h3, .ref h4, .int v_now_laws_count]), (h3, xI X 6 v_now_laws_kinds), (h4, xI X 6 v_now_laws_tunes), (h5, xI X 5 u.2)]) hC hr hlk trivial hf hH rfl rfl dX6_parts_68
  refine lv_aload_n hx hb dX6_parts_0 rfl (lv_at hl 0 rfl) ?_
  refine lv_iload_n hx hb dX6_parts_1 rfl (lv_at hl 1 rfl) ?_
  refine lv_iload_n hx hb dX6_parts_2 rfl (lv_at hl 2 rfl) ?_
  obtain ⟨u1, hf1, hf⟩ := xb hf
  refine x_ran (x_runV (q0 := 0) (rest := []) (As := [.int p1, .int p2]) hC mw_874 md_X6_areTwoLaws (c_X6_areTwoLaws (X := X) hf1) hH [0, 1, 2] rfl (by decide) rfl rfl rfl hl.1 rfl rfl (Nat.le_of_ble_eq_true rfl) dX6_parts_3 ⟨Nat.le_of_ble_eq_true rfl, Nat.le_of_ble_eq_true rfl⟩ ⟨rfl, rfl⟩ ⟨Nat.le_refl _, Nat.le_refl _⟩) rfl (fun hz1 => ?_)
  refine lv_if_eq (tgt := 18) hx hb dX6_parts_6 (by decide) (fun c2 => ?_) (fun c2 => ?_)
  · have hf := xt c2 hf
    refine lv_aload_n hx hb dX6_parts_18 rfl (lv_at hl 0 rfl) ?_
    refine lv_bipush (v := (-2 : Int32)) hx hb dX6_parts_19 (by decide) ?_
    obtain ⟨u3, hf3, hf⟩ := xb hf
    refine x_ranw (ws' := [(h0, xO 6 [.ref h1, .ref g0, .ref g1, .ref g2, .ref h5, .int v_isKept]), (h1, xO 0 [.ref h2, .ref g3, .int v_now_inForce, .int v_now_depth, .int v_now_miss, .long v_now_ring, .int v_now_steps, .int v_now_seed]), (h2, xO 2 [.ref h3, .ref h4, .int v_now_laws_count]), (h3, xI X 6 v_now_laws_kinds), (h4, xI X 6 v_now_laws_tunes), (h5, xI X 5 u3.2)]) (x_runV (q0 := 0) (rest := []) (As := [.int (-2 : Int32)]) hC mw_100 md_X6_refuse (c_X6_refuse (X := X) hf3) hH [0, 5] rfl (by decide) rfl rfl rfl hl.1 rfl rfl (Nat.le_of_ble_eq_true rfl) dX6_parts_21 ⟨Nat.le_of_ble_eq_true rfl, Nat.le_of_ble_eq_true rfl⟩ ⟨rfl, rfl⟩ ⟨Nat.le_refl _, Nat.le_refl _⟩) hH [0, 5] rfl rfl rfl rfl rfl (fun hz3 H locs hH => ?_)
    exact x_retiw (φ := fun _ => True) (f := fun u : Int32 × (Nat → Int32) => u.1) (wf := fun u : Int32 × (Nat → Int32) => [(h0, xO 6 [.ref h1, .ref g0, .ref g1, .ref g2, .ref h5, .int v_isKept]), (h1, xO 0 [.ref h2, .ref g3, .int v_now_inForce, .int v_now_depth, .int v_now_miss, .long v_now_ring, .int v_now_steps, .int v_now_seed]), (h2, xO 2 [.ref h3, .ref h4, .int v_now_laws_count]), (h3, xI X 6 v_now_laws_kinds), (h4, xI X 6 v_now_laws_tunes), (h5, xI X 5 u.2)]) hC hr hlk trivial hf hH rfl rfl dX6_parts_24
  · have hf := xe c2 hf
    refine lv_iload_n hx hb dX6_parts_9 rfl (lv_at hl 3 rfl) ?_
    refine lv_iconst (v := (nI 0)) hx hb dX6_parts_10 (by decide) ?_
    refine lv_iconst (v := (nI 1)) hx hb dX6_parts_11 (by decide) ?_
    obtain ⟨u4, hf4, hf⟩ := xb hf
    refine x_ran (x_runS (rest := []) (As := [.int p3, .int (nI 0), .int (nI 1)]) hC mw_99 md_X6_isWithin (c_X6_isWithin (X := X) hf4) hH [] rfl (by decide) hl.1 rfl rfl (Nat.le_of_ble_eq_true rfl) dX6_parts_12 ⟨Nat.le_of_ble_eq_true rfl, Nat.le_of_ble_eq_true rfl⟩ ⟨rfl, rfl⟩ ⟨Nat.le_refl _, Nat.le_refl _⟩) rfl (fun hz4 => ?_)
    refine lv_if_ne (tgt := 25) hx hb dX6_parts_15 (by decide) (fun c5 => ?_) (fun c5 => ?_)
    · have hf := xe c5 hf
      refine lv_iconst (v := (nI 1)) hx hb dX6_parts_25 (by decide) ?_
      refine lv_istore (lv' := [(4, .int (nI 1)), (0, .ref h0), (1, .int p1), (2, .int p2), (3, .int p3)]) hx hb dX6_parts_26 hl (by decide) rfl (fun ls hl => ?_)
      exact L28 xN (nI 1) hf _ _ hH ls (lv_sub hl [1, 2, 3, 4, 0] rfl)
    · have hf := xt c5 hf
      refine lv_aload_n hx hb dX6_parts_18 rfl (lv_at hl 0 rfl) ?_
      refine lv_bipush (v := (-2 : Int32)) hx hb dX6_parts_19 (by decide) ?_
      obtain ⟨u10, hf10, hf⟩ := xb hf
      refine x_ranw (ws' := [(h0, xO 6 [.ref h1, .ref g0, .ref g1, .ref g2, .ref h5, .int v_isKept]), (h1, xO 0 [.ref h2, .ref g3, .int v_now_inForce, .int v_now_depth, .int v_now_miss, .long v_now_ring, .int v_now_steps, .int v_now_seed]), (h2, xO 2 [.ref h3, .ref h4, .int v_now_laws_count]), (h3, xI X 6 v_now_laws_kinds), (h4, xI X 6 v_now_laws_tunes), (h5, xI X 5 u10.2)]) (x_runV (q0 := 0) (rest := []) (As := [.int (-2 : Int32)]) hC mw_100 md_X6_refuse (c_X6_refuse (X := X) hf10) hH [0, 5] rfl (by decide) rfl rfl rfl hl.1 rfl rfl (Nat.le_of_ble_eq_true rfl) dX6_parts_21 ⟨Nat.le_of_ble_eq_true rfl, Nat.le_of_ble_eq_true rfl⟩ ⟨rfl, rfl⟩ ⟨Nat.le_refl _, Nat.le_refl _⟩) hH [0, 5] rfl rfl rfl rfl rfl (fun hz10 H locs hH => ?_)
      exact x_retiw (φ := fun _ => True) (f := fun u : Int32 × (Nat → Int32) => u.1) (wf := fun u : Int32 × (Nat → Int32) => [(h0, xO 6 [.ref h1, .ref g0, .ref g1, .ref g2, .ref h5, .int v_isKept]), (h1, xO 0 [.ref h2, .ref g3, .int v_now_inForce, .int v_now_depth, .int v_now_miss, .long v_now_ring, .int v_now_steps, .int v_now_seed]), (h2, xO 2 [.ref h3, .ref h4, .int v_now_laws_count]), (h3, xI X 6 v_now_laws_kinds), (h4, xI X 6 v_now_laws_tunes), (h5, xI X 5 u.2)]) hC hr hlk trivial hf hH rfl rfl dX6_parts_24
def f_X6_isSetOf (p0 : Int32) (p1 : Int32) : Option (Int32) :=
  if p0 < (nI 0) then
    some (nI 0)
  else
  if (xushr p0 p1) = (nI 0) then
    some (nI 1)
  else
  some (nI 0)
set_option maxHeartbeats 4000000 in
set_option maxRecDepth 100000 in
theorem c_X6_isSetOf {l : Launch} {X : xG} {p0 : Int32} {p1 : Int32} {u : Int32} (hf : f_X6_isSetOf p0 p1 = some u) : Met l yX6_isSetOf (xw yX6_isSetOf cX6_isSetOf 2 (some .boolean)) (xrm 0 0) (xPc [.int p0, .int p1] X []) (xQ (u = 0 ∨ u = 1) (.returned (some (.int u)))) 0 0 xNo := by
  refine xMet (n := 2) md_X6_isSetOf.1 (Nat.le_of_ble_eq_true rfl) ?_
  intro p e s m args below meth c ls A hC hr hlk hH hl
  have hl : lv_has ls 2 [(0, .int p0), (1, .int p1)] := hl
  have hx := hC.1
  have hb := hC.2.1
  refine lv_iload_n hx hb dX6_isSetOf_0 rfl (lv_at hl 0 rfl) ?_
  refine lv_if_lt (tgt := 14) hx hb dX6_isSetOf_1 (by decide) (fun c1 => ?_) (fun c1 => ?_)
  · have hf := xt c1 hf
    refine lv_iconst (v := (nI 0)) hx hb dX6_isSetOf_14 (by decide) ?_
    exact x_retz hC hr hlk (Or.inl rfl) hf dX6_isSetOf_15
  · have hf := xe c1 hf
    refine lv_iload_n hx hb dX6_isSetOf_4 rfl (lv_at hl 0 rfl) ?_
    refine lv_iload_n hx hb dX6_isSetOf_5 rfl (lv_at hl 1 rfl) ?_
    refine x_iushr hx hb dX6_isSetOf_6 ?_
    refine lv_if_ne (tgt := 14) hx hb dX6_isSetOf_7 (by decide) (fun c2 => ?_) (fun c2 => ?_)
    · have hf := xe c2 hf
      refine lv_iconst (v := (nI 0)) hx hb dX6_isSetOf_14 (by decide) ?_
      exact x_retz hC hr hlk (Or.inl rfl) hf dX6_isSetOf_15
    · have hf := xt c2 hf
      refine lv_iconst (v := (nI 1)) hx hb dX6_isSetOf_10 (by decide) ?_
      refine lv_goto (tgt := 15) hx hb dX6_isSetOf_11 (by decide) ?_
      exact x_retz hC hr hlk (Or.inr rfl) hf dX6_isSetOf_15
def f_X6_common_L38 (v_now_ring : Int64) (v_now_steps : Int32) (v_now_laws_count : Int32) (v_now_laws_kinds : (Nat → Int32)) (v_now_laws_tunes : (Nat → Int32)) (v_refusals : (Nat → Int32)) (p1 : Int32) (s38 : Int64 × Int32) : Option ((Int32 × (Nat → Int32)) ⊕ (Int64 × Int32)) :=
  if v_now_laws_count ≤ s38.2 then
    (f_J13_bitCount_95d88 s38.1).bind fun u5 =>
    some (.inl (u5, v_refusals))
  else
  (f_X6_isIn (Int32.toInt64 p1) s38.2).bind fun u6 =>
  if u6 = (nI 0) then
    some (.inr (s38.1, s38.2 + (nI 1)))
  else
  (f_X0_struck v_now_steps v_now_laws_count v_now_laws_kinds v_now_laws_tunes s38.2 v_now_ring).bind fun u8 =>
  some (.inr (s38.1 &&& u8, s38.2 + (nI 1)))
def f_X6_common (v_now_ring : Int64) (v_now_steps : Int32) (v_now_laws_count : Int32) (v_now_laws_kinds : (Nat → Int32)) (v_now_laws_tunes : (Nat → Int32)) (v_refusals : (Nat → Int32)) (p1 : Int32) : Option (Int32 × (Nat → Int32)) :=
  (f_X6_isSetOf p1 v_now_laws_count).bind fun u1 =>
  if u1 = (nI 0) then
    (f_X6_refuse v_refusals (-2 : Int32)).bind fun u9 =>
    some (u9.1, u9.2)
  else
  (f_X6_firstBits v_now_steps).bind fun u3 =>
  xloop (f_X6_common_L38 v_now_ring v_now_steps v_now_laws_count v_now_laws_kinds v_now_laws_tunes v_refusals p1) xN (u3, (nI 0))
set_option maxHeartbeats 4000000 in
set_option maxRecDepth 100000 in
theorem c_X6_common {l : Launch} {X : xG} {h0 h1 h2 h3 h4 h5 g0 g1 g2 g3 : Nat} {v_isKept : Int32} {v_now_inForce : Int32} {v_now_depth : Int32} {v_now_miss : Int32} {v_now_ring : Int64} {v_now_steps : Int32} {v_now_seed : Int32} {v_now_laws_count : Int32} {v_now_laws_kinds : (Nat → Int32)} {v_now_laws_tunes : (Nat → Int32)} {v_refusals : (Nat → Int32)} {p1 : Int32} {u : Int32 × (Nat → Int32)} (hf : f_X6_common v_now_ring v_now_steps v_now_laws_count v_now_laws_kinds v_now_laws_tunes v_refusals p1 = some u) : Met l yX6_common (xw yX6_common cX6_common 5 (some .int)) (xrm 5 125) (xPc [.ref h0, .int p1] X [(h0, xO 6 [.ref h1, .ref g0, .ref g1, .ref g2, .ref h5, .int v_isKept]), (h1, xO 0 [.ref h2, .ref g3, .int v_now_inForce, .int v_now_depth, .int v_now_miss, .long v_now_ring, .int v_now_steps, .int v_now_seed]), (h2, xO 2 [.ref h3, .ref h4, .int v_now_laws_count]), (h3, xI X 6 v_now_laws_kinds), (h4, xI X 6 v_now_laws_tunes), (h5, xI X 5 v_refusals)]) (xQw True (.returned (some (.int u.1))) X [(h0, xO 6 [.ref h1, .ref g0, .ref g1, .ref g2, .ref h5, .int v_isKept]), (h1, xO 0 [.ref h2, .ref g3, .int v_now_inForce, .int v_now_depth, .int v_now_miss, .long v_now_ring, .int v_now_steps, .int v_now_seed]), (h2, xO 2 [.ref h3, .ref h4, .int v_now_laws_count]), (h3, xI X 6 v_now_laws_kinds), (h4, xI X 6 v_now_laws_tunes), (h5, xI X 5 u.2)] (xAs [(h0, xO 6 [.ref h1, .ref g0, .ref g1, .ref g2, .ref h5, .int v_isKept]), (h1, xO 0 [.ref h2, .ref g3, .int v_now_inForce, .int v_now_depth, .int v_now_miss, .long v_now_ring, .int v_now_steps, .int v_now_seed]), (h2, xO 2 [.ref h3, .ref h4, .int v_now_laws_count]), (h3, xI X 6 v_now_laws_kinds), (h4, xI X 6 v_now_laws_tunes), (h5, xI X 5 v_refusals)])) 0 0 (xAs [(h0, xO 6 [.ref h1, .ref g0, .ref g1, .ref g2, .ref h5, .int v_isKept]), (h1, xO 0 [.ref h2, .ref g3, .int v_now_inForce, .int v_now_depth, .int v_now_miss, .long v_now_ring, .int v_now_steps, .int v_now_seed]), (h2, xO 2 [.ref h3, .ref h4, .int v_now_laws_count]), (h3, xI X 6 v_now_laws_kinds), (h4, xI X 6 v_now_laws_tunes), (h5, xI X 5 v_refusals)]) := by
  refine xMetw (Qc := fun A => xQw True (.returned (some (.int u.1))) X [(h0, xO 6 [.ref h1, .ref g0, .ref g1, .ref g2, .ref h5, .int v_isKept]), (h1, xO 0 [.ref h2, .ref g3, .int v_now_inForce, .int v_now_depth, .int v_now_miss, .long v_now_ring, .int v_now_steps, .int v_now_seed]), (h2, xO 2 [.ref h3, .ref h4, .int v_now_laws_count]), (h3, xI X 6 v_now_laws_kinds), (h4, xI X 6 v_now_laws_tunes), (h5, xI X 5 u.2)] A) (n := 1) md_X6_common.1 (Nat.le_of_ble_eq_true rfl) ?_
  intro p e s m args below meth c ls A hC hr hlk hH hl
  have hl : lv_has ls 5 [(0, .ref h0), (1, .int p1)] := hl
  have hx := hC.1
  have hb := hC.2.1
  have L38 : ∀ (n : Nat) (s38 : Int64 × Int32), xloop (f_X6_common_L38 v_now_ring v_now_steps v_now_laws_count v_now_laws_kinds v_now_laws_tunes v_refusals p1) n s38 = some u → ∀ (H : Heap) (locs : List Loc), xH X A [(h0, xO 6 [.ref h1, .ref g0, .ref g1, .ref g2, .ref h5, .int v_isKept]), (h1, xO 0 [.ref h2, .ref g3, .int v_now_inForce, .int v_now_depth, .int v_now_miss, .long v_now_ring, .int v_now_steps, .int v_now_seed]), (h2, xO 2 [.ref h3, .ref h4, .int v_now_laws_count]), (h3, xI X 6 v_now_laws_kinds), (h4, xI X 6 v_now_laws_tunes), (h5, xI X 5 v_refusals)] s.heap H locs → ∀ (ls : Array Slot), lv_has ls 5 [(0, .ref h0), (1, .int p1), (2, .long s38.1), (4, .int s38.2)] → W p l e (xrm 5 125) s m args below meth c H locs 0 0 (MQ below (xQw True (.returned (some (.int u.1))) X [(h0, xO 6 [.ref h1, .ref g0, .ref g1, .ref g2, .ref h5, .int v_isKept]), (h1, xO 0 [.ref h2, .ref g3, .int v_now_inForce, .int v_now_depth, .int v_now_miss, .long v_now_ring, .int v_now_steps, .int v_now_seed]), (h2, xO 2 [.ref h3, .ref h4, .int v_now_laws_count]), (h3, xI X 6 v_now_laws_kinds), (h4, xI X 6 v_now_laws_tunes), (h5, xI X 5 u.2)] A) args s 0 0 A) (F0 m 38 ls []) := by
    intro  n
    induction n with
    | zero => intro s38 hf; exact xloop_0 hf
    | succ n ih38 =>
      intro s38 hf H locs hH ls hl
      obtain ⟨o38, hf, ho38⟩ := xloop_s hf
      refine lv_iload hx hb dX6_common_38 (lv_at hl 3 rfl) ?_
      refine lv_aload_n hx hb dX6_common_40 rfl (lv_at hl 0 rfl) ?_
      refine x_get hC fd_RX6_10 hH.1 0 rfl rfl dX6_common_41 ?_
      refine x_getN hC fd_RX6_81 hH.1 1 rfl rfl dX6_common_44 ?_
      refine x_getN hC fd_RX6_194 hH.1 2 rfl rfl dX6_common_47 ?_
      refine lv_icmp_ge (tgt := 88) hx hb dX6_common_50 (by decide) (fun c4 => ?_) (fun c4 => ?_)
      · have hf := xt c4 hf
        refine lv_lload_n hx hb dX6_common_88 rfl (lv_at hl 2 rfl) ?_
        obtain ⟨u5, hf5, hf⟩ := xb hf
        refine x_ran (x_runS (rest := []) (As := [.long s38.1]) hC mw_744 md_J13_bitCount_95d88 (c_J13_bitCount_95d88 (X := X) hf5) hH [] rfl (by decide) hl.1 rfl rfl (Nat.le_of_ble_eq_true rfl) dX6_common_89 ⟨Nat.le_of_ble_eq_true rfl, Nat.le_of_ble_eq_true rfl⟩ ⟨rfl, rfl⟩ ⟨Nat.le_refl _, Nat.le_refl _⟩) rfl (fun hz5 => ?_)
        have hf := xo_ret hf ho38
        exact x_retiw (φ := fun _ => True) (f := fun u : Int32 × (Nat → Int32) => u.1) (wf := fun u : Int32 × (Nat → Int32) => [(h0, xO 6 [.ref h1, .ref g0, .ref g1, .ref g2, .ref h5, .int v_isKept]), (h1, xO 0 [.ref h2, .ref g3, .int v_now_inForce, .int v_now_depth, .int v_now_miss, .long v_now_ring, .int v_now_steps, .int v_now_seed]), (h2, xO 2 [.ref h3, .ref h4, .int v_now_laws_count]), (h3, xI X 6 v_now_laws_kinds), (h4, xI X 6 v_now_laws_tunes), (h5, xI X 5 u.2)]) hC hr hlk trivial hf hH rfl rfl dX6_common_92
      · have hf := xe c4 hf
        refine lv_iload_n hx hb dX6_common_53 rfl (lv_at hl 1 rfl) ?_
        refine lv_i2l hx hb dX6_common_54 rfl ?_
        refine lv_iload hx hb dX6_common_55 (lv_at hl 3 rfl) ?_
        obtain ⟨u6, hf6, hf⟩ := xb hf
        refine x_ran (x_runS (rest := []) (As := [.long (Int32.toInt64 p1), .int s38.2]) hC mw_677 md_X6_isIn (c_X6_isIn (X := X) hf6) hH [] rfl (by decide) hl.1 rfl rfl (Nat.le_of_ble_eq_true rfl) dX6_common_57 ⟨Nat.le_of_ble_eq_true rfl, Nat.le_of_ble_eq_true rfl⟩ ⟨rfl, rfl⟩ ⟨Nat.le_refl _, Nat.le_refl _⟩) rfl (fun hz6 => ?_)
        refine lv_if_eq (tgt := 82) hx hb dX6_common_60 (by decide) (fun c7 => ?_) (fun c7 => ?_)
        · have hf := xt c7 hf
          refine lv_iinc (v := s38.2 + (nI 1)) (lv' := [(4, .int (s38.2 + (nI 1))), (0, .ref h0), (1, .int p1), (2, .long s38.1)]) hx hb dX6_common_82 hl (k := 3) rfl rfl (by decide) rfl (fun ls hl => ?_)
          refine lv_goto (tgt := 38) hx hb dX6_common_85 (by decide) ?_
          have hf := xo_go hf ho38
          exact ih38 (s38.1, s38.2 + (nI 1)) hf _ _ hH ls (lv_sub hl [1, 2, 3, 0] rfl)
        · have hf := xe c7 hf
          refine lv_lload_n hx hb dX6_common_63 rfl (lv_at hl 2 rfl) ?_
          refine lv_aload_n hx hb dX6_common_64 rfl (lv_at hl 0 rfl) ?_
          refine x_get hC fd_RX6_10 hH.1 0 rfl rfl dX6_common_65 ?_
          refine lv_iload hx hb dX6_common_68 (lv_at hl 3 rfl) ?_
          refine lv_aload_n hx hb dX6_common_70 rfl (lv_at hl 0 rfl) ?_
          refine x_get hC fd_RX6_10 hH.1 0 rfl rfl dX6_common_71 ?_
          refine x_getN hC fd_RX6_120 hH.1 1 rfl rfl dX6_common_74 ?_
          obtain ⟨u8, hf8, hf⟩ := xb hf
          refine x_ran (x_runV (q0 := 0) (rest := [.long s38.1]) (As := [.int s38.2, .long v_now_ring]) hC mw_853 md_X0_struck (c_X0_struck (X := X) hf8) hH [1, 2, 3, 4] rfl (by decide) rfl rfl rfl hl.1 rfl rfl (Nat.le_of_ble_eq_true rfl) dX6_common_77 ⟨Nat.le_of_ble_eq_true rfl, Nat.le_of_ble_eq_true rfl⟩ ⟨rfl, rfl⟩ ⟨Nat.le_refl _, Nat.le_refl _⟩) rfl (fun hz8 => ?_)
          refine lv_land hx hb dX6_common_80 ?_
          refine lv_lstore_n (lv' := [(2, .long (s38.1 &&& u8)), (0, .ref h0), (1, .int p1), (4, .int s38.2)]) hx hb dX6_common_81 rfl hl (by decide) rfl (fun ls hl => ?_)
          refine lv_iinc (v := s38.2 + (nI 1)) (lv' := [(4, .int (s38.2 + (nI 1))), (2, .long (s38.1 &&& u8)), (0, .ref h0), (1, .int p1)]) hx hb dX6_common_82 hl (k := 3) rfl rfl (by decide) rfl (fun ls hl => ?_)
          refine lv_goto (tgt := 38) hx hb dX6_common_85 (by decide) ?_
          have hf := xo_go hf ho38
          exact ih38 (s38.1 &&& u8, s38.2 + (nI 1)) hf _ _ hH ls (lv_sub hl [2, 3, 1, 0] rfl)
  refine lv_iload_n hx hb dX6_common_0 rfl (lv_at hl 1 rfl) ?_
  refine lv_aload_n hx hb dX6_common_1 rfl (lv_at hl 0 rfl) ?_
  refine x_get hC fd_RX6_10 hH.1 0 rfl rfl dX6_common_2 ?_
  refine x_getN hC fd_RX6_81 hH.1 1 rfl rfl dX6_common_5 ?_
  refine x_getN hC fd_RX6_194 hH.1 2 rfl rfl dX6_common_8 ?_
  obtain ⟨u1, hf1, hf⟩ := xb hf
  refine x_ran (x_runS (rest := []) (As := [.int p1, .int v_now_laws_count]) hC mw_910 md_X6_isSetOf (c_X6_isSetOf (X := X) hf1) hH [] rfl (by decide) hl.1 rfl rfl (Nat.le_of_ble_eq_true rfl) dX6_common_11 ⟨Nat.le_of_ble_eq_true rfl, Nat.le_of_ble_eq_true rfl⟩ ⟨rfl, rfl⟩ ⟨Nat.le_refl _, Nat.le_refl _⟩) rfl (fun hz1 => ?_)
  refine lv_if_ne (tgt := 24) hx hb dX6_common_14 (by decide) (fun c2 => ?_) (fun c2 => ?_)
  · have hf := xe c2 hf
    refine lv_aload_n hx hb dX6_common_24 rfl (lv_at hl 0 rfl) ?_
    refine x_get hC fd_RX6_10 hH.1 0 rfl rfl dX6_common_25 ?_
    refine x_getN hC fd_RX6_200 hH.1 1 rfl rfl dX6_common_28 ?_
    obtain ⟨u3, hf3, hf⟩ := xb hf
    refine x_ran (x_runS (rest := []) (As := [.int v_now_steps]) hC mw_800 md_X6_firstBits (c_X6_firstBits (X := X) hf3) hH [] rfl (by decide) hl.1 rfl rfl (Nat.le_of_ble_eq_true rfl) dX6_common_31 ⟨Nat.le_of_ble_eq_true rfl, Nat.le_of_ble_eq_true rfl⟩ ⟨rfl, rfl⟩ ⟨Nat.le_refl _, Nat.le_refl _⟩) rfl (fun hz3 => ?_)
    refine lv_lstore_n (lv' := [(2, .long u3), (0, .ref h0), (1, .int p1)]) hx hb dX6_common_34 rfl hl (by decide) rfl (fun ls hl => ?_)
    refine lv_iconst (v := (nI 0)) hx hb dX6_common_35 (by decide) ?_
    refine lv_istore (lv' := [(4, .int (nI 0)), (2, .long u3), (0, .ref h0), (1, .int p1)]) hx hb dX6_common_36 hl (by decide) rfl (fun ls hl => ?_)
    exact L38 xN (u3, (nI 0)) hf _ _ hH ls (lv_sub hl [2, 3, 1, 0] rfl)
  · have hf := xt c2 hf
    refine lv_aload_n hx hb dX6_common_17 rfl (lv_at hl 0 rfl) ?_
    refine lv_bipush (v := (-2 : Int32)) hx hb dX6_common_18 (by decide) ?_
    obtain ⟨u9, hf9, hf⟩ := xb hf
    refine x_ranw (ws' := [(h0, xO 6 [.ref h1, .ref g0, .ref g1, .ref g2, .ref h5, .int v_isKept]), (h1, xO 0 [.ref h2, .ref g3, .int v_now_inForce, .int v_now_depth, .int v_now_miss, .long v_now_ring, .int v_now_steps, .int v_now_seed]), (h2, xO 2 [.ref h3, .ref h4, .int v_now_laws_count]), (h3, xI X 6 v_now_laws_kinds), (h4, xI X 6 v_now_laws_tunes), (h5, xI X 5 u9.2)]) (x_runV (q0 := 0) (rest := []) (As := [.int (-2 : Int32)]) hC mw_100 md_X6_refuse (c_X6_refuse (X := X) hf9) hH [0, 5] rfl (by decide) rfl rfl rfl hl.1 rfl rfl (Nat.le_of_ble_eq_true rfl) dX6_common_20 ⟨Nat.le_of_ble_eq_true rfl, Nat.le_of_ble_eq_true rfl⟩ ⟨rfl, rfl⟩ ⟨Nat.le_refl _, Nat.le_refl _⟩) hH [0, 5] rfl rfl rfl rfl rfl (fun hz9 H locs hH => ?_)
    exact x_retiw (φ := fun _ => True) (f := fun u : Int32 × (Nat → Int32) => u.1) (wf := fun u : Int32 × (Nat → Int32) => [(h0, xO 6 [.ref h1, .ref g0, .ref g1, .ref g2, .ref h5, .int v_isKept]), (h1, xO 0 [.ref h2, .ref g3, .int v_now_inForce, .int v_now_depth, .int v_now_miss, .long v_now_ring, .int v_now_steps, .int v_now_seed]), (h2, xO 2 [.ref h3, .ref h4, .int v_now_laws_count]), (h3, xI X 6 v_now_laws_kinds), (h4, xI X 6 v_now_laws_tunes), (h5, xI X 5 u.2)]) hC hr hlk trivial hf hH rfl rfl dX6_common_23
def f_X6_alone_L40 (v_now_ring : Int64) (v_now_steps : Int32) (v_now_laws_count : Int32) (v_now_laws_kinds : (Nat → Int32)) (v_now_laws_tunes : (Nat → Int32)) (v_refusals : (Nat → Int32)) (p1 : Int32) (s40 : Int64 × Int32) : Option ((Int32 × (Nat → Int32)) ⊕ (Int64 × Int32)) :=
  if v_now_laws_count ≤ s40.2 then
    (f_J13_bitCount_95d88 s40.1).bind fun u5 =>
    some (.inl (u5, v_refusals))
  else
  if s40.2 = p1 then
    some (.inr (s40.1, s40.2 + (nI 1)))
  else
  (f_X0_struck v_now_steps v_now_laws_count v_now_laws_kinds v_now_laws_tunes s40.2 v_now_ring).bind fun u7 =>
  some (.inr (s40.1 &&& (u7 ^^^ (-1 : Int64)), s40.2 + (nI 1)))
def f_X6_alone (v_now_ring : Int64) (v_now_steps : Int32) (v_now_laws_count : Int32) (v_now_laws_kinds : (Nat → Int32)) (v_now_laws_tunes : (Nat → Int32)) (v_refusals : (Nat → Int32)) (p1 : Int32) : Option (Int32 × (Nat → Int32)) :=
  (f_X2_isThere v_now_laws_count p1).bind fun u1 =>
  if u1 = (nI 0) then
    (f_X6_refuse v_refusals (-2 : Int32)).bind fun u8 =>
    some (u8.1, u8.2)
  else
  (f_X0_struck v_now_steps v_now_laws_count v_now_laws_kinds v_now_laws_tunes p1 v_now_ring).bind fun u3 =>
  xloop (f_X6_alone_L40 v_now_ring v_now_steps v_now_laws_count v_now_laws_kinds v_now_laws_tunes v_refusals p1) xN (u3, (nI 0))
set_option maxHeartbeats 4000000 in
set_option maxRecDepth 100000 in
theorem c_X6_alone {l : Launch} {X : xG} {h0 h1 h2 h3 h4 h5 g0 g1 g2 g3 : Nat} {v_isKept : Int32} {v_now_inForce : Int32} {v_now_depth : Int32} {v_now_miss : Int32} {v_now_ring : Int64} {v_now_steps : Int32} {v_now_seed : Int32} {v_now_laws_count : Int32} {v_now_laws_kinds : (Nat → Int32)} {v_now_laws_tunes : (Nat → Int32)} {v_refusals : (Nat → Int32)} {p1 : Int32} {u : Int32 × (Nat → Int32)} (hf : f_X6_alone v_now_ring v_now_steps v_now_laws_count v_now_laws_kinds v_now_laws_tunes v_refusals p1 = some u) : Met l yX6_alone (xw yX6_alone cX6_alone 5 (some .int)) (xrm 5 125) (xPc [.ref h0, .int p1] X [(h0, xO 6 [.ref h1, .ref g0, .ref g1, .ref g2, .ref h5, .int v_isKept]), (h1, xO 0 [.ref h2, .ref g3, .int v_now_inForce, .int v_now_depth, .int v_now_miss, .long v_now_ring, .int v_now_steps, .int v_now_seed]), (h2, xO 2 [.ref h3, .ref h4, .int v_now_laws_count]), (h3, xI X 6 v_now_laws_kinds), (h4, xI X 6 v_now_laws_tunes), (h5, xI X 5 v_refusals)]) (xQw True (.returned (some (.int u.1))) X [(h0, xO 6 [.ref h1, .ref g0, .ref g1, .ref g2, .ref h5, .int v_isKept]), (h1, xO 0 [.ref h2, .ref g3, .int v_now_inForce, .int v_now_depth, .int v_now_miss, .long v_now_ring, .int v_now_steps, .int v_now_seed]), (h2, xO 2 [.ref h3, .ref h4, .int v_now_laws_count]), (h3, xI X 6 v_now_laws_kinds), (h4, xI X 6 v_now_laws_tunes), (h5, xI X 5 u.2)] (xAs [(h0, xO 6 [.ref h1, .ref g0, .ref g1, .ref g2, .ref h5, .int v_isKept]), (h1, xO 0 [.ref h2, .ref g3, .int v_now_inForce, .int v_now_depth, .int v_now_miss, .long v_now_ring, .int v_now_steps, .int v_now_seed]), (h2, xO 2 [.ref h3, .ref h4, .int v_now_laws_count]), (h3, xI X 6 v_now_laws_kinds), (h4, xI X 6 v_now_laws_tunes), (h5, xI X 5 v_refusals)])) 0 0 (xAs [(h0, xO 6 [.ref h1, .ref g0, .ref g1, .ref g2, .ref h5, .int v_isKept]), (h1, xO 0 [.ref h2, .ref g3, .int v_now_inForce, .int v_now_depth, .int v_now_miss, .long v_now_ring, .int v_now_steps, .int v_now_seed]), (h2, xO 2 [.ref h3, .ref h4, .int v_now_laws_count]), (h3, xI X 6 v_now_laws_kinds), (h4, xI X 6 v_now_laws_tunes), (h5, xI X 5 v_refusals)]) := by
  refine xMetw (Qc := fun A => xQw True (.returned (some (.int u.1))) X [(h0, xO 6 [.ref h1, .ref g0, .ref g1, .ref g2, .ref h5, .int v_isKept]), (h1, xO 0 [.ref h2, .ref g3, .int v_now_inForce, .int v_now_depth, .int v_now_miss, .long v_now_ring, .int v_now_steps, .int v_now_seed]), (h2, xO 2 [.ref h3, .ref h4, .int v_now_laws_count]), (h3, xI X 6 v_now_laws_kinds), (h4, xI X 6 v_now_laws_tunes), (h5, xI X 5 u.2)] A) (n := 1) md_X6_alone.1 (Nat.le_of_ble_eq_true rfl) ?_
  intro p e s m args below meth c ls A hC hr hlk hH hl
  have hl : lv_has ls 5 [(0, .ref h0), (1, .int p1)] := hl
  have hx := hC.1
  have hb := hC.2.1
  have L40 : ∀ (n : Nat) (s40 : Int64 × Int32), xloop (f_X6_alone_L40 v_now_ring v_now_steps v_now_laws_count v_now_laws_kinds v_now_laws_tunes v_refusals p1) n s40 = some u → ∀ (H : Heap) (locs : List Loc), xH X A [(h0, xO 6 [.ref h1, .ref g0, .ref g1, .ref g2, .ref h5, .int v_isKept]), (h1, xO 0 [.ref h2, .ref g3, .int v_now_inForce, .int v_now_depth, .int v_now_miss, .long v_now_ring, .int v_now_steps, .int v_now_seed]), (h2, xO 2 [.ref h3, .ref h4, .int v_now_laws_count]), (h3, xI X 6 v_now_laws_kinds), (h4, xI X 6 v_now_laws_tunes), (h5, xI X 5 v_refusals)] s.heap H locs → ∀ (ls : Array Slot), lv_has ls 5 [(0, .ref h0), (1, .int p1), (2, .long s40.1), (4, .int s40.2)] → W p l e (xrm 5 125) s m args below meth c H locs 0 0 (MQ below (xQw True (.returned (some (.int u.1))) X [(h0, xO 6 [.ref h1, .ref g0, .ref g1, .ref g2, .ref h5, .int v_isKept]), (h1, xO 0 [.ref h2, .ref g3, .int v_now_inForce, .int v_now_depth, .int v_now_miss, .long v_now_ring, .int v_now_steps, .int v_now_seed]), (h2, xO 2 [.ref h3, .ref h4, .int v_now_laws_count]), (h3, xI X 6 v_now_laws_kinds), (h4, xI X 6 v_now_laws_tunes), (h5, xI X 5 u.2)] A) args s 0 0 A) (F0 m 40 ls []) := by
    intro  n
    induction n with
    | zero => intro s40 hf; exact xloop_0 hf
    | succ n ih40 =>
      intro s40 hf H locs hH ls hl
      obtain ⟨o40, hf, ho40⟩ := xloop_s hf
      refine lv_iload hx hb dX6_alone_40 (lv_at hl 3 rfl) ?_
      refine lv_aload_n hx hb dX6_alone_42 rfl (lv_at hl 0 rfl) ?_
      refine x_get hC fd_RX6_10 hH.1 0 rfl rfl dX6_alone_43 ?_
      refine x_getN hC fd_RX6_81 hH.1 1 rfl rfl dX6_alone_46 ?_
      refine x_getN hC fd_RX6_194 hH.1 2 rfl rfl dX6_alone_49 ?_
      refine lv_icmp_ge (tgt := 90) hx hb dX6_alone_52 (by decide) (fun c4 => ?_) (fun c4 => ?_)
      · have hf := xt c4 hf
        refine lv_lload_n hx hb dX6_alone_90 rfl (lv_at hl 2 rfl) ?_
        obtain ⟨u5, hf5, hf⟩ := xb hf
        refine x_ran (x_runS (rest := []) (As := [.long s40.1]) hC mw_744 md_J13_bitCount_95d88 (c_J13_bitCount_95d88 (X := X) hf5) hH [] rfl (by decide) hl.1 rfl rfl (Nat.le_of_ble_eq_true rfl) dX6_alone_91 ⟨Nat.le_of_ble_eq_true rfl, Nat.le_of_ble_eq_true rfl⟩ ⟨rfl, rfl⟩ ⟨Nat.le_refl _, Nat.le_refl _⟩) rfl (fun hz5 => ?_)
        have hf := xo_ret hf ho40
        exact x_retiw (φ := fun _ => True) (f := fun u : Int32 × (Nat → Int32) => u.1) (wf := fun u : Int32 × (Nat → Int32) => [(h0, xO 6 [.ref h1, .ref g0, .ref g1, .ref g2, .ref h5, .int v_isKept]), (h1, xO 0 [.ref h2, .ref g3, .int v_now_inForce, .int v_now_depth, .int v_now_miss, .long v_now_ring, .int v_now_steps, .int v_now_seed]), (h2, xO 2 [.ref h3, .ref h4, .int v_now_laws_count]), (h3, xI X 6 v_now_laws_kinds), (h4, xI X 6 v_now_laws_tunes), (h5, xI X 5 u.2)]) hC hr hlk trivial hf hH rfl rfl dX6_alone_94
      · have hf := xe c4 hf
        refine lv_iload hx hb dX6_alone_55 (lv_at hl 3 rfl) ?_
        refine lv_iload_n hx hb dX6_alone_57 rfl (lv_at hl 1 rfl) ?_
        refine lv_icmp_eq (tgt := 84) hx hb dX6_alone_58 (by decide) (fun c6 => ?_) (fun c6 => ?_)
        · have hf := xt c6 hf
          refine lv_iinc (v := s40.2 + (nI 1)) (lv' := [(4, .int (s40.2 + (nI 1))), (0, .ref h0), (1, .int p1), (2, .long s40.1)]) hx hb dX6_alone_84 hl (k := 3) rfl rfl (by decide) rfl (fun ls hl => ?_)
          refine lv_goto (tgt := 40) hx hb dX6_alone_87 (by decide) ?_
          have hf := xo_go hf ho40
          exact ih40 (s40.1, s40.2 + (nI 1)) hf _ _ hH ls (lv_sub hl [1, 2, 3, 0] rfl)
        · have hf := xe c6 hf
          refine lv_lload_n hx hb dX6_alone_61 rfl (lv_at hl 2 rfl) ?_
          refine lv_aload_n hx hb dX6_alone_62 rfl (lv_at hl 0 rfl) ?_
          refine x_get hC fd_RX6_10 hH.1 0 rfl rfl dX6_alone_63 ?_
          refine lv_iload hx hb dX6_alone_66 (lv_at hl 3 rfl) ?_
          refine lv_aload_n hx hb dX6_alone_68 rfl (lv_at hl 0 rfl) ?_
          refine x_get hC fd_RX6_10 hH.1 0 rfl rfl dX6_alone_69 ?_
          refine x_getN hC fd_RX6_120 hH.1 1 rfl rfl dX6_alone_72 ?_
          obtain ⟨u7, hf7, hf⟩ := xb hf
          refine x_ran (x_runV (q0 := 0) (rest := [.long s40.1]) (As := [.int s40.2, .long v_now_ring]) hC mw_853 md_X0_struck (c_X0_struck (X := X) hf7) hH [1, 2, 3, 4] rfl (by decide) rfl rfl rfl hl.1 rfl rfl (Nat.le_of_ble_eq_true rfl) dX6_alone_75 ⟨Nat.le_of_ble_eq_true rfl, Nat.le_of_ble_eq_true rfl⟩ ⟨rfl, rfl⟩ ⟨Nat.le_refl _, Nat.le_refl _⟩) rfl (fun hz7 => ?_)
          refine lv_ldc2 (v := (-1 : Int64)) hx hb hC.2.2.2.1 (hC.2.2.2.2.1 _ mw_768) dX6_alone_78 ?_
          refine lv_lxor hx hb dX6_alone_81 ?_
          refine lv_land hx hb dX6_alone_82 ?_
          refine lv_lstore_n (lv' := [(2, .long (s40.1 &&& (u7 ^^^ (-1 : Int64)))), (0, .ref h0), (1, .int p1), (4, .int s40.2)]) hx hb dX6_alone_83 rfl hl (by decide) rfl (fun ls hl => ?_)
          refine lv_iinc (v := s40.2 + (nI 1)) (lv' := [(4, .int (s40.2 + (nI 1))), (2, .long (s40.1 &&& (u7 ^^^ (-1 : Int64)))), (0, .ref h0), (1, .int p1)]) hx hb dX6_alone_84 hl (k := 3) rfl rfl (by decide) rfl (fun ls hl => ?_)
          refine lv_goto (tgt := 40) hx hb dX6_alone_87 (by decide) ?_
          have hf := xo_go hf ho40
          exact ih40 (s40.1 &&& (u7 ^^^ (-1 : Int64)), s40.2 + (nI 1)) hf _ _ hH ls (lv_sub hl [2, 3, 1, 0] rfl)
  refine lv_aload_n hx hb dX6_alone_0 rfl (lv_at hl 0 rfl) ?_
  refine x_get hC fd_RX6_10 hH.1 0 rfl rfl dX6_alone_1 ?_
  refine x_getN hC fd_RX6_81 hH.1 1 rfl rfl dX6_alone_4 ?_
  refine lv_iload_n hx hb dX6_alone_7 rfl (lv_at hl 1 rfl) ?_
  obtain ⟨u1, hf1, hf⟩ := xb hf
  refine x_ran (x_runV (q0 := 0) (rest := []) (As := [.int p1]) hC mw_226 md_X2_isThere (c_X2_isThere (X := X) hf1) hH [2] rfl (by decide) rfl rfl rfl hl.1 rfl rfl (Nat.le_of_ble_eq_true rfl) dX6_alone_8 ⟨Nat.le_of_ble_eq_true rfl, Nat.le_of_ble_eq_true rfl⟩ ⟨rfl, rfl⟩ ⟨Nat.le_refl _, Nat.le_refl _⟩) rfl (fun hz1 => ?_)
  refine lv_if_ne (tgt := 21) hx hb dX6_alone_11 (by decide) (fun c2 => ?_) (fun c2 => ?_)
  · have hf := xe c2 hf
    refine lv_aload_n hx hb dX6_alone_21 rfl (lv_at hl 0 rfl) ?_
    refine x_get hC fd_RX6_10 hH.1 0 rfl rfl dX6_alone_22 ?_
    refine lv_iload_n hx hb dX6_alone_25 rfl (lv_at hl 1 rfl) ?_
    refine lv_aload_n hx hb dX6_alone_26 rfl (lv_at hl 0 rfl) ?_
    refine x_get hC fd_RX6_10 hH.1 0 rfl rfl dX6_alone_27 ?_
    refine x_getN hC fd_RX6_120 hH.1 1 rfl rfl dX6_alone_30 ?_
    obtain ⟨u3, hf3, hf⟩ := xb hf
    refine x_ran (x_runV (q0 := 0) (rest := []) (As := [.int p1, .long v_now_ring]) hC mw_853 md_X0_struck (c_X0_struck (X := X) hf3) hH [1, 2, 3, 4] rfl (by decide) rfl rfl rfl hl.1 rfl rfl (Nat.le_of_ble_eq_true rfl) dX6_alone_33 ⟨Nat.le_of_ble_eq_true rfl, Nat.le_of_ble_eq_true rfl⟩ ⟨rfl, rfl⟩ ⟨Nat.le_refl _, Nat.le_refl _⟩) rfl (fun hz3 => ?_)
    refine lv_lstore_n (lv' := [(2, .long u3), (0, .ref h0), (1, .int p1)]) hx hb dX6_alone_36 rfl hl (by decide) rfl (fun ls hl => ?_)
    refine lv_iconst (v := (nI 0)) hx hb dX6_alone_37 (by decide) ?_
    refine lv_istore (lv' := [(4, .int (nI 0)), (2, .long u3), (0, .ref h0), (1, .int p1)]) hx hb dX6_alone_38 hl (by decide) rfl (fun ls hl => ?_)
    exact L40 xN (u3, (nI 0)) hf _ _ hH ls (lv_sub hl [2, 3, 1, 0] rfl)
  · have hf := xt c2 hf
    refine lv_aload_n hx hb dX6_alone_14 rfl (lv_at hl 0 rfl) ?_
    refine lv_bipush (v := (-2 : Int32)) hx hb dX6_alone_15 (by decide) ?_
    obtain ⟨u8, hf8, hf⟩ := xb hf
    refine x_ranw (ws' := [(h0, xO 6 [.ref h1, .ref g0, .ref g1, .ref g2, .ref h5, .int v_isKept]), (h1, xO 0 [.ref h2, .ref g3, .int v_now_inForce, .int v_now_depth, .int v_now_miss, .long v_now_ring, .int v_now_steps, .int v_now_seed]), (h2, xO 2 [.ref h3, .ref h4, .int v_now_laws_count]), (h3, xI X 6 v_now_laws_kinds), (h4, xI X 6 v_now_laws_tunes), (h5, xI X 5 u8.2)]) (x_runV (q0 := 0) (rest := []) (As := [.int (-2 : Int32)]) hC mw_100 md_X6_refuse (c_X6_refuse (X := X) hf8) hH [0, 5] rfl (by decide) rfl rfl rfl hl.1 rfl rfl (Nat.le_of_ble_eq_true rfl) dX6_alone_17 ⟨Nat.le_of_ble_eq_true rfl, Nat.le_of_ble_eq_true rfl⟩ ⟨rfl, rfl⟩ ⟨Nat.le_refl _, Nat.le_refl _⟩) hH [0, 5] rfl rfl rfl rfl rfl (fun hz8 H locs hH => ?_)
    exact x_retiw (φ := fun _ => True) (f := fun u : Int32 × (Nat → Int32) => u.1) (wf := fun u : Int32 × (Nat → Int32) => [(h0, xO 6 [.ref h1, .ref g0, .ref g1, .ref g2, .ref h5, .int v_isKept]), (h1, xO 0 [.ref h2, .ref g3, .int v_now_inForce, .int v_now_depth, .int v_now_miss, .long v_now_ring, .int v_now_steps, .int v_now_seed]), (h2, xO 2 [.ref h3, .ref h4, .int v_now_laws_count]), (h3, xI X 6 v_now_laws_kinds), (h4, xI X 6 v_now_laws_tunes), (h5, xI X 5 u.2)]) hC hr hlk trivial hf hH rfl rfl dX6_alone_20
def f_X6_busiest_L24 (v_now_ring : Int64) (v_now_steps : Int32) (v_now_laws_count : Int32) (v_now_laws_kinds : (Nat → Int32)) (v_now_laws_tunes : (Nat → Int32)) (v_refusals : (Nat → Int32)) (s24 : Int32 × Int32) : Option ((Int32 × (Nat → Int32)) ⊕ (Int32 × Int32)) :=
  if v_now_laws_count ≤ s24.2 then
    some (.inl (s24.1, v_refusals))
  else
  (f_X0_timesStruck v_now_steps v_now_laws_count v_now_laws_kinds v_now_laws_tunes s24.2 v_now_ring).bind fun u3 =>
  (f_X0_timesStruck v_now_steps v_now_laws_count v_now_laws_kinds v_now_laws_tunes s24.1 v_now_ring).bind fun u4 =>
  if u3 ≤ u4 then
    some (.inr (s24.1, s24.2 + (nI 1)))
  else
  some (.inr (s24.2, s24.2 + (nI 1)))
def f_X6_busiest (v_now_ring : Int64) (v_now_steps : Int32) (v_now_laws_count : Int32) (v_now_laws_kinds : (Nat → Int32)) (v_now_laws_tunes : (Nat → Int32)) (v_refusals : (Nat → Int32)) : Option (Int32 × (Nat → Int32)) :=
  if v_now_laws_count = (nI 0) then
    (f_X6_refuse v_refusals (-5 : Int32)).bind fun u6 =>
    some (u6.1, u6.2)
  else
  xloop (f_X6_busiest_L24 v_now_ring v_now_steps v_now_laws_count v_now_laws_kinds v_now_laws_tunes v_refusals) xN ((nI 0), (nI 1))
set_option maxHeartbeats 4000000 in
set_option maxRecDepth 100000 in
theorem c_X6_busiest {l : Launch} {X : xG} {h0 h1 h2 h3 h4 h5 g0 g1 g2 g3 : Nat} {v_isKept : Int32} {v_now_inForce : Int32} {v_now_depth : Int32} {v_now_miss : Int32} {v_now_ring : Int64} {v_now_steps : Int32} {v_now_seed : Int32} {v_now_laws_count : Int32} {v_now_laws_kinds : (Nat → Int32)} {v_now_laws_tunes : (Nat → Int32)} {v_refusals : (Nat → Int32)} {u : Int32 × (Nat → Int32)} (hf : f_X6_busiest v_now_ring v_now_steps v_now_laws_count v_now_laws_kinds v_now_laws_tunes v_refusals = some u) : Met l yX6_busiest (xw yX6_busiest cX6_busiest 3 (some .int)) (xrm 6 148) (xPc [.ref h0] X [(h0, xO 6 [.ref h1, .ref g0, .ref g1, .ref g2, .ref h5, .int v_isKept]), (h1, xO 0 [.ref h2, .ref g3, .int v_now_inForce, .int v_now_depth, .int v_now_miss, .long v_now_ring, .int v_now_steps, .int v_now_seed]), (h2, xO 2 [.ref h3, .ref h4, .int v_now_laws_count]), (h3, xI X 6 v_now_laws_kinds), (h4, xI X 6 v_now_laws_tunes), (h5, xI X 5 v_refusals)]) (xQw True (.returned (some (.int u.1))) X [(h0, xO 6 [.ref h1, .ref g0, .ref g1, .ref g2, .ref h5, .int v_isKept]), (h1, xO 0 [.ref h2, .ref g3, .int v_now_inForce, .int v_now_depth, .int v_now_miss, .long v_now_ring, .int v_now_steps, .int v_now_seed]), (h2, xO 2 [.ref h3, .ref h4, .int v_now_laws_count]), (h3, xI X 6 v_now_laws_kinds), (h4, xI X 6 v_now_laws_tunes), (h5, xI X 5 u.2)] (xAs [(h0, xO 6 [.ref h1, .ref g0, .ref g1, .ref g2, .ref h5, .int v_isKept]), (h1, xO 0 [.ref h2, .ref g3, .int v_now_inForce, .int v_now_depth, .int v_now_miss, .long v_now_ring, .int v_now_steps, .int v_now_seed]), (h2, xO 2 [.ref h3, .ref h4, .int v_now_laws_count]), (h3, xI X 6 v_now_laws_kinds), (h4, xI X 6 v_now_laws_tunes), (h5, xI X 5 v_refusals)])) 0 0 (xAs [(h0, xO 6 [.ref h1, .ref g0, .ref g1, .ref g2, .ref h5, .int v_isKept]), (h1, xO 0 [.ref h2, .ref g3, .int v_now_inForce, .int v_now_depth, .int v_now_miss, .long v_now_ring, .int v_now_steps, .int v_now_seed]), (h2, xO 2 [.ref h3, .ref h4, .int v_now_laws_count]), (h3, xI X 6 v_now_laws_kinds), (h4, xI X 6 v_now_laws_tunes), (h5, xI X 5 v_refusals)]) := by
  refine xMetw (Qc := fun A => xQw True (.returned (some (.int u.1))) X [(h0, xO 6 [.ref h1, .ref g0, .ref g1, .ref g2, .ref h5, .int v_isKept]), (h1, xO 0 [.ref h2, .ref g3, .int v_now_inForce, .int v_now_depth, .int v_now_miss, .long v_now_ring, .int v_now_steps, .int v_now_seed]), (h2, xO 2 [.ref h3, .ref h4, .int v_now_laws_count]), (h3, xI X 6 v_now_laws_kinds), (h4, xI X 6 v_now_laws_tunes), (h5, xI X 5 u.2)] A) (n := 0) md_X6_busiest.1 (Nat.le_of_ble_eq_true rfl) ?_
  intro p e s m args below meth c ls A hC hr hlk hH hl
  have hl : lv_has ls 3 [(0, .ref h0)] := hl
  have hx := hC.1
  have hb := hC.2.1
  have L24 : ∀ (n : Nat) (s24 : Int32 × Int32), xloop (f_X6_busiest_L24 v_now_ring v_now_steps v_now_laws_count v_now_laws_kinds v_now_laws_tunes v_refusals) n s24 = some u → ∀ (H : Heap) (locs : List Loc), xH X A [(h0, xO 6 [.ref h1, .ref g0, .ref g1, .ref g2, .ref h5, .int v_isKept]), (h1, xO 0 [.ref h2, .ref g3, .int v_now_inForce, .int v_now_depth, .int v_now_miss, .long v_now_ring, .int v_now_steps, .int v_now_seed]), (h2, xO 2 [.ref h3, .ref h4, .int v_now_laws_count]), (h3, xI X 6 v_now_laws_kinds), (h4, xI X 6 v_now_laws_tunes), (h5, xI X 5 v_refusals)] s.heap H locs → ∀ (ls : Array Slot), lv_has ls 3 [(0, .ref h0), (1, .int s24.1), (2, .int s24.2)] → W p l e (xrm 6 148) s m args below meth c H locs 0 0 (MQ below (xQw True (.returned (some (.int u.1))) X [(h0, xO 6 [.ref h1, .ref g0, .ref g1, .ref g2, .ref h5, .int v_isKept]), (h1, xO 0 [.ref h2, .ref g3, .int v_now_inForce, .int v_now_depth, .int v_now_miss, .long v_now_ring, .int v_now_steps, .int v_now_seed]), (h2, xO 2 [.ref h3, .ref h4, .int v_now_laws_count]), (h3, xI X 6 v_now_laws_kinds), (h4, xI X 6 v_now_laws_tunes), (h5, xI X 5 u.2)] A) args s 0 0 A) (F0 m 24 ls []) := by
    intro  n
    induction n with
    | zero => intro s24 hf; exact xloop_0 hf
    | succ n ih24 =>
      intro s24 hf H locs hH ls hl
      obtain ⟨o24, hf, ho24⟩ := xloop_s hf
      refine lv_iload_n hx hb dX6_busiest_24 rfl (lv_at hl 2 rfl) ?_
      refine lv_aload_n hx hb dX6_busiest_25 rfl (lv_at hl 0 rfl) ?_
      refine x_get hC fd_RX6_10 hH.1 0 rfl rfl dX6_busiest_26 ?_
      refine x_getN hC fd_RX6_81 hH.1 1 rfl rfl dX6_busiest_29 ?_
      refine x_getN hC fd_RX6_194 hH.1 2 rfl rfl dX6_busiest_32 ?_
      refine lv_icmp_ge (tgt := 79) hx hb dX6_busiest_35 (by decide) (fun c2 => ?_) (fun c2 => ?_)
      · have hf := xt c2 hf
        refine lv_iload_n hx hb dX6_busiest_79 rfl (lv_at hl 1 rfl) ?_
        have hf := xo_ret hf ho24
        exact x_retiw (φ := fun _ => True) (f := fun u : Int32 × (Nat → Int32) => u.1) (wf := fun u : Int32 × (Nat → Int32) => [(h0, xO 6 [.ref h1, .ref g0, .ref g1, .ref g2, .ref h5, .int v_isKept]), (h1, xO 0 [.ref h2, .ref g3, .int v_now_inForce, .int v_now_depth, .int v_now_miss, .long v_now_ring, .int v_now_steps, .int v_now_seed]), (h2, xO 2 [.ref h3, .ref h4, .int v_now_laws_count]), (h3, xI X 6 v_now_laws_kinds), (h4, xI X 6 v_now_laws_tunes), (h5, xI X 5 u.2)]) hC hr hlk trivial hf hH rfl rfl dX6_busiest_80
      · have hf := xe c2 hf
        refine lv_aload_n hx hb dX6_busiest_38 rfl (lv_at hl 0 rfl) ?_
        refine x_get hC fd_RX6_10 hH.1 0 rfl rfl dX6_busiest_39 ?_
        refine lv_iload_n hx hb dX6_busiest_42 rfl (lv_at hl 2 rfl) ?_
        refine lv_aload_n hx hb dX6_busiest_43 rfl (lv_at hl 0 rfl) ?_
        refine x_get hC fd_RX6_10 hH.1 0 rfl rfl dX6_busiest_44 ?_
        refine x_getN hC fd_RX6_120 hH.1 1 rfl rfl dX6_busiest_47 ?_
        obtain ⟨u3, hf3, hf⟩ := xb hf
        refine x_ran (x_runV (q0 := 0) (rest := []) (As := [.int s24.2, .long v_now_ring]) hC mw_269 md_X0_timesStruck (c_X0_timesStruck (X := X) hf3) hH [1, 2, 3, 4] rfl (by decide) rfl rfl rfl hl.1 rfl rfl (Nat.le_of_ble_eq_true rfl) dX6_busiest_50 ⟨Nat.le_of_ble_eq_true rfl, Nat.le_of_ble_eq_true rfl⟩ ⟨rfl, rfl⟩ ⟨Nat.le_refl _, Nat.le_refl _⟩) rfl (fun hz3 => ?_)
        refine lv_aload_n hx hb dX6_busiest_53 rfl (lv_at hl 0 rfl) ?_
        refine x_get hC fd_RX6_10 hH.1 0 rfl rfl dX6_busiest_54 ?_
        refine lv_iload_n hx hb dX6_busiest_57 rfl (lv_at hl 1 rfl) ?_
        refine lv_aload_n hx hb dX6_busiest_58 rfl (lv_at hl 0 rfl) ?_
        refine x_get hC fd_RX6_10 hH.1 0 rfl rfl dX6_busiest_59 ?_
        refine x_getN hC fd_RX6_120 hH.1 1 rfl rfl dX6_busiest_62 ?_
        obtain ⟨u4, hf4, hf⟩ := xb hf
        refine x_ran (x_runV (q0 := 0) (rest := [.int u3]) (As := [.int s24.1, .long v_now_ring]) hC mw_269 md_X0_timesStruck (c_X0_timesStruck (X := X) hf4) hH [1, 2, 3, 4] rfl (by decide) rfl rfl rfl hl.1 rfl rfl (Nat.le_of_ble_eq_true rfl) dX6_busiest_65 ⟨Nat.le_of_ble_eq_true rfl, Nat.le_of_ble_eq_true rfl⟩ ⟨rfl, rfl⟩ ⟨Nat.le_refl _, Nat.le_refl _⟩) rfl (fun hz4 => ?_)
        refine lv_icmp_le (tgt := 73) hx hb dX6_busiest_68 (by decide) (fun c5 => ?_) (fun c5 => ?_)
        · have hf := xt c5 hf
          refine lv_iinc (v := s24.2 + (nI 1)) (lv' := [(2, .int (s24.2 + (nI 1))), (0, .ref h0), (1, .int s24.1)]) hx hb dX6_busiest_73 hl (k := 2) rfl rfl (by decide) rfl (fun ls hl => ?_)
          refine lv_goto (tgt := 24) hx hb dX6_busiest_76 (by decide) ?_
          have hf := xo_go hf ho24
          exact ih24 (s24.1, s24.2 + (nI 1)) hf _ _ hH ls (lv_sub hl [1, 2, 0] rfl)
        · have hf := xe c5 hf
          refine lv_iload_n hx hb dX6_busiest_71 rfl (lv_at hl 2 rfl) ?_
          refine lv_istore_n (lv' := [(1, .int s24.2), (0, .ref h0), (2, .int s24.2)]) hx hb dX6_busiest_72 rfl hl (by decide) rfl (fun ls hl => ?_)
          refine lv_iinc (v := s24.2 + (nI 1)) (lv' := [(2, .int (s24.2 + (nI 1))), (1, .int s24.2), (0, .ref h0)]) hx hb dX6_busiest_73 hl (k := 2) rfl rfl (by decide) rfl (fun ls hl => ?_)
          refine lv_goto (tgt := 24) hx hb dX6_busiest_76 (by decide) ?_
          have hf := xo_go hf ho24
          exact ih24 (s24.2, s24.2 + (nI 1)) hf _ _ hH ls (lv_sub hl [2, 1, 0] rfl)
  refine lv_aload_n hx hb dX6_busiest_0 rfl (lv_at hl 0 rfl) ?_
  refine x_get hC fd_RX6_10 hH.1 0 rfl rfl dX6_busiest_1 ?_
  refine x_getN hC fd_RX6_81 hH.1 1 rfl rfl dX6_busiest_4 ?_
  refine x_getN hC fd_RX6_194 hH.1 2 rfl rfl dX6_busiest_7 ?_
  refine lv_if_ne (tgt := 20) hx hb dX6_busiest_10 (by decide) (fun c1 => ?_) (fun c1 => ?_)
  · have hf := xe c1 hf
    refine lv_iconst (v := (nI 0)) hx hb dX6_busiest_20 (by decide) ?_
    refine lv_istore_n (lv' := [(1, .int (nI 0)), (0, .ref h0)]) hx hb dX6_busiest_21 rfl hl (by decide) rfl (fun ls hl => ?_)
    refine lv_iconst (v := (nI 1)) hx hb dX6_busiest_22 (by decide) ?_
    refine lv_istore_n (lv' := [(2, .int (nI 1)), (1, .int (nI 0)), (0, .ref h0)]) hx hb dX6_busiest_23 rfl hl (by decide) rfl (fun ls hl => ?_)
    exact L24 xN ((nI 0), (nI 1)) hf _ _ hH ls (lv_sub hl [2, 1, 0] rfl)
  · have hf := xt c1 hf
    refine lv_aload_n hx hb dX6_busiest_13 rfl (lv_at hl 0 rfl) ?_
    refine lv_bipush (v := (-5 : Int32)) hx hb dX6_busiest_14 (by decide) ?_
    obtain ⟨u6, hf6, hf⟩ := xb hf
    refine x_ranw (ws' := [(h0, xO 6 [.ref h1, .ref g0, .ref g1, .ref g2, .ref h5, .int v_isKept]), (h1, xO 0 [.ref h2, .ref g3, .int v_now_inForce, .int v_now_depth, .int v_now_miss, .long v_now_ring, .int v_now_steps, .int v_now_seed]), (h2, xO 2 [.ref h3, .ref h4, .int v_now_laws_count]), (h3, xI X 6 v_now_laws_kinds), (h4, xI X 6 v_now_laws_tunes), (h5, xI X 5 u6.2)]) (x_runV (q0 := 0) (rest := []) (As := [.int (-5 : Int32)]) hC mw_100 md_X6_refuse (c_X6_refuse (X := X) hf6) hH [0, 5] rfl (by decide) rfl rfl rfl hl.1 rfl rfl (Nat.le_of_ble_eq_true rfl) dX6_busiest_16 ⟨Nat.le_of_ble_eq_true rfl, Nat.le_of_ble_eq_true rfl⟩ ⟨rfl, rfl⟩ ⟨Nat.le_refl _, Nat.le_refl _⟩) hH [0, 5] rfl rfl rfl rfl rfl (fun hz6 H locs hH => ?_)
    exact x_retiw (φ := fun _ => True) (f := fun u : Int32 × (Nat → Int32) => u.1) (wf := fun u : Int32 × (Nat → Int32) => [(h0, xO 6 [.ref h1, .ref g0, .ref g1, .ref g2, .ref h5, .int v_isKept]), (h1, xO 0 [.ref h2, .ref g3, .int v_now_inForce, .int v_now_depth, .int v_now_miss, .long v_now_ring, .int v_now_steps, .int v_now_seed]), (h2, xO 2 [.ref h3, .ref h4, .int v_now_laws_count]), (h3, xI X 6 v_now_laws_kinds), (h4, xI X 6 v_now_laws_tunes), (h5, xI X 5 u.2)]) hC hr hlk trivial hf hH rfl rfl dX6_busiest_19
def f_X6_areTriedSteps (p0 : Int32) (p1 : Int32) : Option (Int32) :=
  (f_X6_isWithin p0 (nI 1) (nI 12)).bind fun u1 =>
  if u1 = (nI 0) then
    some (nI 0)
  else
  (f_X6_isSetOf p1 p0).bind fun u3 =>
  if u3 = (nI 0) then
    some (nI 0)
  else
  some (nI 1)
set_option maxHeartbeats 4000000 in
set_option maxRecDepth 100000 in
theorem c_X6_areTriedSteps {l : Launch} {X : xG} {p0 : Int32} {p1 : Int32} {u : Int32} (hf : f_X6_areTriedSteps p0 p1 = some u) : Met l yX6_areTriedSteps (xw yX6_areTriedSteps cX6_areTriedSteps 2 (some .boolean)) (xrm 1 22) (xPc [.int p0, .int p1] X []) (xQ (u = 0 ∨ u = 1) (.returned (some (.int u)))) 0 0 xNo := by
  refine xMet (n := 2) md_X6_areTriedSteps.1 (Nat.le_of_ble_eq_true rfl) ?_
  intro p e s m args below meth c ls A hC hr hlk hH hl
  have hl : lv_has ls 2 [(0, .int p0), (1, .int p1)] := hl
  have hx := hC.1
  have hb := hC.2.1
  refine lv_iload_n hx hb dX6_areTriedSteps_0 rfl (lv_at hl 0 rfl) ?_
  refine lv_iconst (v := (nI 1)) hx hb dX6_areTriedSteps_1 (by decide) ?_
  refine lv_bipush (v := (nI 12)) hx hb dX6_areTriedSteps_2 (by decide) ?_
  obtain ⟨u1, hf1, hf⟩ := xb hf
  refine x_ran (x_runS (rest := []) (As := [.int p0, .int (nI 1), .int (nI 12)]) hC mw_99 md_X6_isWithin (c_X6_isWithin (X := X) hf1) hH [] rfl (by decide) hl.1 rfl rfl (Nat.le_of_ble_eq_true rfl) dX6_areTriedSteps_4 ⟨Nat.le_of_ble_eq_true rfl, Nat.le_of_ble_eq_true rfl⟩ ⟨rfl, rfl⟩ ⟨Nat.le_refl _, Nat.le_refl _⟩) rfl (fun hz1 => ?_)
  refine lv_if_eq (tgt := 22) hx hb dX6_areTriedSteps_7 (by decide) (fun c2 => ?_) (fun c2 => ?_)
  · have hf := xt c2 hf
    refine lv_iconst (v := (nI 0)) hx hb dX6_areTriedSteps_22 (by decide) ?_
    exact x_retz hC hr hlk (Or.inl rfl) hf dX6_areTriedSteps_23
  · have hf := xe c2 hf
    refine lv_iload_n hx hb dX6_areTriedSteps_10 rfl (lv_at hl 1 rfl) ?_
    refine lv_iload_n hx hb dX6_areTriedSteps_11 rfl (lv_at hl 0 rfl) ?_
    obtain ⟨u3, hf3, hf⟩ := xb hf
    refine x_ran (x_runS (rest := []) (As := [.int p1, .int p0]) hC mw_910 md_X6_isSetOf (c_X6_isSetOf (X := X) hf3) hH [] rfl (by decide) hl.1 rfl rfl (Nat.le_of_ble_eq_true rfl) dX6_areTriedSteps_12 ⟨Nat.le_of_ble_eq_true rfl, Nat.le_of_ble_eq_true rfl⟩ ⟨rfl, rfl⟩ ⟨Nat.le_refl _, Nat.le_refl _⟩) rfl (fun hz3 => ?_)
    refine lv_if_eq (tgt := 22) hx hb dX6_areTriedSteps_15 (by decide) (fun c4 => ?_) (fun c4 => ?_)
    · have hf := xt c4 hf
      refine lv_iconst (v := (nI 0)) hx hb dX6_areTriedSteps_22 (by decide) ?_
      exact x_retz hC hr hlk (Or.inl rfl) hf dX6_areTriedSteps_23
    · have hf := xe c4 hf
      refine lv_iconst (v := (nI 1)) hx hb dX6_areTriedSteps_18 (by decide) ?_
      refine lv_goto (tgt := 23) hx hb dX6_areTriedSteps_19 (by decide) ?_
      exact x_retz hC hr hlk (Or.inr rfl) hf dX6_areTriedSteps_23
def f_X6_lawFor_L25 (v_now_laws_count : Int32) (v_now_laws_kinds : (Nat → Int32)) (v_now_laws_tunes : (Nat → Int32)) (v_refusals : (Nat → Int32)) (p1 : Int32) (p2 : Int32) (s25 : Int32 × Int32 × Int32) : Option ((Int32 × (Nat → Int32)) ⊕ (Int32 × Int32 × Int32)) :=
  if v_now_laws_count ≤ s25.2.2 then
    some (.inl (s25.1, v_refusals))
  else
  (f_X2_leastRingStruckAt v_now_laws_count v_now_laws_kinds v_now_laws_tunes s25.2.2 p1 p2).bind fun u4 =>
  if u4 = (-1 : Int32) then
    some (.inr (s25.1, s25.2.1, s25.2.2 + (nI 1)))
  else
  (f_J6_bitCount_0f7a4 u4).bind fun u6 =>
  if s25.2.1 ≤ u6 then
    some (.inr (s25.1, s25.2.1, s25.2.2 + (nI 1)))
  else
  (f_J6_bitCount_0f7a4 u4).bind fun u8 =>
  some (.inr (s25.2.2, u8, s25.2.2 + (nI 1)))
def f_X6_lawFor (v_now_laws_count : Int32) (v_now_laws_kinds : (Nat → Int32)) (v_now_laws_tunes : (Nat → Int32)) (v_refusals : (Nat → Int32)) (p1 : Int32) (p2 : Int32) : Option (Int32 × (Nat → Int32)) :=
  (f_X6_areTriedSteps p1 p2).bind fun u1 =>
  if u1 = (nI 0) then
    (f_X6_refuse v_refusals (-2 : Int32)).bind fun u9 =>
    some (u9.1, u9.2)
  else
  xloop (f_X6_lawFor_L25 v_now_laws_count v_now_laws_kinds v_now_laws_tunes v_refusals p1 p2) xN ((-1 : Int32), p1 + (nI 1), (nI 0))
set_option maxHeartbeats 4000000 in
set_option maxRecDepth 100000 in
theorem c_X6_lawFor {l : Launch} {X : xG} {h0 h1 h2 h3 h4 h5 g0 g1 g2 g3 : Nat} {v_isKept : Int32} {v_now_inForce : Int32} {v_now_depth : Int32} {v_now_miss : Int32} {v_now_ring : Int64} {v_now_steps : Int32} {v_now_seed : Int32} {v_now_laws_count : Int32} {v_now_laws_kinds : (Nat → Int32)} {v_now_laws_tunes : (Nat → Int32)} {v_refusals : (Nat → Int32)} {p1 : Int32} {p2 : Int32} {u : Int32 × (Nat → Int32)} (hf : f_X6_lawFor v_now_laws_count v_now_laws_kinds v_now_laws_tunes v_refusals p1 p2 = some u) : Met l yX6_lawFor (xw yX6_lawFor cX6_lawFor 7 (some .int)) (xrm 5 127) (xPc [.ref h0, .int p1, .int p2] X [(h0, xO 6 [.ref h1, .ref g0, .ref g1, .ref g2, .ref h5, .int v_isKept]), (h1, xO 0 [.ref h2, .ref g3, .int v_now_inForce, .int v_now_depth, .int v_now_miss, .long v_now_ring, .int v_now_steps, .int v_now_seed]), (h2, xO 2 [.ref h3, .ref h4, .int v_now_laws_count]), (h3, xI X 6 v_now_laws_kinds), (h4, xI X 6 v_now_laws_tunes), (h5, xI X 5 v_refusals)]) (xQw True (.returned (some (.int u.1))) X [(h0, xO 6 [.ref h1, .ref g0, .ref g1, .ref g2, .ref h5, .int v_isKept]), (h1, xO 0 [.ref h2, .ref g3, .int v_now_inForce, .int v_now_depth, .int v_now_miss, .long v_now_ring, .int v_now_steps, .int v_now_seed]), (h2, xO 2 [.ref h3, .ref h4, .int v_now_laws_count]), (h3, xI X 6 v_now_laws_kinds), (h4, xI X 6 v_now_laws_tunes), (h5, xI X 5 u.2)] (xAs [(h0, xO 6 [.ref h1, .ref g0, .ref g1, .ref g2, .ref h5, .int v_isKept]), (h1, xO 0 [.ref h2, .ref g3, .int v_now_inForce, .int v_now_depth, .int v_now_miss, .long v_now_ring, .int v_now_steps, .int v_now_seed]), (h2, xO 2 [.ref h3, .ref h4, .int v_now_laws_count]), (h3, xI X 6 v_now_laws_kinds), (h4, xI X 6 v_now_laws_tunes), (h5, xI X 5 v_refusals)])) 0 0 (xAs [(h0, xO 6 [.ref h1, .ref g0, .ref g1, .ref g2, .ref h5, .int v_isKept]), (h1, xO 0 [.ref h2, .ref g3, .int v_now_inForce, .int v_now_depth, .int v_now_miss, .long v_now_ring, .int v_now_steps, .int v_now_seed]), (h2, xO 2 [.ref h3, .ref h4, .int v_now_laws_count]), (h3, xI X 6 v_now_laws_kinds), (h4, xI X 6 v_now_laws_tunes), (h5, xI X 5 v_refusals)]) := by
  refine xMetw (Qc := fun A => xQw True (.returned (some (.int u.1))) X [(h0, xO 6 [.ref h1, .ref g0, .ref g1, .ref g2, .ref h5, .int v_isKept]), (h1, xO 0 [.ref h2, .ref g3, .int v_now_inForce, .int v_now_depth, .int v_now_miss, .long v_now_ring, .int v_now_steps, .int v_now_seed]), (h2, xO 2 [.ref h3, .ref h4, .int v_now_laws_count]), (h3, xI X 6 v_now_laws_kinds), (h4, xI X 6 v_now_laws_tunes), (h5, xI X 5 u.2)] A) (n := 2) md_X6_lawFor.1 (Nat.le_of_ble_eq_true rfl) ?_
  intro p e s m args below meth c ls A hC hr hlk hH hl
  have hl : lv_has ls 7 [(0, .ref h0), (1, .int p1), (2, .int p2)] := hl
  have hx := hC.1
  have hb := hC.2.1
  have L25 : ∀ (n : Nat) (s25 : Int32 × Int32 × Int32), xloop (f_X6_lawFor_L25 v_now_laws_count v_now_laws_kinds v_now_laws_tunes v_refusals p1 p2) n s25 = some u → ∀ (H : Heap) (locs : List Loc), xH X A [(h0, xO 6 [.ref h1, .ref g0, .ref g1, .ref g2, .ref h5, .int v_isKept]), (h1, xO 0 [.ref h2, .ref g3, .int v_now_inForce, .int v_now_depth, .int v_now_miss, .long v_now_ring, .int v_now_steps, .int v_now_seed]), (h2, xO 2 [.ref h3, .ref h4, .int v_now_laws_count]), (h3, xI X 6 v_now_laws_kinds), (h4, xI X 6 v_now_laws_tunes), (h5, xI X 5 v_refusals)] s.heap H locs → ∀ (ls : Array Slot), lv_has ls 7 [(0, .ref h0), (1, .int p1), (2, .int p2), (3, .int s25.1), (4, .int s25.2.1), (5, .int s25.2.2)] → W p l e (xrm 5 127) s m args below meth c H locs 0 0 (MQ below (xQw True (.returned (some (.int u.1))) X [(h0, xO 6 [.ref h1, .ref g0, .ref g1, .ref g2, .ref h5, .int v_isKept]), (h1, xO 0 [.ref h2, .ref g3, .int v_now_inForce, .int v_now_depth, .int v_now_miss, .long v_now_ring, .int v_now_steps, .int v_now_seed]), (h2, xO 2 [.ref h3, .ref h4, .int v_now_laws_count]), (h3, xI X 6 v_now_laws_kinds), (h4, xI X 6 v_now_laws_tunes), (h5, xI X 5 u.2)] A) args s 0 0 A) (F0 m 25 ls []) := by
    intro  n
    induction n with
    | zero => intro s25 hf; exact xloop_0 hf
    | succ n ih25 =>
      intro s25 hf H locs hH ls hl
      obtain ⟨o25, hf, ho25⟩ := xloop_s hf
      refine lv_iload hx hb dX6_lawFor_25 (lv_at hl 5 rfl) ?_
      refine lv_aload_n hx hb dX6_lawFor_27 rfl (lv_at hl 0 rfl) ?_
      refine x_get hC fd_RX6_10 hH.1 0 rfl rfl dX6_lawFor_28 ?_
      refine x_getN hC fd_RX6_81 hH.1 1 rfl rfl dX6_lawFor_31 ?_
      refine x_getN hC fd_RX6_194 hH.1 2 rfl rfl dX6_lawFor_34 ?_
      refine lv_icmp_ge (tgt := 88) hx hb dX6_lawFor_37 (by decide) (fun c3 => ?_) (fun c3 => ?_)
      · have hf := xt c3 hf
        refine lv_iload_n hx hb dX6_lawFor_88 rfl (lv_at hl 3 rfl) ?_
        have hf := xo_ret hf ho25
        exact x_retiw (φ := fun _ => True) (f := fun u : Int32 × (Nat → Int32) => u.1) (wf := fun u : Int32 × (Nat → Int32) => [(h0, xO 6 [.ref h1, .ref g0, .ref g1, .ref g2, .ref h5, .int v_isKept]), (h1, xO 0 [.ref h2, .ref g3, .int v_now_inForce, .int v_now_depth, .int v_now_miss, .long v_now_ring, .int v_now_steps, .int v_now_seed]), (h2, xO 2 [.ref h3, .ref h4, .int v_now_laws_count]), (h3, xI X 6 v_now_laws_kinds), (h4, xI X 6 v_now_laws_tunes), (h5, xI X 5 u.2)]) hC hr hlk trivial hf hH rfl rfl dX6_lawFor_89
      · have hf := xe c3 hf
        refine lv_aload_n hx hb dX6_lawFor_40 rfl (lv_at hl 0 rfl) ?_
        refine x_get hC fd_RX6_10 hH.1 0 rfl rfl dX6_lawFor_41 ?_
        refine x_getN hC fd_RX6_81 hH.1 1 rfl rfl dX6_lawFor_44 ?_
        refine lv_iload hx hb dX6_lawFor_47 (lv_at hl 5 rfl) ?_
        refine lv_iload_n hx hb dX6_lawFor_49 rfl (lv_at hl 1 rfl) ?_
        refine lv_iload_n hx hb dX6_lawFor_50 rfl (lv_at hl 2 rfl) ?_
        obtain ⟨u4, hf4, hf⟩ := xb hf
        refine x_ran (x_runV (q0 := 0) (rest := []) (As := [.int s25.2.2, .int p1, .int p2]) hC mw_945 md_X2_leastRingStruckAt (c_X2_leastRingStruckAt (X := X) hf4) hH [2, 3, 4] rfl (by decide) rfl rfl rfl hl.1 rfl rfl (Nat.le_of_ble_eq_true rfl) dX6_lawFor_51 ⟨Nat.le_of_ble_eq_true rfl, Nat.le_of_ble_eq_true rfl⟩ ⟨rfl, rfl⟩ ⟨Nat.le_refl _, Nat.le_refl _⟩) rfl (fun hz4 => ?_)
        refine lv_istore (lv' := [(6, .int u4), (0, .ref h0), (1, .int p1), (2, .int p2), (3, .int s25.1), (4, .int s25.2.1), (5, .int s25.2.2)]) hx hb dX6_lawFor_54 hl (by decide) rfl (fun ls hl => ?_)
        refine lv_iload hx hb dX6_lawFor_56 (lv_at hl 0 rfl) ?_
        refine lv_iconst (v := (-1 : Int32)) hx hb dX6_lawFor_58 (by decide) ?_
        refine lv_icmp_eq (tgt := 82) hx hb dX6_lawFor_59 (by decide) (fun c5 => ?_) (fun c5 => ?_)
        · have hf := xt c5 hf
          refine lv_iinc (v := s25.2.2 + (nI 1)) (lv' := [(5, .int (s25.2.2 + (nI 1))), (6, .int u4), (0, .ref h0), (1, .int p1), (2, .int p2), (3, .int s25.1), (4, .int s25.2.1)]) hx hb dX6_lawFor_82 hl (k := 6) rfl rfl (by decide) rfl (fun ls hl => ?_)
          refine lv_goto (tgt := 25) hx hb dX6_lawFor_85 (by decide) ?_
          have hf := xo_go hf ho25
          exact ih25 (s25.1, s25.2.1, s25.2.2 + (nI 1)) hf _ _ hH ls (lv_sub hl [2, 3, 4, 5, 6, 0] rfl)
        · have hf := xe c5 hf
          refine lv_iload hx hb dX6_lawFor_62 (lv_at hl 0 rfl) ?_
          obtain ⟨u6, hf6, hf⟩ := xb hf
          refine x_ran (x_runS (rest := []) (As := [.int u4]) hC mw_959 md_J6_bitCount_0f7a4 (c_J6_bitCount_0f7a4 (X := X) hf6) hH [] rfl (by decide) hl.1 rfl rfl (Nat.le_of_ble_eq_true rfl) dX6_lawFor_64 ⟨Nat.le_of_ble_eq_true rfl, Nat.le_of_ble_eq_true rfl⟩ ⟨rfl, rfl⟩ ⟨Nat.le_refl _, Nat.le_refl _⟩) rfl (fun hz6 => ?_)
          refine lv_iload hx hb dX6_lawFor_67 (lv_at hl 5 rfl) ?_
          refine lv_icmp_ge (tgt := 82) hx hb dX6_lawFor_69 (by decide) (fun c7 => ?_) (fun c7 => ?_)
          · have hf := xt c7 hf
            refine lv_iinc (v := s25.2.2 + (nI 1)) (lv' := [(5, .int (s25.2.2 + (nI 1))), (6, .int u4), (0, .ref h0), (1, .int p1), (2, .int p2), (3, .int s25.1), (4, .int s25.2.1)]) hx hb dX6_lawFor_82 hl (k := 6) rfl rfl (by decide) rfl (fun ls hl => ?_)
            refine lv_goto (tgt := 25) hx hb dX6_lawFor_85 (by decide) ?_
            have hf := xo_go hf ho25
            exact ih25 (s25.1, s25.2.1, s25.2.2 + (nI 1)) hf _ _ hH ls (lv_sub hl [2, 3, 4, 5, 6, 0] rfl)
          · have hf := xe c7 hf
            refine lv_iload hx hb dX6_lawFor_72 (lv_at hl 6 rfl) ?_
            refine lv_istore_n (lv' := [(3, .int s25.2.2), (6, .int u4), (0, .ref h0), (1, .int p1), (2, .int p2), (4, .int s25.2.1), (5, .int s25.2.2)]) hx hb dX6_lawFor_74 rfl hl (by decide) rfl (fun ls hl => ?_)
            refine lv_iload hx hb dX6_lawFor_75 (lv_at hl 1 rfl) ?_
            obtain ⟨u8, hf8, hf⟩ := xb hf
            refine x_ran (x_runS (rest := []) (As := [.int u4]) hC mw_959 md_J6_bitCount_0f7a4 (c_J6_bitCount_0f7a4 (X := X) hf8) hH [] rfl (by decide) hl.1 rfl rfl (Nat.le_of_ble_eq_true rfl) dX6_lawFor_77 ⟨Nat.le_of_ble_eq_true rfl, Nat.le_of_ble_eq_true rfl⟩ ⟨rfl, rfl⟩ ⟨Nat.le_refl _, Nat.le_refl _⟩) rfl (fun hz8 => ?_)
            refine lv_istore (lv' := [(4, .int u8), (3, .int s25.2.2), (6, .int u4), (0, .ref h0), (1, .int p1), (2, .int p2), (5, .int s25.2.2)]) hx hb dX6_lawFor_80 hl (by decide) rfl (fun ls hl => ?_)
            refine lv_iinc (v := s25.2.2 + (nI 1)) (lv' := [(5, .int (s25.2.2 + (nI 1))), (4, .int u8), (3, .int s25.2.2), (6, .int u4), (0, .ref h0), (1, .int p1), (2, .int p2)]) hx hb dX6_lawFor_82 hl (k := 6) rfl rfl (by decide) rfl (fun ls hl => ?_)
            refine lv_goto (tgt := 25) hx hb dX6_lawFor_85 (by decide) ?_
            have hf := xo_go hf ho25
            exact ih25 (s25.2.2, u8, s25.2.2 + (nI 1)) hf _ _ hH ls (lv_sub hl [4, 5, 6, 2, 1, 0] rfl)
  refine lv_iload_n hx hb dX6_lawFor_0 rfl (lv_at hl 1 rfl) ?_
  refine lv_iload_n hx hb dX6_lawFor_1 rfl (lv_at hl 2 rfl) ?_
  obtain ⟨u1, hf1, hf⟩ := xb hf
  refine x_ran (x_runS (rest := []) (As := [.int p1, .int p2]) hC mw_942 md_X6_areTriedSteps (c_X6_areTriedSteps (X := X) hf1) hH [] rfl (by decide) hl.1 rfl rfl (Nat.le_of_ble_eq_true rfl) dX6_lawFor_2 ⟨Nat.le_of_ble_eq_true rfl, Nat.le_of_ble_eq_true rfl⟩ ⟨rfl, rfl⟩ ⟨Nat.le_refl _, Nat.le_refl _⟩) rfl (fun hz1 => ?_)
  refine lv_if_ne (tgt := 15) hx hb dX6_lawFor_5 (by decide) (fun c2 => ?_) (fun c2 => ?_)
  · have hf := xe c2 hf
    refine lv_iconst (v := (-1 : Int32)) hx hb dX6_lawFor_15 (by decide) ?_
    refine lv_istore_n (lv' := [(3, .int (-1 : Int32)), (0, .ref h0), (1, .int p1), (2, .int p2)]) hx hb dX6_lawFor_16 rfl hl (by decide) rfl (fun ls hl => ?_)
    refine lv_iload_n hx hb dX6_lawFor_17 rfl (lv_at hl 2 rfl) ?_
    refine lv_iconst (v := (nI 1)) hx hb dX6_lawFor_18 (by decide) ?_
    refine lv_iadd hx hb dX6_lawFor_19 ?_
    refine lv_istore (lv' := [(4, .int (p1 + (nI 1))), (3, .int (-1 : Int32)), (0, .ref h0), (1, .int p1), (2, .int p2)]) hx hb dX6_lawFor_20 hl (by decide) rfl (fun ls hl => ?_)
    refine lv_iconst (v := (nI 0)) hx hb dX6_lawFor_22 (by decide) ?_
    refine lv_istore (lv' := [(5, .int (nI 0)), (4, .int (p1 + (nI 1))), (3, .int (-1 : Int32)), (0, .ref h0), (1, .int p1), (2, .int p2)]) hx hb dX6_lawFor_23 hl (by decide) rfl (fun ls hl => ?_)
    exact L25 xN ((-1 : Int32), p1 + (nI 1), (nI 0)) hf _ _ hH ls (lv_sub hl [3, 4, 5, 2, 1, 0] rfl)
  · have hf := xt c2 hf
    refine lv_aload_n hx hb dX6_lawFor_8 rfl (lv_at hl 0 rfl) ?_
    refine lv_bipush (v := (-2 : Int32)) hx hb dX6_lawFor_9 (by decide) ?_
    obtain ⟨u9, hf9, hf⟩ := xb hf
    refine x_ranw (ws' := [(h0, xO 6 [.ref h1, .ref g0, .ref g1, .ref g2, .ref h5, .int v_isKept]), (h1, xO 0 [.ref h2, .ref g3, .int v_now_inForce, .int v_now_depth, .int v_now_miss, .long v_now_ring, .int v_now_steps, .int v_now_seed]), (h2, xO 2 [.ref h3, .ref h4, .int v_now_laws_count]), (h3, xI X 6 v_now_laws_kinds), (h4, xI X 6 v_now_laws_tunes), (h5, xI X 5 u9.2)]) (x_runV (q0 := 0) (rest := []) (As := [.int (-2 : Int32)]) hC mw_100 md_X6_refuse (c_X6_refuse (X := X) hf9) hH [0, 5] rfl (by decide) rfl rfl rfl hl.1 rfl rfl (Nat.le_of_ble_eq_true rfl) dX6_lawFor_11 ⟨Nat.le_of_ble_eq_true rfl, Nat.le_of_ble_eq_true rfl⟩ ⟨rfl, rfl⟩ ⟨Nat.le_refl _, Nat.le_refl _⟩) hH [0, 5] rfl rfl rfl rfl rfl (fun hz9 H locs hH => ?_)
    exact x_retiw (φ := fun _ => True) (f := fun u : Int32 × (Nat → Int32) => u.1) (wf := fun u : Int32 × (Nat → Int32) => [(h0, xO 6 [.ref h1, .ref g0, .ref g1, .ref g2, .ref h5, .int v_isKept]), (h1, xO 0 [.ref h2, .ref g3, .int v_now_inForce, .int v_now_depth, .int v_now_miss, .long v_now_ring, .int v_now_steps, .int v_now_seed]), (h2, xO 2 [.ref h3, .ref h4, .int v_now_laws_count]), (h3, xI X 6 v_now_laws_kinds), (h4, xI X 6 v_now_laws_tunes), (h5, xI X 5 u.2)]) hC hr hlk trivial hf hH rfl rfl dX6_lawFor_14
def f_X6_refusalOfHeardRow (v_now_steps : Int32) (v_shelves_held : (Nat → Int32)) (v_shelves_sizes : (Nat → Int32)) (p1 : Int32) : Option (Int32) :=
  (f_X6_refusalOfRow v_shelves_held p1).bind fun u1 =>
  if u1 = (nI 0) then
    (f_X4_sizeOf v_shelves_sizes p1).bind fun u3 =>
    if v_now_steps ≤ u3 then
      some u1
    else
    some (-2 : Int32)
  else
  some u1
set_option maxHeartbeats 4000000 in
set_option maxRecDepth 100000 in
theorem c_X6_refusalOfHeardRow {l : Launch} {X : xG} {h0 h1 h2 h3 h4 g0 g1 g2 g3 g4 g5 : Nat} {v_isKept : Int32} {v_now_inForce : Int32} {v_now_depth : Int32} {v_now_miss : Int32} {v_now_ring : Int64} {v_now_steps : Int32} {v_now_seed : Int32} {v_shelves_held : (Nat → Int32)} {v_shelves_sizes : (Nat → Int32)} {p1 : Int32} {u : Int32} (hf : f_X6_refusalOfHeardRow v_now_steps v_shelves_held v_shelves_sizes p1 = some u) : Met l yX6_refusalOfHeardRow (xw yX6_refusalOfHeardRow cX6_refusalOfHeardRow 3 (some .int)) (xrm 4 85) (xPc [.ref h0, .int p1] X [(h0, xO 6 [.ref h1, .ref g0, .ref g1, .ref h2, .ref g2, .int v_isKept]), (h1, xO 0 [.ref g3, .ref g4, .int v_now_inForce, .int v_now_depth, .int v_now_miss, .long v_now_ring, .int v_now_steps, .int v_now_seed]), (h2, xO 4 [.ref h3, .ref h4, .ref g5]), (h3, xI X 8 v_shelves_held), (h4, xI X 8 v_shelves_sizes)]) (xQ True (.returned (some (.int u)))) 0 0 xNo := by
  refine xMet (n := 1) md_X6_refusalOfHeardRow.1 (Nat.le_of_ble_eq_true rfl) ?_
  intro p e s m args below meth c ls A hC hr hlk hH hl
  have hl : lv_has ls 3 [(0, .ref h0), (1, .int p1)] := hl
  have hx := hC.1
  have hb := hC.2.1
  refine lv_aload_n hx hb dX6_refusalOfHeardRow_0 rfl (lv_at hl 0 rfl) ?_
  refine lv_iload_n hx hb dX6_refusalOfHeardRow_1 rfl (lv_at hl 1 rfl) ?_
  obtain ⟨u1, hf1, hf⟩ := xb hf
  refine x_ran (x_runV (q0 := 0) (rest := []) (As := [.int p1]) hC mw_151 md_X6_refusalOfRow (c_X6_refusalOfRow (X := X) hf1) hH [0, 2, 3] rfl (by decide) rfl rfl rfl hl.1 rfl rfl (Nat.le_of_ble_eq_true rfl) dX6_refusalOfHeardRow_2 ⟨Nat.le_of_ble_eq_true rfl, Nat.le_of_ble_eq_true rfl⟩ ⟨rfl, rfl⟩ ⟨Nat.le_refl _, Nat.le_refl _⟩) rfl (fun hz1 => ?_)
  refine lv_istore_n (lv' := [(2, .int u1), (0, .ref h0), (1, .int p1)]) hx hb dX6_refusalOfHeardRow_5 rfl hl (by decide) rfl (fun ls hl => ?_)
  refine lv_iload_n hx hb dX6_refusalOfHeardRow_6 rfl (lv_at hl 0 rfl) ?_
  refine lv_if_ne (tgt := 33) hx hb dX6_refusalOfHeardRow_7 (by decide) (fun c2 => ?_) (fun c2 => ?_)
  · have hf := xe c2 hf
    refine lv_iload_n hx hb dX6_refusalOfHeardRow_33 rfl (lv_at hl 0 rfl) ?_
    exact x_reti hC hr hlk trivial hf dX6_refusalOfHeardRow_34
  · have hf := xt c2 hf
    refine lv_aload_n hx hb dX6_refusalOfHeardRow_10 rfl (lv_at hl 1 rfl) ?_
    refine x_get hC fd_RX6_29 hH.1 0 rfl rfl dX6_refusalOfHeardRow_11 ?_
    refine lv_iload_n hx hb dX6_refusalOfHeardRow_14 rfl (lv_at hl 2 rfl) ?_
    obtain ⟨u3, hf3, hf⟩ := xb hf
    refine x_ran (x_runV (q0 := 0) (rest := []) (As := [.int p1]) hC mw_163 md_X4_sizeOf (c_X4_sizeOf (X := X) hf3) hH [2, 4] rfl (by decide) rfl rfl rfl hl.1 rfl rfl (Nat.le_of_ble_eq_true rfl) dX6_refusalOfHeardRow_15 ⟨Nat.le_of_ble_eq_true rfl, Nat.le_of_ble_eq_true rfl⟩ ⟨rfl, rfl⟩ ⟨Nat.le_refl _, Nat.le_refl _⟩) rfl (fun hz3 => ?_)
    refine lv_aload_n hx hb dX6_refusalOfHeardRow_18 rfl (lv_at hl 1 rfl) ?_
    refine x_get hC fd_RX6_10 hH.1 0 rfl rfl dX6_refusalOfHeardRow_19 ?_
    refine x_getN hC fd_RX6_200 hH.1 1 rfl rfl dX6_refusalOfHeardRow_22 ?_
    refine lv_icmp_ge (tgt := 33) hx hb dX6_refusalOfHeardRow_25 (by decide) (fun c4 => ?_) (fun c4 => ?_)
    · have hf := xt c4 hf
      refine lv_iload_n hx hb dX6_refusalOfHeardRow_33 rfl (lv_at hl 0 rfl) ?_
      exact x_reti hC hr hlk trivial hf dX6_refusalOfHeardRow_34
    · have hf := xe c4 hf
      refine lv_bipush (v := (-2 : Int32)) hx hb dX6_refusalOfHeardRow_28 (by decide) ?_
      refine lv_goto (tgt := 34) hx hb dX6_refusalOfHeardRow_30 (by decide) ?_
      exact x_reti hC hr hlk trivial hf dX6_refusalOfHeardRow_34
def f_X6_depths_L38 (v_now_inForce : Int32) (v_now_ring : Int64) (v_now_steps : Int32) (v_now_laws_count : Int32) (v_now_laws_kinds : (Nat → Int32)) (v_now_laws_tunes : (Nat → Int32)) (v_refusals : (Nat → Int32)) (x38_3 : Int64) (s38 : Int32 × Int32) : Option ((Int32 × (Nat → Int32)) ⊕ (Int32 × Int32)) :=
  if (nI 9) < s38.2 then
    some (.inl (s38.1, v_refusals))
  else
  (f_X0_risen v_now_ring v_now_steps v_now_laws_count v_now_laws_kinds v_now_laws_tunes v_now_inForce s38.2).bind fun u5 =>
  if (xcmp (v_now_ring ||| u5) x38_3) = (nI 0) then
    some (.inr (s38.1 ||| (xshl (nI 1) s38.2), s38.2 + (nI 1)))
  else
  some (.inr (s38.1, s38.2 + (nI 1)))
def f_X6_depths (v_now_inForce : Int32) (v_now_ring : Int64) (v_now_steps : Int32) (v_now_laws_count : Int32) (v_now_laws_kinds : (Nat → Int32)) (v_now_laws_tunes : (Nat → Int32)) (v_refusals : (Nat → Int32)) (v_shelves_elements : (Nat → Int64)) (v_shelves_held : (Nat → Int32)) (v_shelves_sizes : (Nat → Int32)) (p1 : Int32) : Option (Int32 × (Nat → Int32)) :=
  (f_X6_refusalOfHeardRow v_now_steps v_shelves_held v_shelves_sizes p1).bind fun u1 =>
  if u1 = (nI 0) then
    (f_X4_elementsAsBits v_shelves_elements v_shelves_sizes p1 v_now_steps).bind fun u3 =>
    xloop (f_X6_depths_L38 v_now_inForce v_now_ring v_now_steps v_now_laws_count v_now_laws_kinds v_now_laws_tunes v_refusals u3) xN ((nI 0), (nI 0))
  else
  (f_X6_refuse v_refusals u1).bind fun u7 =>
  some (u7.1, u7.2)
set_option maxHeartbeats 4000000 in
set_option maxRecDepth 100000 in
theorem c_X6_depths {l : Launch} {X : xG} {h0 h1 h2 h3 h4 h5 h6 h7 h8 h9 g0 g1 g2 : Nat} {v_isKept : Int32} {v_now_inForce : Int32} {v_now_depth : Int32} {v_now_miss : Int32} {v_now_ring : Int64} {v_now_steps : Int32} {v_now_seed : Int32} {v_now_laws_count : Int32} {v_now_laws_kinds : (Nat → Int32)} {v_now_laws_tunes : (Nat → Int32)} {v_refusals : (Nat → Int32)} {v_shelves_elements : (Nat → Int64)} {v_shelves_held : (Nat → Int32)} {v_shelves_sizes : (Nat → Int32)} {p1 : Int32} {u : Int32 × (Nat → Int32)} (hf : f_X6_depths v_now_inForce v_now_ring v_now_steps v_now_laws_count v_now_laws_kinds v_now_laws_tunes v_refusals v_shelves_elements v_shelves_held v_shelves_sizes p1 = some u) : Met l yX6_depths (xw yX6_depths cX6_depths 7 (some .int)) (xrm 6 147) (xPc [.ref h0, .int p1] X [(h0, xO 6 [.ref h1, .ref g0, .ref g1, .ref h6, .ref h5, .int v_isKept]), (h1, xO 0 [.ref h2, .ref g2, .int v_now_inForce, .int v_now_depth, .int v_now_miss, .long v_now_ring, .int v_now_steps, .int v_now_seed]), (h2, xO 2 [.ref h3, .ref h4, .int v_now_laws_count]), (h3, xI X 6 v_now_laws_kinds), (h4, xI X 6 v_now_laws_tunes), (h5, xI X 5 v_refusals), (h6, xO 4 [.ref h8, .ref h9, .ref h7]), (h7, xJ X 320 v_shelves_elements), (h8, xI X 8 v_shelves_held), (h9, xI X 8 v_shelves_sizes)]) (xQw True (.returned (some (.int u.1))) X [(h0, xO 6 [.ref h1, .ref g0, .ref g1, .ref h6, .ref h5, .int v_isKept]), (h1, xO 0 [.ref h2, .ref g2, .int v_now_inForce, .int v_now_depth, .int v_now_miss, .long v_now_ring, .int v_now_steps, .int v_now_seed]), (h2, xO 2 [.ref h3, .ref h4, .int v_now_laws_count]), (h3, xI X 6 v_now_laws_kinds), (h4, xI X 6 v_now_laws_tunes), (h5, xI X 5 u.2), (h6, xO 4 [.ref h8, .ref h9, .ref h7]), (h7, xJ X 320 v_shelves_elements), (h8, xI X 8 v_shelves_held), (h9, xI X 8 v_shelves_sizes)] (xAs [(h0, xO 6 [.ref h1, .ref g0, .ref g1, .ref h6, .ref h5, .int v_isKept]), (h1, xO 0 [.ref h2, .ref g2, .int v_now_inForce, .int v_now_depth, .int v_now_miss, .long v_now_ring, .int v_now_steps, .int v_now_seed]), (h2, xO 2 [.ref h3, .ref h4, .int v_now_laws_count]), (h3, xI X 6 v_now_laws_kinds), (h4, xI X 6 v_now_laws_tunes), (h5, xI X 5 v_refusals), (h6, xO 4 [.ref h8, .ref h9, .ref h7]), (h7, xJ X 320 v_shelves_elements), (h8, xI X 8 v_shelves_held), (h9, xI X 8 v_shelves_sizes)])) 0 0 (xAs [(h0, xO 6 [.ref h1, .ref g0, .ref g1, .ref h6, .ref h5, .int v_isKept]), (h1, xO 0 [.ref h2, .ref g2, .int v_now_inForce, .int v_now_depth, .int v_now_miss, .long v_now_ring, .int v_now_steps, .int v_now_seed]), (h2, xO 2 [.ref h3, .ref h4, .int v_now_laws_count]), (h3, xI X 6 v_now_laws_kinds), (h4, xI X 6 v_now_laws_tunes), (h5, xI X 5 v_refusals), (h6, xO 4 [.ref h8, .ref h9, .ref h7]), (h7, xJ X 320 v_shelves_elements), (h8, xI X 8 v_shelves_held), (h9, xI X 8 v_shelves_sizes)]) := by
  refine xMetw (Qc := fun A => xQw True (.returned (some (.int u.1))) X [(h0, xO 6 [.ref h1, .ref g0, .ref g1, .ref h6, .ref h5, .int v_isKept]), (h1, xO 0 [.ref h2, .ref g2, .int v_now_inForce, .int v_now_depth, .int v_now_miss, .long v_now_ring, .int v_now_steps, .int v_now_seed]), (h2, xO 2 [.ref h3, .ref h4, .int v_now_laws_count]), (h3, xI X 6 v_now_laws_kinds), (h4, xI X 6 v_now_laws_tunes), (h5, xI X 5 u.2), (h6, xO 4 [.ref h8, .ref h9, .ref h7]), (h7, xJ X 320 v_shelves_elements), (h8, xI X 8 v_shelves_held), (h9, xI X 8 v_shelves_sizes)] A) (n := 1) md_X6_depths.1 (Nat.le_of_ble_eq_true rfl) ?_
  intro p e s m args below meth c ls A hC hr hlk hH hl
  have hl : lv_has ls 7 [(0, .ref h0), (1, .int p1)] := hl
  have hx := hC.1
  have hb := hC.2.1
  have L38 : ∀ (x38_3 : Int64) (n : Nat) (s38 : Int32 × Int32), xloop (f_X6_depths_L38 v_now_inForce v_now_ring v_now_steps v_now_laws_count v_now_laws_kinds v_now_laws_tunes v_refusals x38_3) n s38 = some u → ∀ (H : Heap) (locs : List Loc), xH X A [(h0, xO 6 [.ref h1, .ref g0, .ref g1, .ref h6, .ref h5, .int v_isKept]), (h1, xO 0 [.ref h2, .ref g2, .int v_now_inForce, .int v_now_depth, .int v_now_miss, .long v_now_ring, .int v_now_steps, .int v_now_seed]), (h2, xO 2 [.ref h3, .ref h4, .int v_now_laws_count]), (h3, xI X 6 v_now_laws_kinds), (h4, xI X 6 v_now_laws_tunes), (h5, xI X 5 v_refusals), (h6, xO 4 [.ref h8, .ref h9, .ref h7]), (h7, xJ X 320 v_shelves_elements), (h8, xI X 8 v_shelves_held), (h9, xI X 8 v_shelves_sizes)] s.heap H locs → ∀ (ls : Array Slot), lv_has ls 7 [(0, .ref h0), (3, .long x38_3), (5, .int s38.1), (6, .int s38.2)] → W p l e (xrm 6 147) s m args below meth c H locs 0 0 (MQ below (xQw True (.returned (some (.int u.1))) X [(h0, xO 6 [.ref h1, .ref g0, .ref g1, .ref h6, .ref h5, .int v_isKept]), (h1, xO 0 [.ref h2, .ref g2, .int v_now_inForce, .int v_now_depth, .int v_now_miss, .long v_now_ring, .int v_now_steps, .int v_now_seed]), (h2, xO 2 [.ref h3, .ref h4, .int v_now_laws_count]), (h3, xI X 6 v_now_laws_kinds), (h4, xI X 6 v_now_laws_tunes), (h5, xI X 5 u.2), (h6, xO 4 [.ref h8, .ref h9, .ref h7]), (h7, xJ X 320 v_shelves_elements), (h8, xI X 8 v_shelves_held), (h9, xI X 8 v_shelves_sizes)] A) args s 0 0 A) (F0 m 38 ls []) := by
    intro x38_3 n
    induction n with
    | zero => intro s38 hf; exact xloop_0 hf
    | succ n ih38 =>
      intro s38 hf H locs hH ls hl
      obtain ⟨o38, hf, ho38⟩ := xloop_s hf
      refine lv_iload hx hb dX6_depths_38 (lv_at hl 3 rfl) ?_
      refine lv_bipush (v := (nI 9)) hx hb dX6_depths_40 (by decide) ?_
      refine lv_icmp_gt (tgt := 89) hx hb dX6_depths_42 (by decide) (fun c4 => ?_) (fun c4 => ?_)
      · have hf := xt c4 hf
        refine lv_iload hx hb dX6_depths_89 (lv_at hl 2 rfl) ?_
        have hf := xo_ret hf ho38
        exact x_retiw (φ := fun _ => True) (f := fun u : Int32 × (Nat → Int32) => u.1) (wf := fun u : Int32 × (Nat → Int32) => [(h0, xO 6 [.ref h1, .ref g0, .ref g1, .ref h6, .ref h5, .int v_isKept]), (h1, xO 0 [.ref h2, .ref g2, .int v_now_inForce, .int v_now_depth, .int v_now_miss, .long v_now_ring, .int v_now_steps, .int v_now_seed]), (h2, xO 2 [.ref h3, .ref h4, .int v_now_laws_count]), (h3, xI X 6 v_now_laws_kinds), (h4, xI X 6 v_now_laws_tunes), (h5, xI X 5 u.2), (h6, xO 4 [.ref h8, .ref h9, .ref h7]), (h7, xJ X 320 v_shelves_elements), (h8, xI X 8 v_shelves_held), (h9, xI X 8 v_shelves_sizes)]) hC hr hlk trivial hf hH rfl rfl dX6_depths_91
      · have hf := xe c4 hf
        refine lv_aload_n hx hb dX6_depths_45 rfl (lv_at hl 0 rfl) ?_
        refine x_get hC fd_RX6_10 hH.1 0 rfl rfl dX6_depths_46 ?_
        refine x_getN hC fd_RX6_120 hH.1 1 rfl rfl dX6_depths_49 ?_
        refine lv_aload_n hx hb dX6_depths_52 rfl (lv_at hl 0 rfl) ?_
        refine x_get hC fd_RX6_10 hH.1 0 rfl rfl dX6_depths_53 ?_
        refine lv_aload_n hx hb dX6_depths_56 rfl (lv_at hl 0 rfl) ?_
        refine x_get hC fd_RX6_10 hH.1 0 rfl rfl dX6_depths_57 ?_
        refine x_getN hC fd_RX6_135 hH.1 1 rfl rfl dX6_depths_60 ?_
        refine lv_iload hx hb dX6_depths_63 (lv_at hl 3 rfl) ?_
        obtain ⟨u5, hf5, hf⟩ := xb hf
        refine x_ran (x_runV (q0 := 0) (rest := [.long v_now_ring]) (As := [.int v_now_inForce, .int s38.2]) hC mw_984 md_X0_risen (c_X0_risen (X := X) hf5) hH [1, 2, 3, 4] rfl (by decide) rfl rfl rfl hl.1 rfl rfl (Nat.le_of_ble_eq_true rfl) dX6_depths_65 ⟨Nat.le_of_ble_eq_true rfl, Nat.le_of_ble_eq_true rfl⟩ ⟨rfl, rfl⟩ ⟨Nat.le_refl _, Nat.le_refl _⟩) rfl (fun hz5 => ?_)
        refine lv_lor hx hb dX6_depths_68 ?_
        refine lv_lload_n hx hb dX6_depths_69 rfl (lv_at hl 1 rfl) ?_
        refine x_lcmp hx hb dX6_depths_70 ?_
        refine lv_if_ne (tgt := 83) hx hb dX6_depths_71 (by decide) (fun c6 => ?_) (fun c6 => ?_)
        · have hf := xe c6 hf
          refine lv_iinc (v := s38.2 + (nI 1)) (lv' := [(6, .int (s38.2 + (nI 1))), (0, .ref h0), (3, .long x38_3), (5, .int s38.1)]) hx hb dX6_depths_83 hl (k := 3) rfl rfl (by decide) rfl (fun ls hl => ?_)
          refine lv_goto (tgt := 38) hx hb dX6_depths_86 (by decide) ?_
          have hf := xo_go hf ho38
          exact ih38 (s38.1, s38.2 + (nI 1)) hf _ _ hH ls (lv_sub hl [1, 2, 3, 0] rfl)
        · have hf := xt c6 hf
          refine lv_iload hx hb dX6_depths_74 (lv_at hl 2 rfl) ?_
          refine lv_iconst (v := (nI 1)) hx hb dX6_depths_76 (by decide) ?_
          refine lv_iload hx hb dX6_depths_77 (lv_at hl 3 rfl) ?_
          refine x_ishl hx hb dX6_depths_79 ?_
          refine lv_ior hx hb dX6_depths_80 ?_
          refine lv_istore (lv' := [(5, .int (s38.1 ||| (xshl (nI 1) s38.2))), (0, .ref h0), (3, .long x38_3), (6, .int s38.2)]) hx hb dX6_depths_81 hl (by decide) rfl (fun ls hl => ?_)
          refine lv_iinc (v := s38.2 + (nI 1)) (lv' := [(6, .int (s38.2 + (nI 1))), (5, .int (s38.1 ||| (xshl (nI 1) s38.2))), (0, .ref h0), (3, .long x38_3)]) hx hb dX6_depths_83 hl (k := 3) rfl rfl (by decide) rfl (fun ls hl => ?_)
          refine lv_goto (tgt := 38) hx hb dX6_depths_86 (by decide) ?_
          have hf := xo_go hf ho38
          exact ih38 (s38.1 ||| (xshl (nI 1) s38.2), s38.2 + (nI 1)) hf _ _ hH ls (lv_sub hl [2, 3, 1, 0] rfl)
  refine lv_aload_n hx hb dX6_depths_0 rfl (lv_at hl 0 rfl) ?_
  refine lv_iload_n hx hb dX6_depths_1 rfl (lv_at hl 1 rfl) ?_
  obtain ⟨u1, hf1, hf⟩ := xb hf
  refine x_ran (x_runV (q0 := 0) (rest := []) (As := [.int p1]) hC mw_976 md_X6_refusalOfHeardRow (c_X6_refusalOfHeardRow (X := X) hf1) hH [0, 1, 6, 8, 9] rfl (by decide) rfl rfl rfl hl.1 rfl rfl (Nat.le_of_ble_eq_true rfl) dX6_depths_2 ⟨Nat.le_of_ble_eq_true rfl, Nat.le_of_ble_eq_true rfl⟩ ⟨rfl, rfl⟩ ⟨Nat.le_refl _, Nat.le_refl _⟩) rfl (fun hz1 => ?_)
  refine lv_istore_n (lv' := [(2, .int u1), (0, .ref h0), (1, .int p1)]) hx hb dX6_depths_5 rfl hl (by decide) rfl (fun ls hl => ?_)
  refine lv_iload_n hx hb dX6_depths_6 rfl (lv_at hl 0 rfl) ?_
  refine lv_if_eq (tgt := 16) hx hb dX6_depths_7 (by decide) (fun c2 => ?_) (fun c2 => ?_)
  · have hf := xt c2 hf
    refine lv_aload_n hx hb dX6_depths_16 rfl (lv_at hl 1 rfl) ?_
    refine x_get hC fd_RX6_29 hH.1 0 rfl rfl dX6_depths_17 ?_
    refine lv_iload_n hx hb dX6_depths_20 rfl (lv_at hl 2 rfl) ?_
    refine lv_aload_n hx hb dX6_depths_21 rfl (lv_at hl 1 rfl) ?_
    refine x_get hC fd_RX6_10 hH.1 0 rfl rfl dX6_depths_22 ?_
    refine x_getN hC fd_RX6_200 hH.1 1 rfl rfl dX6_depths_25 ?_
    obtain ⟨u3, hf3, hf⟩ := xb hf
    refine x_ran (x_runV (q0 := 0) (rest := []) (As := [.int p1, .int v_now_steps]) hC mw_980 md_X4_elementsAsBits (c_X4_elementsAsBits (X := X) hf3) hH [6, 7, 9] rfl (by decide) rfl rfl rfl hl.1 rfl rfl (Nat.le_of_ble_eq_true rfl) dX6_depths_28 ⟨Nat.le_of_ble_eq_true rfl, Nat.le_of_ble_eq_true rfl⟩ ⟨rfl, rfl⟩ ⟨Nat.le_refl _, Nat.le_refl _⟩) rfl (fun hz3 => ?_)
    refine lv_lstore_n (lv' := [(3, .long u3), (2, .int u1), (0, .ref h0), (1, .int p1)]) hx hb dX6_depths_31 rfl hl (by decide) rfl (fun ls hl => ?_)
    refine lv_iconst (v := (nI 0)) hx hb dX6_depths_32 (by decide) ?_
    refine lv_istore (lv' := [(5, .int (nI 0)), (3, .long u3), (2, .int u1), (0, .ref h0), (1, .int p1)]) hx hb dX6_depths_33 hl (by decide) rfl (fun ls hl => ?_)
    refine lv_iconst (v := (nI 0)) hx hb dX6_depths_35 (by decide) ?_
    refine lv_istore (lv' := [(6, .int (nI 0)), (5, .int (nI 0)), (3, .long u3), (2, .int u1), (0, .ref h0), (1, .int p1)]) hx hb dX6_depths_36 hl (by decide) rfl (fun ls hl => ?_)
    exact L38 u3 xN ((nI 0), (nI 0)) hf _ _ hH ls (lv_sub hl [4, 2, 1, 0] rfl)
  · have hf := xe c2 hf
    refine lv_aload_n hx hb dX6_depths_10 rfl (lv_at hl 1 rfl) ?_
    refine lv_iload_n hx hb dX6_depths_11 rfl (lv_at hl 0 rfl) ?_
    obtain ⟨u7, hf7, hf⟩ := xb hf
    refine x_ranw (ws' := [(h0, xO 6 [.ref h1, .ref g0, .ref g1, .ref h6, .ref h5, .int v_isKept]), (h1, xO 0 [.ref h2, .ref g2, .int v_now_inForce, .int v_now_depth, .int v_now_miss, .long v_now_ring, .int v_now_steps, .int v_now_seed]), (h2, xO 2 [.ref h3, .ref h4, .int v_now_laws_count]), (h3, xI X 6 v_now_laws_kinds), (h4, xI X 6 v_now_laws_tunes), (h5, xI X 5 u7.2), (h6, xO 4 [.ref h8, .ref h9, .ref h7]), (h7, xJ X 320 v_shelves_elements), (h8, xI X 8 v_shelves_held), (h9, xI X 8 v_shelves_sizes)]) (x_runV (q0 := 0) (rest := []) (As := [.int u1]) hC mw_100 md_X6_refuse (c_X6_refuse (X := X) hf7) hH [0, 5] rfl (by decide) rfl rfl rfl hl.1 rfl rfl (Nat.le_of_ble_eq_true rfl) dX6_depths_12 ⟨Nat.le_of_ble_eq_true rfl, Nat.le_of_ble_eq_true rfl⟩ ⟨rfl, rfl⟩ ⟨Nat.le_refl _, Nat.le_refl _⟩) hH [0, 5] rfl rfl rfl rfl rfl (fun hz7 H locs hH => ?_)
    exact x_retiw (φ := fun _ => True) (f := fun u : Int32 × (Nat → Int32) => u.1) (wf := fun u : Int32 × (Nat → Int32) => [(h0, xO 6 [.ref h1, .ref g0, .ref g1, .ref h6, .ref h5, .int v_isKept]), (h1, xO 0 [.ref h2, .ref g2, .int v_now_inForce, .int v_now_depth, .int v_now_miss, .long v_now_ring, .int v_now_steps, .int v_now_seed]), (h2, xO 2 [.ref h3, .ref h4, .int v_now_laws_count]), (h3, xI X 6 v_now_laws_kinds), (h4, xI X 6 v_now_laws_tunes), (h5, xI X 5 u.2), (h6, xO 4 [.ref h8, .ref h9, .ref h7]), (h7, xJ X 320 v_shelves_elements), (h8, xI X 8 v_shelves_held), (h9, xI X 8 v_shelves_sizes)]) hC hr hlk trivial hf hH rfl rfl dX6_depths_15
