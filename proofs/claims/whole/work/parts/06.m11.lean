def f_X7_until_L21 (v_laws : Int32) (v_inForce : Int32) (v_ring : Int64) (v_size : Int32) (v_kind : (Nat → Int32)) (v_own : (Nat → Int32)) (v_refusals : (Nat → Int32)) (p1 : Int32) (s21 : Int32 × Int32) : Option ((Int32 × (Nat → Int32)) ⊕ (Int32 × Int32)) :=
  if v_size < s21.2 then
    some (.inl ((-1 : Int32), v_refusals))
  else
  if s21.1 < p1 then
    if v_size ≤ s21.2 then
      some (.inr (s21.1, s21.2 + (nI 1)))
    else
    (f_X7_strikesNow v_laws v_inForce v_kind v_own v_ring v_size s21.2).bind fun u6 =>
    if u6 = (nI 0) then
      some (.inr (s21.1, s21.2 + (nI 1)))
    else
    some (.inr (s21.1 + (nI 1), s21.2 + (nI 1)))
  else
  some (.inl (s21.2, v_refusals))
def f_X7_until (v_laws : Int32) (v_inForce : Int32) (v_ring : Int64) (v_size : Int32) (v_kind : (Nat → Int32)) (v_own : (Nat → Int32)) (v_refusals : (Nat → Int32)) (p1 : Int32) : Option (Int32 × (Nat → Int32)) :=
  (f_X7_within p1 (nI 0) (nI 40)).bind fun u1 =>
  if u1 = (nI 0) then
    (f_X7_no v_refusals (-2 : Int32)).bind fun u8 =>
    some (u8.1, u8.2)
  else
  xloop (f_X7_until_L21 v_laws v_inForce v_ring v_size v_kind v_own v_refusals p1) xN ((nI 0), (nI 0))
set_option maxHeartbeats 4000000 in
set_option maxRecDepth 100000 in
theorem c_X7_until {l : Launch} {X : xG} {h0 h1 h2 h3 g0 g1 g2 g3 g4 g5 g6 g7 : Nat} {v_laws : Int32} {v_inForce : Int32} {v_depth : Int32} {v_miss : Int32} {v_ring : Int64} {v_size : Int32} {v_people : Int32} {v_seed : Int32} {v_taped : Int32} {v_from : Int32} {v_to : Int32} {v_token : Int32} {v_value : Int32} {v_imaged : Int32} {v_oldRing : Int64} {v_aheadRing : Int64} {v_kind : (Nat → Int32)} {v_own : (Nat → Int32)} {v_refusals : (Nat → Int32)} {p1 : Int32} {u : Int32 × (Nat → Int32)} (hf : f_X7_until v_laws v_inForce v_ring v_size v_kind v_own v_refusals p1 = some u) : Met l yX7_until (xw yX7_until cX7_until 4 (some .int)) (xrm 4 96) (xPc [.ref h0, .int p1] X [(h0, xO 7 [.int v_laws, .ref h1, .ref h2, .int v_inForce, .int v_depth, .int v_miss, .long v_ring, .int v_size, .int v_people, .ref g0, .int v_seed, .int v_taped, .ref g1, .int v_from, .int v_to, .int v_token, .int v_value, .ref g2, .ref g3, .ref g4, .ref h3, .int v_imaged, .ref g5, .long v_oldRing, .ref g6, .long v_aheadRing, .ref g7]), (h1, xI X 6 v_kind), (h2, xI X 6 v_own), (h3, xI X 7 v_refusals)]) (xQw True (.returned (some (.int u.1))) X [(h0, xO 7 [.int v_laws, .ref h1, .ref h2, .int v_inForce, .int v_depth, .int v_miss, .long v_ring, .int v_size, .int v_people, .ref g0, .int v_seed, .int v_taped, .ref g1, .int v_from, .int v_to, .int v_token, .int v_value, .ref g2, .ref g3, .ref g4, .ref h3, .int v_imaged, .ref g5, .long v_oldRing, .ref g6, .long v_aheadRing, .ref g7]), (h1, xI X 6 v_kind), (h2, xI X 6 v_own), (h3, xI X 7 u.2)] (xAs [(h0, xO 7 [.int v_laws, .ref h1, .ref h2, .int v_inForce, .int v_depth, .int v_miss, .long v_ring, .int v_size, .int v_people, .ref g0, .int v_seed, .int v_taped, .ref g1, .int v_from, .int v_to, .int v_token, .int v_value, .ref g2, .ref g3, .ref g4, .ref h3, .int v_imaged, .ref g5, .long v_oldRing, .ref g6, .long v_aheadRing, .ref g7]), (h1, xI X 6 v_kind), (h2, xI X 6 v_own), (h3, xI X 7 v_refusals)])) 0 0 (xAs [(h0, xO 7 [.int v_laws, .ref h1, .ref h2, .int v_inForce, .int v_depth, .int v_miss, .long v_ring, .int v_size, .int v_people, .ref g0, .int v_seed, .int v_taped, .ref g1, .int v_from, .int v_to, .int v_token, .int v_value, .ref g2, .ref g3, .ref g4, .ref h3, .int v_imaged, .ref g5, .long v_oldRing, .ref g6, .long v_aheadRing, .ref g7]), (h1, xI X 6 v_kind), (h2, xI X 6 v_own), (h3, xI X 7 v_refusals)]) := by
  refine xMetw (Qc := fun A => xQw True (.returned (some (.int u.1))) X [(h0, xO 7 [.int v_laws, .ref h1, .ref h2, .int v_inForce, .int v_depth, .int v_miss, .long v_ring, .int v_size, .int v_people, .ref g0, .int v_seed, .int v_taped, .ref g1, .int v_from, .int v_to, .int v_token, .int v_value, .ref g2, .ref g3, .ref g4, .ref h3, .int v_imaged, .ref g5, .long v_oldRing, .ref g6, .long v_aheadRing, .ref g7]), (h1, xI X 6 v_kind), (h2, xI X 6 v_own), (h3, xI X 7 u.2)] A) (n := 1) md_X7_until.1 (Nat.le_of_ble_eq_true rfl) ?_
  intro p e s m args below meth c ls A hC hr hlk hH hl
  have hl : lv_has ls 4 [(0, .ref h0), (1, .int p1)] := hl
  have hx := hC.1
  have hb := hC.2.1
  have L21 : ∀ (n : Nat) (s21 : Int32 × Int32), xloop (f_X7_until_L21 v_laws v_inForce v_ring v_size v_kind v_own v_refusals p1) n s21 = some u → ∀ (H : Heap) (locs : List Loc), xH X A [(h0, xO 7 [.int v_laws, .ref h1, .ref h2, .int v_inForce, .int v_depth, .int v_miss, .long v_ring, .int v_size, .int v_people, .ref g0, .int v_seed, .int v_taped, .ref g1, .int v_from, .int v_to, .int v_token, .int v_value, .ref g2, .ref g3, .ref g4, .ref h3, .int v_imaged, .ref g5, .long v_oldRing, .ref g6, .long v_aheadRing, .ref g7]), (h1, xI X 6 v_kind), (h2, xI X 6 v_own), (h3, xI X 7 v_refusals)] s.heap H locs → ∀ (ls : Array Slot), lv_has ls 4 [(0, .ref h0), (1, .int p1), (2, .int s21.1), (3, .int s21.2)] → W p l e (xrm 4 96) s m args below meth c H locs 0 0 (MQ below (xQw True (.returned (some (.int u.1))) X [(h0, xO 7 [.int v_laws, .ref h1, .ref h2, .int v_inForce, .int v_depth, .int v_miss, .long v_ring, .int v_size, .int v_people, .ref g0, .int v_seed, .int v_taped, .ref g1, .int v_from, .int v_to, .int v_token, .int v_value, .ref g2, .ref g3, .ref g4, .ref h3, .int v_imaged, .ref g5, .long v_oldRing, .ref g6, .long v_aheadRing, .ref g7]), (h1, xI X 6 v_kind), (h2, xI X 6 v_own), (h3, xI X 7 u.2)] A) args s 0 0 A) (F0 m 21 ls []) := by
    intro  n
    induction n with
    | zero => intro s21 hf; exact xloop_0 hf
    | succ n ih21 =>
      intro s21 hf H locs hH ls hl
      obtain ⟨o21, hf, ho21⟩ := xloop_s hf
      refine lv_iload_n hx hb dX7_until_21 rfl (lv_at hl 3 rfl) ?_
      refine lv_aload_n hx hb dX7_until_22 rfl (lv_at hl 0 rfl) ?_
      refine x_get hC fd_RX7_62 hH.1 0 rfl rfl dX7_until_23 ?_
      refine lv_icmp_gt (tgt := 69) hx hb dX7_until_26 (by decide) (fun c3 => ?_) (fun c3 => ?_)
      · have hf := xt c3 hf
        refine lv_iconst (v := (-1 : Int32)) hx hb dX7_until_69 (by decide) ?_
        have hf := xo_ret hf ho21
        exact x_retiw (φ := fun _ => True) (f := fun u : Int32 × (Nat → Int32) => u.1) (wf := fun u : Int32 × (Nat → Int32) => [(h0, xO 7 [.int v_laws, .ref h1, .ref h2, .int v_inForce, .int v_depth, .int v_miss, .long v_ring, .int v_size, .int v_people, .ref g0, .int v_seed, .int v_taped, .ref g1, .int v_from, .int v_to, .int v_token, .int v_value, .ref g2, .ref g3, .ref g4, .ref h3, .int v_imaged, .ref g5, .long v_oldRing, .ref g6, .long v_aheadRing, .ref g7]), (h1, xI X 6 v_kind), (h2, xI X 6 v_own), (h3, xI X 7 u.2)]) hC hr hlk trivial hf hH rfl rfl dX7_until_70
      · have hf := xe c3 hf
        refine lv_iload_n hx hb dX7_until_29 rfl (lv_at hl 2 rfl) ?_
        refine lv_iload_n hx hb dX7_until_30 rfl (lv_at hl 1 rfl) ?_
        refine lv_icmp_lt (tgt := 36) hx hb dX7_until_31 (by decide) (fun c4 => ?_) (fun c4 => ?_)
        · have hf := xt c4 hf
          refine lv_iload_n hx hb dX7_until_36 rfl (lv_at hl 3 rfl) ?_
          refine lv_aload_n hx hb dX7_until_37 rfl (lv_at hl 0 rfl) ?_
          refine x_get hC fd_RX7_62 hH.1 0 rfl rfl dX7_until_38 ?_
          refine lv_icmp_ge (tgt := 63) hx hb dX7_until_41 (by decide) (fun c5 => ?_) (fun c5 => ?_)
          · have hf := xt c5 hf
            refine lv_iinc (v := s21.2 + (nI 1)) (lv' := [(3, .int (s21.2 + (nI 1))), (0, .ref h0), (1, .int p1), (2, .int s21.1)]) hx hb dX7_until_63 hl (k := 3) rfl rfl (by decide) rfl (fun ls hl => ?_)
            refine lv_goto (tgt := 21) hx hb dX7_until_66 (by decide) ?_
            have hf := xo_go hf ho21
            exact ih21 (s21.1, s21.2 + (nI 1)) hf _ _ hH ls (lv_sub hl [1, 2, 3, 0] rfl)
          · have hf := xe c5 hf
            refine lv_aload_n hx hb dX7_until_44 rfl (lv_at hl 0 rfl) ?_
            refine lv_aload_n hx hb dX7_until_45 rfl (lv_at hl 0 rfl) ?_
            refine x_get hC fd_RX7_90 hH.1 0 rfl rfl dX7_until_46 ?_
            refine lv_aload_n hx hb dX7_until_49 rfl (lv_at hl 0 rfl) ?_
            refine x_get hC fd_RX7_62 hH.1 0 rfl rfl dX7_until_50 ?_
            refine lv_iload_n hx hb dX7_until_53 rfl (lv_at hl 3 rfl) ?_
            obtain ⟨u6, hf6, hf⟩ := xb hf
            refine x_ran (x_runV (q0 := 0) (rest := []) (As := [.long v_ring, .int v_size, .int s21.2]) hC mw_702 md_X7_strikesNow (c_X7_strikesNow (X := X) hf6) hH [0, 1, 2] rfl (by decide) rfl rfl rfl hl.1 rfl rfl (Nat.le_of_ble_eq_true rfl) dX7_until_54 ⟨Nat.le_of_ble_eq_true rfl, Nat.le_of_ble_eq_true rfl⟩ ⟨rfl, rfl⟩ ⟨Nat.le_refl _, Nat.le_refl _⟩) rfl (fun hz6 => ?_)
            refine lv_if_eq (tgt := 63) hx hb dX7_until_57 (by decide) (fun c7 => ?_) (fun c7 => ?_)
            · have hf := xt c7 hf
              refine lv_iinc (v := s21.2 + (nI 1)) (lv' := [(3, .int (s21.2 + (nI 1))), (0, .ref h0), (1, .int p1), (2, .int s21.1)]) hx hb dX7_until_63 hl (k := 3) rfl rfl (by decide) rfl (fun ls hl => ?_)
              refine lv_goto (tgt := 21) hx hb dX7_until_66 (by decide) ?_
              have hf := xo_go hf ho21
              exact ih21 (s21.1, s21.2 + (nI 1)) hf _ _ hH ls (lv_sub hl [1, 2, 3, 0] rfl)
            · have hf := xe c7 hf
              refine lv_iinc (v := s21.1 + (nI 1)) (lv' := [(2, .int (s21.1 + (nI 1))), (0, .ref h0), (1, .int p1), (3, .int s21.2)]) hx hb dX7_until_60 hl (k := 2) rfl rfl (by decide) rfl (fun ls hl => ?_)
              refine lv_iinc (v := s21.2 + (nI 1)) (lv' := [(3, .int (s21.2 + (nI 1))), (2, .int (s21.1 + (nI 1))), (0, .ref h0), (1, .int p1)]) hx hb dX7_until_63 hl (k := 3) rfl rfl (by decide) rfl (fun ls hl => ?_)
              refine lv_goto (tgt := 21) hx hb dX7_until_66 (by decide) ?_
              have hf := xo_go hf ho21
              exact ih21 (s21.1 + (nI 1), s21.2 + (nI 1)) hf _ _ hH ls (lv_sub hl [2, 3, 1, 0] rfl)
        · have hf := xe c4 hf
          refine lv_iload_n hx hb dX7_until_34 rfl (lv_at hl 3 rfl) ?_
          have hf := xo_ret hf ho21
          exact x_retiw (φ := fun _ => True) (f := fun u : Int32 × (Nat → Int32) => u.1) (wf := fun u : Int32 × (Nat → Int32) => [(h0, xO 7 [.int v_laws, .ref h1, .ref h2, .int v_inForce, .int v_depth, .int v_miss, .long v_ring, .int v_size, .int v_people, .ref g0, .int v_seed, .int v_taped, .ref g1, .int v_from, .int v_to, .int v_token, .int v_value, .ref g2, .ref g3, .ref g4, .ref h3, .int v_imaged, .ref g5, .long v_oldRing, .ref g6, .long v_aheadRing, .ref g7]), (h1, xI X 6 v_kind), (h2, xI X 6 v_own), (h3, xI X 7 u.2)]) hC hr hlk trivial hf hH rfl rfl dX7_until_35
  refine lv_iload_n hx hb dX7_until_0 rfl (lv_at hl 1 rfl) ?_
  refine lv_iconst (v := (nI 0)) hx hb dX7_until_1 (by decide) ?_
  refine lv_bipush (v := (nI 40)) hx hb dX7_until_2 (by decide) ?_
  obtain ⟨u1, hf1, hf⟩ := xb hf
  refine x_ran (x_runS (rest := []) (As := [.int p1, .int (nI 0), .int (nI 40)]) hC mw_140 md_X7_within (c_X7_within (X := X) hf1) hH [] rfl (by decide) hl.1 rfl rfl (Nat.le_of_ble_eq_true rfl) dX7_until_4 ⟨Nat.le_of_ble_eq_true rfl, Nat.le_of_ble_eq_true rfl⟩ ⟨rfl, rfl⟩ ⟨Nat.le_refl _, Nat.le_refl _⟩) rfl (fun hz1 => ?_)
  refine lv_if_ne (tgt := 17) hx hb dX7_until_7 (by decide) (fun c2 => ?_) (fun c2 => ?_)
  · have hf := xe c2 hf
    refine lv_iconst (v := (nI 0)) hx hb dX7_until_17 (by decide) ?_
    refine lv_istore_n (lv' := [(2, .int (nI 0)), (0, .ref h0), (1, .int p1)]) hx hb dX7_until_18 rfl hl (by decide) rfl (fun ls hl => ?_)
    refine lv_iconst (v := (nI 0)) hx hb dX7_until_19 (by decide) ?_
    refine lv_istore_n (lv' := [(3, .int (nI 0)), (2, .int (nI 0)), (0, .ref h0), (1, .int p1)]) hx hb dX7_until_20 rfl hl (by decide) rfl (fun ls hl => ?_)
    exact L21 xN ((nI 0), (nI 0)) hf _ _ hH ls (lv_sub hl [2, 3, 1, 0] rfl)
  · have hf := xt c2 hf
    refine lv_aload_n hx hb dX7_until_10 rfl (lv_at hl 0 rfl) ?_
    refine lv_bipush (v := (-2 : Int32)) hx hb dX7_until_11 (by decide) ?_
    obtain ⟨u8, hf8, hf⟩ := xb hf
    refine x_ranw (ws' := [(h0, xO 7 [.int v_laws, .ref h1, .ref h2, .int v_inForce, .int v_depth, .int v_miss, .long v_ring, .int v_size, .int v_people, .ref g0, .int v_seed, .int v_taped, .ref g1, .int v_from, .int v_to, .int v_token, .int v_value, .ref g2, .ref g3, .ref g4, .ref h3, .int v_imaged, .ref g5, .long v_oldRing, .ref g6, .long v_aheadRing, .ref g7]), (h1, xI X 6 v_kind), (h2, xI X 6 v_own), (h3, xI X 7 u8.2)]) (x_runV (q0 := 0) (rest := []) (As := [.int (-2 : Int32)]) hC mw_143 md_X7_no (c_X7_no (X := X) hf8) hH [0, 3] rfl (by decide) rfl rfl rfl hl.1 rfl rfl (Nat.le_of_ble_eq_true rfl) dX7_until_13 ⟨Nat.le_of_ble_eq_true rfl, Nat.le_of_ble_eq_true rfl⟩ ⟨rfl, rfl⟩ ⟨Nat.le_refl _, Nat.le_refl _⟩) hH [0, 3] rfl rfl rfl rfl rfl (fun hz8 H locs hH => ?_)
    exact x_retiw (φ := fun _ => True) (f := fun u : Int32 × (Nat → Int32) => u.1) (wf := fun u : Int32 × (Nat → Int32) => [(h0, xO 7 [.int v_laws, .ref h1, .ref h2, .int v_inForce, .int v_depth, .int v_miss, .long v_ring, .int v_size, .int v_people, .ref g0, .int v_seed, .int v_taped, .ref g1, .int v_from, .int v_to, .int v_token, .int v_value, .ref g2, .ref g3, .ref g4, .ref h3, .int v_imaged, .ref g5, .long v_oldRing, .ref g6, .long v_aheadRing, .ref g7]), (h1, xI X 6 v_kind), (h2, xI X 6 v_own), (h3, xI X 7 u.2)]) hC hr hlk trivial hf hH rfl rfl dX7_until_16
def f_X7_sameAs_L19 (v_laws : Int32) (v_ring : Int64) (v_size : Int32) (v_kind : (Nat → Int32)) (v_own : (Nat → Int32)) (v_refusals : (Nat → Int32)) (p1 : Int32) (s19 : Int32 × Int32) : Option ((Int32 × (Nat → Int32)) ⊕ (Int32 × Int32)) :=
  if v_laws ≤ s19.2 then
    some (.inl (s19.1, v_refusals))
  else
  (f_X7_struckBits v_kind v_own s19.2 v_ring v_size).bind fun u4 =>
  (f_X7_struckBits v_kind v_own p1 v_ring v_size).bind fun u5 =>
  if (xcmp u4 u5) = (nI 0) then
    some (.inr (s19.1 ||| (xshl (nI 1) s19.2), s19.2 + (nI 1)))
  else
  some (.inr (s19.1, s19.2 + (nI 1)))
def f_X7_sameAs (v_laws : Int32) (v_ring : Int64) (v_size : Int32) (v_kind : (Nat → Int32)) (v_own : (Nat → Int32)) (v_refusals : (Nat → Int32)) (p1 : Int32) : Option (Int32 × (Nat → Int32)) :=
  (f_X7_isLaw v_laws p1).bind fun u1 =>
  if u1 = (nI 0) then
    (f_X7_no v_refusals (-2 : Int32)).bind fun u7 =>
    some (u7.1, u7.2)
  else
  xloop (f_X7_sameAs_L19 v_laws v_ring v_size v_kind v_own v_refusals p1) xN ((nI 0), (nI 0))
set_option maxHeartbeats 4000000 in
set_option maxRecDepth 100000 in
theorem c_X7_sameAs {l : Launch} {X : xG} {h0 h1 h2 h3 g0 g1 g2 g3 g4 g5 g6 g7 : Nat} {v_laws : Int32} {v_inForce : Int32} {v_depth : Int32} {v_miss : Int32} {v_ring : Int64} {v_size : Int32} {v_people : Int32} {v_seed : Int32} {v_taped : Int32} {v_from : Int32} {v_to : Int32} {v_token : Int32} {v_value : Int32} {v_imaged : Int32} {v_oldRing : Int64} {v_aheadRing : Int64} {v_kind : (Nat → Int32)} {v_own : (Nat → Int32)} {v_refusals : (Nat → Int32)} {p1 : Int32} {u : Int32 × (Nat → Int32)} (hf : f_X7_sameAs v_laws v_ring v_size v_kind v_own v_refusals p1 = some u) : Met l yX7_sameAs (xw yX7_sameAs cX7_sameAs 4 (some .int)) (xrm 4 99) (xPc [.ref h0, .int p1] X [(h0, xO 7 [.int v_laws, .ref h1, .ref h2, .int v_inForce, .int v_depth, .int v_miss, .long v_ring, .int v_size, .int v_people, .ref g0, .int v_seed, .int v_taped, .ref g1, .int v_from, .int v_to, .int v_token, .int v_value, .ref g2, .ref g3, .ref g4, .ref h3, .int v_imaged, .ref g5, .long v_oldRing, .ref g6, .long v_aheadRing, .ref g7]), (h1, xI X 6 v_kind), (h2, xI X 6 v_own), (h3, xI X 7 v_refusals)]) (xQw True (.returned (some (.int u.1))) X [(h0, xO 7 [.int v_laws, .ref h1, .ref h2, .int v_inForce, .int v_depth, .int v_miss, .long v_ring, .int v_size, .int v_people, .ref g0, .int v_seed, .int v_taped, .ref g1, .int v_from, .int v_to, .int v_token, .int v_value, .ref g2, .ref g3, .ref g4, .ref h3, .int v_imaged, .ref g5, .long v_oldRing, .ref g6, .long v_aheadRing, .ref g7]), (h1, xI X 6 v_kind), (h2, xI X 6 v_own), (h3, xI X 7 u.2)] (xAs [(h0, xO 7 [.int v_laws, .ref h1, .ref h2, .int v_inForce, .int v_depth, .int v_miss, .long v_ring, .int v_size, .int v_people, .ref g0, .int v_seed, .int v_taped, .ref g1, .int v_from, .int v_to, .int v_token, .int v_value, .ref g2, .ref g3, .ref g4, .ref h3, .int v_imaged, .ref g5, .long v_oldRing, .ref g6, .long v_aheadRing, .ref g7]), (h1, xI X 6 v_kind), (h2, xI X 6 v_own), (h3, xI X 7 v_refusals)])) 0 0 (xAs [(h0, xO 7 [.int v_laws, .ref h1, .ref h2, .int v_inForce, .int v_depth, .int v_miss, .long v_ring, .int v_size, .int v_people, .ref g0, .int v_seed, .int v_taped, .ref g1, .int v_from, .int v_to, .int v_token, .int v_value, .ref g2, .ref g3, .ref g4, .ref h3, .int v_imaged, .ref g5, .long v_oldRing, .ref g6, .long v_aheadRing, .ref g7]), (h1, xI X 6 v_kind), (h2, xI X 6 v_own), (h3, xI X 7 v_refusals)]) := by
  refine xMetw (Qc := fun A => xQw True (.returned (some (.int u.1))) X [(h0, xO 7 [.int v_laws, .ref h1, .ref h2, .int v_inForce, .int v_depth, .int v_miss, .long v_ring, .int v_size, .int v_people, .ref g0, .int v_seed, .int v_taped, .ref g1, .int v_from, .int v_to, .int v_token, .int v_value, .ref g2, .ref g3, .ref g4, .ref h3, .int v_imaged, .ref g5, .long v_oldRing, .ref g6, .long v_aheadRing, .ref g7]), (h1, xI X 6 v_kind), (h2, xI X 6 v_own), (h3, xI X 7 u.2)] A) (n := 1) md_X7_sameAs.1 (Nat.le_of_ble_eq_true rfl) ?_
  intro p e s m args below meth c ls A hC hr hlk hH hl
  have hl : lv_has ls 4 [(0, .ref h0), (1, .int p1)] := hl
  have hx := hC.1
  have hb := hC.2.1
  have L19 : ∀ (n : Nat) (s19 : Int32 × Int32), xloop (f_X7_sameAs_L19 v_laws v_ring v_size v_kind v_own v_refusals p1) n s19 = some u → ∀ (H : Heap) (locs : List Loc), xH X A [(h0, xO 7 [.int v_laws, .ref h1, .ref h2, .int v_inForce, .int v_depth, .int v_miss, .long v_ring, .int v_size, .int v_people, .ref g0, .int v_seed, .int v_taped, .ref g1, .int v_from, .int v_to, .int v_token, .int v_value, .ref g2, .ref g3, .ref g4, .ref h3, .int v_imaged, .ref g5, .long v_oldRing, .ref g6, .long v_aheadRing, .ref g7]), (h1, xI X 6 v_kind), (h2, xI X 6 v_own), (h3, xI X 7 v_refusals)] s.heap H locs → ∀ (ls : Array Slot), lv_has ls 4 [(0, .ref h0), (1, .int p1), (2, .int s19.1), (3, .int s19.2)] → W p l e (xrm 4 99) s m args below meth c H locs 0 0 (MQ below (xQw True (.returned (some (.int u.1))) X [(h0, xO 7 [.int v_laws, .ref h1, .ref h2, .int v_inForce, .int v_depth, .int v_miss, .long v_ring, .int v_size, .int v_people, .ref g0, .int v_seed, .int v_taped, .ref g1, .int v_from, .int v_to, .int v_token, .int v_value, .ref g2, .ref g3, .ref g4, .ref h3, .int v_imaged, .ref g5, .long v_oldRing, .ref g6, .long v_aheadRing, .ref g7]), (h1, xI X 6 v_kind), (h2, xI X 6 v_own), (h3, xI X 7 u.2)] A) args s 0 0 A) (F0 m 19 ls []) := by
    intro  n
    induction n with
    | zero => intro s19 hf; exact xloop_0 hf
    | succ n ih19 =>
      intro s19 hf H locs hH ls hl
      obtain ⟨o19, hf, ho19⟩ := xloop_s hf
      refine lv_iload_n hx hb dX7_sameAs_19 rfl (lv_at hl 3 rfl) ?_
      refine lv_aload_n hx hb dX7_sameAs_20 rfl (lv_at hl 0 rfl) ?_
      refine x_get hC fd_RX7_52 hH.1 0 rfl rfl dX7_sameAs_21 ?_
      refine lv_icmp_ge (tgt := 69) hx hb dX7_sameAs_24 (by decide) (fun c3 => ?_) (fun c3 => ?_)
      · have hf := xt c3 hf
        refine lv_iload_n hx hb dX7_sameAs_69 rfl (lv_at hl 2 rfl) ?_
        have hf := xo_ret hf ho19
        exact x_retiw (φ := fun _ => True) (f := fun u : Int32 × (Nat → Int32) => u.1) (wf := fun u : Int32 × (Nat → Int32) => [(h0, xO 7 [.int v_laws, .ref h1, .ref h2, .int v_inForce, .int v_depth, .int v_miss, .long v_ring, .int v_size, .int v_people, .ref g0, .int v_seed, .int v_taped, .ref g1, .int v_from, .int v_to, .int v_token, .int v_value, .ref g2, .ref g3, .ref g4, .ref h3, .int v_imaged, .ref g5, .long v_oldRing, .ref g6, .long v_aheadRing, .ref g7]), (h1, xI X 6 v_kind), (h2, xI X 6 v_own), (h3, xI X 7 u.2)]) hC hr hlk trivial hf hH rfl rfl dX7_sameAs_70
      · have hf := xe c3 hf
        refine lv_aload_n hx hb dX7_sameAs_27 rfl (lv_at hl 0 rfl) ?_
        refine lv_iload_n hx hb dX7_sameAs_28 rfl (lv_at hl 3 rfl) ?_
        refine lv_aload_n hx hb dX7_sameAs_29 rfl (lv_at hl 0 rfl) ?_
        refine x_get hC fd_RX7_90 hH.1 0 rfl rfl dX7_sameAs_30 ?_
        refine lv_aload_n hx hb dX7_sameAs_33 rfl (lv_at hl 0 rfl) ?_
        refine x_get hC fd_RX7_62 hH.1 0 rfl rfl dX7_sameAs_34 ?_
        obtain ⟨u4, hf4, hf⟩ := xb hf
        refine x_ran (x_runV (q0 := 0) (rest := []) (As := [.int s19.2, .long v_ring, .int v_size]) hC mw_866 md_X7_struckBits (c_X7_struckBits (X := X) hf4) hH [0, 1, 2] rfl (by decide) rfl rfl rfl hl.1 rfl rfl (Nat.le_of_ble_eq_true rfl) dX7_sameAs_37 ⟨Nat.le_of_ble_eq_true rfl, Nat.le_of_ble_eq_true rfl⟩ ⟨rfl, rfl⟩ ⟨Nat.le_refl _, Nat.le_refl _⟩) rfl (fun hz4 => ?_)
        refine lv_aload_n hx hb dX7_sameAs_40 rfl (lv_at hl 0 rfl) ?_
        refine lv_iload_n hx hb dX7_sameAs_41 rfl (lv_at hl 1 rfl) ?_
        refine lv_aload_n hx hb dX7_sameAs_42 rfl (lv_at hl 0 rfl) ?_
        refine x_get hC fd_RX7_90 hH.1 0 rfl rfl dX7_sameAs_43 ?_
        refine lv_aload_n hx hb dX7_sameAs_46 rfl (lv_at hl 0 rfl) ?_
        refine x_get hC fd_RX7_62 hH.1 0 rfl rfl dX7_sameAs_47 ?_
        obtain ⟨u5, hf5, hf⟩ := xb hf
        refine x_ran (x_runV (q0 := 0) (rest := [.long u4]) (As := [.int p1, .long v_ring, .int v_size]) hC mw_866 md_X7_struckBits (c_X7_struckBits (X := X) hf5) hH [0, 1, 2] rfl (by decide) rfl rfl rfl hl.1 rfl rfl (Nat.le_of_ble_eq_true rfl) dX7_sameAs_50 ⟨Nat.le_of_ble_eq_true rfl, Nat.le_of_ble_eq_true rfl⟩ ⟨rfl, rfl⟩ ⟨Nat.le_refl _, Nat.le_refl _⟩) rfl (fun hz5 => ?_)
        refine x_lcmp hx hb dX7_sameAs_53 ?_
        refine lv_if_ne (tgt := 63) hx hb dX7_sameAs_54 (by decide) (fun c6 => ?_) (fun c6 => ?_)
        · have hf := xe c6 hf
          refine lv_iinc (v := s19.2 + (nI 1)) (lv' := [(3, .int (s19.2 + (nI 1))), (0, .ref h0), (1, .int p1), (2, .int s19.1)]) hx hb dX7_sameAs_63 hl (k := 3) rfl rfl (by decide) rfl (fun ls hl => ?_)
          refine lv_goto (tgt := 19) hx hb dX7_sameAs_66 (by decide) ?_
          have hf := xo_go hf ho19
          exact ih19 (s19.1, s19.2 + (nI 1)) hf _ _ hH ls (lv_sub hl [1, 2, 3, 0] rfl)
        · have hf := xt c6 hf
          refine lv_iload_n hx hb dX7_sameAs_57 rfl (lv_at hl 2 rfl) ?_
          refine lv_iconst (v := (nI 1)) hx hb dX7_sameAs_58 (by decide) ?_
          refine lv_iload_n hx hb dX7_sameAs_59 rfl (lv_at hl 3 rfl) ?_
          refine x_ishl hx hb dX7_sameAs_60 ?_
          refine lv_ior hx hb dX7_sameAs_61 ?_
          refine lv_istore_n (lv' := [(2, .int (s19.1 ||| (xshl (nI 1) s19.2))), (0, .ref h0), (1, .int p1), (3, .int s19.2)]) hx hb dX7_sameAs_62 rfl hl (by decide) rfl (fun ls hl => ?_)
          refine lv_iinc (v := s19.2 + (nI 1)) (lv' := [(3, .int (s19.2 + (nI 1))), (2, .int (s19.1 ||| (xshl (nI 1) s19.2))), (0, .ref h0), (1, .int p1)]) hx hb dX7_sameAs_63 hl (k := 3) rfl rfl (by decide) rfl (fun ls hl => ?_)
          refine lv_goto (tgt := 19) hx hb dX7_sameAs_66 (by decide) ?_
          have hf := xo_go hf ho19
          exact ih19 (s19.1 ||| (xshl (nI 1) s19.2), s19.2 + (nI 1)) hf _ _ hH ls (lv_sub hl [2, 3, 1, 0] rfl)
  refine lv_aload_n hx hb dX7_sameAs_0 rfl (lv_at hl 0 rfl) ?_
  refine lv_iload_n hx hb dX7_sameAs_1 rfl (lv_at hl 1 rfl) ?_
  obtain ⟨u1, hf1, hf⟩ := xb hf
  refine x_ran (x_runV (q0 := 0) (rest := []) (As := [.int p1]) hC mw_243 md_X7_isLaw (c_X7_isLaw (X := X) hf1) hH [0] rfl (by decide) rfl rfl rfl hl.1 rfl rfl (Nat.le_of_ble_eq_true rfl) dX7_sameAs_2 ⟨Nat.le_of_ble_eq_true rfl, Nat.le_of_ble_eq_true rfl⟩ ⟨rfl, rfl⟩ ⟨Nat.le_refl _, Nat.le_refl _⟩) rfl (fun hz1 => ?_)
  refine lv_if_ne (tgt := 15) hx hb dX7_sameAs_5 (by decide) (fun c2 => ?_) (fun c2 => ?_)
  · have hf := xe c2 hf
    refine lv_iconst (v := (nI 0)) hx hb dX7_sameAs_15 (by decide) ?_
    refine lv_istore_n (lv' := [(2, .int (nI 0)), (0, .ref h0), (1, .int p1)]) hx hb dX7_sameAs_16 rfl hl (by decide) rfl (fun ls hl => ?_)
    refine lv_iconst (v := (nI 0)) hx hb dX7_sameAs_17 (by decide) ?_
    refine lv_istore_n (lv' := [(3, .int (nI 0)), (2, .int (nI 0)), (0, .ref h0), (1, .int p1)]) hx hb dX7_sameAs_18 rfl hl (by decide) rfl (fun ls hl => ?_)
    exact L19 xN ((nI 0), (nI 0)) hf _ _ hH ls (lv_sub hl [2, 3, 1, 0] rfl)
  · have hf := xt c2 hf
    refine lv_aload_n hx hb dX7_sameAs_8 rfl (lv_at hl 0 rfl) ?_
    refine lv_bipush (v := (-2 : Int32)) hx hb dX7_sameAs_9 (by decide) ?_
    obtain ⟨u7, hf7, hf⟩ := xb hf
    refine x_ranw (ws' := [(h0, xO 7 [.int v_laws, .ref h1, .ref h2, .int v_inForce, .int v_depth, .int v_miss, .long v_ring, .int v_size, .int v_people, .ref g0, .int v_seed, .int v_taped, .ref g1, .int v_from, .int v_to, .int v_token, .int v_value, .ref g2, .ref g3, .ref g4, .ref h3, .int v_imaged, .ref g5, .long v_oldRing, .ref g6, .long v_aheadRing, .ref g7]), (h1, xI X 6 v_kind), (h2, xI X 6 v_own), (h3, xI X 7 u7.2)]) (x_runV (q0 := 0) (rest := []) (As := [.int (-2 : Int32)]) hC mw_143 md_X7_no (c_X7_no (X := X) hf7) hH [0, 3] rfl (by decide) rfl rfl rfl hl.1 rfl rfl (Nat.le_of_ble_eq_true rfl) dX7_sameAs_11 ⟨Nat.le_of_ble_eq_true rfl, Nat.le_of_ble_eq_true rfl⟩ ⟨rfl, rfl⟩ ⟨Nat.le_refl _, Nat.le_refl _⟩) hH [0, 3] rfl rfl rfl rfl rfl (fun hz7 H locs hH => ?_)
    exact x_retiw (φ := fun _ => True) (f := fun u : Int32 × (Nat → Int32) => u.1) (wf := fun u : Int32 × (Nat → Int32) => [(h0, xO 7 [.int v_laws, .ref h1, .ref h2, .int v_inForce, .int v_depth, .int v_miss, .long v_ring, .int v_size, .int v_people, .ref g0, .int v_seed, .int v_taped, .ref g1, .int v_from, .int v_to, .int v_token, .int v_value, .ref g2, .ref g3, .ref g4, .ref h3, .int v_imaged, .ref g5, .long v_oldRing, .ref g6, .long v_aheadRing, .ref g7]), (h1, xI X 6 v_kind), (h2, xI X 6 v_own), (h3, xI X 7 u.2)]) hC hr hlk trivial hf hH rfl rfl dX7_sameAs_14
def f_X7_areTwo (v_laws : Int32) (p1 : Int32) (p2 : Int32) : Option (Int32) :=
  (f_X7_isLaw v_laws p1).bind fun u1 =>
  if u1 = (nI 0) then
    some (nI 0)
  else
  (f_X7_isLaw v_laws p2).bind fun u3 =>
  if u3 = (nI 0) then
    some (nI 0)
  else
  if p1 = p2 then
    some (nI 0)
  else
  some (nI 1)
set_option maxHeartbeats 4000000 in
set_option maxRecDepth 100000 in
theorem c_X7_areTwo {l : Launch} {X : xG} {h0 g0 g1 g2 g3 g4 g5 g6 g7 g8 g9 g10 : Nat} {v_laws : Int32} {v_inForce : Int32} {v_depth : Int32} {v_miss : Int32} {v_ring : Int64} {v_size : Int32} {v_people : Int32} {v_seed : Int32} {v_taped : Int32} {v_from : Int32} {v_to : Int32} {v_token : Int32} {v_value : Int32} {v_imaged : Int32} {v_oldRing : Int64} {v_aheadRing : Int64} {p1 : Int32} {p2 : Int32} {u : Int32} (hf : f_X7_areTwo v_laws p1 p2 = some u) : Met l yX7_areTwo (xw yX7_areTwo cX7_areTwo 3 (some .boolean)) (xrm 2 43) (xPc [.ref h0, .int p1, .int p2] X [(h0, xO 7 [.int v_laws, .ref g0, .ref g1, .int v_inForce, .int v_depth, .int v_miss, .long v_ring, .int v_size, .int v_people, .ref g2, .int v_seed, .int v_taped, .ref g3, .int v_from, .int v_to, .int v_token, .int v_value, .ref g4, .ref g5, .ref g6, .ref g7, .int v_imaged, .ref g8, .long v_oldRing, .ref g9, .long v_aheadRing, .ref g10])]) (xQ (u = 0 ∨ u = 1) (.returned (some (.int u)))) 0 0 xNo := by
  refine xMet (n := 2) md_X7_areTwo.1 (Nat.le_of_ble_eq_true rfl) ?_
  intro p e s m args below meth c ls A hC hr hlk hH hl
  have hl : lv_has ls 3 [(0, .ref h0), (1, .int p1), (2, .int p2)] := hl
  have hx := hC.1
  have hb := hC.2.1
  refine lv_aload_n hx hb dX7_areTwo_0 rfl (lv_at hl 0 rfl) ?_
  refine lv_iload_n hx hb dX7_areTwo_1 rfl (lv_at hl 1 rfl) ?_
  obtain ⟨u1, hf1, hf⟩ := xb hf
  refine x_ran (x_runV (q0 := 0) (rest := []) (As := [.int p1]) hC mw_243 md_X7_isLaw (c_X7_isLaw (X := X) hf1) hH [0] rfl (by decide) rfl rfl rfl hl.1 rfl rfl (Nat.le_of_ble_eq_true rfl) dX7_areTwo_2 ⟨Nat.le_of_ble_eq_true rfl, Nat.le_of_ble_eq_true rfl⟩ ⟨rfl, rfl⟩ ⟨Nat.le_refl _, Nat.le_refl _⟩) rfl (fun hz1 => ?_)
  refine lv_if_eq (tgt := 25) hx hb dX7_areTwo_5 (by decide) (fun c2 => ?_) (fun c2 => ?_)
  · have hf := xt c2 hf
    refine lv_iconst (v := (nI 0)) hx hb dX7_areTwo_25 (by decide) ?_
    exact x_retz hC hr hlk (Or.inl rfl) hf dX7_areTwo_26
  · have hf := xe c2 hf
    refine lv_aload_n hx hb dX7_areTwo_8 rfl (lv_at hl 0 rfl) ?_
    refine lv_iload_n hx hb dX7_areTwo_9 rfl (lv_at hl 2 rfl) ?_
    obtain ⟨u3, hf3, hf⟩ := xb hf
    refine x_ran (x_runV (q0 := 0) (rest := []) (As := [.int p2]) hC mw_243 md_X7_isLaw (c_X7_isLaw (X := X) hf3) hH [0] rfl (by decide) rfl rfl rfl hl.1 rfl rfl (Nat.le_of_ble_eq_true rfl) dX7_areTwo_10 ⟨Nat.le_of_ble_eq_true rfl, Nat.le_of_ble_eq_true rfl⟩ ⟨rfl, rfl⟩ ⟨Nat.le_refl _, Nat.le_refl _⟩) rfl (fun hz3 => ?_)
    refine lv_if_eq (tgt := 25) hx hb dX7_areTwo_13 (by decide) (fun c4 => ?_) (fun c4 => ?_)
    · have hf := xt c4 hf
      refine lv_iconst (v := (nI 0)) hx hb dX7_areTwo_25 (by decide) ?_
      exact x_retz hC hr hlk (Or.inl rfl) hf dX7_areTwo_26
    · have hf := xe c4 hf
      refine lv_iload_n hx hb dX7_areTwo_16 rfl (lv_at hl 1 rfl) ?_
      refine lv_iload_n hx hb dX7_areTwo_17 rfl (lv_at hl 2 rfl) ?_
      refine lv_icmp_eq (tgt := 25) hx hb dX7_areTwo_18 (by decide) (fun c5 => ?_) (fun c5 => ?_)
      · have hf := xt c5 hf
        refine lv_iconst (v := (nI 0)) hx hb dX7_areTwo_25 (by decide) ?_
        exact x_retz hC hr hlk (Or.inl rfl) hf dX7_areTwo_26
      · have hf := xe c5 hf
        refine lv_iconst (v := (nI 1)) hx hb dX7_areTwo_21 (by decide) ?_
        refine lv_goto (tgt := 26) hx hb dX7_areTwo_22 (by decide) ?_
        exact x_retz hC hr hlk (Or.inr rfl) hf dX7_areTwo_26
def f_J6_numberOfTrailingZeros_0f7a4_J62 (j62_0 : Int32) (j62_1 : Int32) : Option (Int32) :=
  if j62_0 ≤ (nI 4) then
    some (j62_1 + (xushr j62_0 (nI 1)))
  else
  some ((j62_1 + (nI 2)) + (xushr (xushr j62_0 (nI 2)) (nI 1)))
def f_J6_numberOfTrailingZeros_0f7a4_J49 (j49_0 : Int32) (j49_1 : Int32) : Option (Int32) :=
  if j49_0 ≤ (nI 16) then
    f_J6_numberOfTrailingZeros_0f7a4_J62 j49_0 j49_1
  else
  f_J6_numberOfTrailingZeros_0f7a4_J62 (xushr j49_0 (nI 4)) (j49_1 + (nI 4))
def f_J6_numberOfTrailingZeros_0f7a4_J34 (j34_0 : Int32) (j34_1 : Int32) : Option (Int32) :=
  if j34_0 ≤ (nI 256) then
    f_J6_numberOfTrailingZeros_0f7a4_J49 j34_0 j34_1
  else
  f_J6_numberOfTrailingZeros_0f7a4_J49 (xushr j34_0 (nI 8)) (j34_1 + (nI 8))
def f_J6_numberOfTrailingZeros_0f7a4 (p0 : Int32) : Option (Int32) :=
  if (nI 0) < ((p0 ^^^ (-1 : Int32)) &&& (p0 - (nI 1))) then
    if ((p0 ^^^ (-1 : Int32)) &&& (p0 - (nI 1))) ≤ (nI 65536) then
      f_J6_numberOfTrailingZeros_0f7a4_J34 ((p0 ^^^ (-1 : Int32)) &&& (p0 - (nI 1))) (nI 1)
    else
    f_J6_numberOfTrailingZeros_0f7a4_J34 (xushr ((p0 ^^^ (-1 : Int32)) &&& (p0 - (nI 1))) (nI 16)) ((nI 1) + (nI 16))
  else
  some (((p0 ^^^ (-1 : Int32)) &&& (p0 - (nI 1))) &&& (nI 32))
set_option maxHeartbeats 4000000 in
set_option maxRecDepth 100000 in
theorem c_J6_numberOfTrailingZeros_0f7a4 {l : Launch} {X : xG} {p0 : Int32} {u : Int32} (hf : f_J6_numberOfTrailingZeros_0f7a4 p0 = some u) : Met l yJ6_numberOfTrailingZeros_0f7a4 (xw yJ6_numberOfTrailingZeros_0f7a4 cJ6_numberOfTrailingZeros_0f7a4 2 (some .int)) (xrm 0 0) (xPc [.int p0] X []) (xQ True (.returned (some (.int u)))) 0 0 xNo := by
  refine xMet (n := 1) md_J6_numberOfTrailingZeros_0f7a4.1 (Nat.le_of_ble_eq_true rfl) ?_
  intro p e s m args below meth c ls A hC hr hlk hH hl
  have hl : lv_has ls 2 [(0, .int p0)] := hl
  have hx := hC.1
  have hb := hC.2.1
  have J62 : ∀ (j62_0 : Int32) (j62_1 : Int32), f_J6_numberOfTrailingZeros_0f7a4_J62 j62_0 j62_1 = some u → ∀ (ls : Array Slot), lv_has ls 2 [(0, .int j62_0), (1, .int j62_1)] → W p l e (xrm 0 0) s m args below meth c s.heap [] 0 0 (MQ below (xQ True (.returned (some (.int u)))) args s 0 0 xNo) (F0 m 62 ls []) := by
    intro j62_0 j62_1 hf ls hl
    refine lv_iload_n hx hb dJ6_numberOfTrailingZeros_0f7a4_62 rfl (lv_at hl 0 rfl) ?_
    refine lv_iconst (v := (nI 4)) hx hb dJ6_numberOfTrailingZeros_0f7a4_63 (by decide) ?_
    refine lv_icmp_le (tgt := 74) hx hb dJ6_numberOfTrailingZeros_0f7a4_64 (by decide) (fun c5 => ?_) (fun c5 => ?_)
    · have hf := xt c5 hf
      refine lv_iload_n hx hb dJ6_numberOfTrailingZeros_0f7a4_74 rfl (lv_at hl 1 rfl) ?_
      refine lv_iload_n hx hb dJ6_numberOfTrailingZeros_0f7a4_75 rfl (lv_at hl 0 rfl) ?_
      refine lv_iconst (v := (nI 1)) hx hb dJ6_numberOfTrailingZeros_0f7a4_76 (by decide) ?_
      refine x_iushr hx hb dJ6_numberOfTrailingZeros_0f7a4_77 ?_
      refine lv_iadd hx hb dJ6_numberOfTrailingZeros_0f7a4_78 ?_
      exact x_reti hC hr hlk trivial hf dJ6_numberOfTrailingZeros_0f7a4_79
    · have hf := xe c5 hf
      refine lv_iinc (v := j62_1 + (nI 2)) (lv' := [(1, .int (j62_1 + (nI 2))), (0, .int j62_0)]) hx hb dJ6_numberOfTrailingZeros_0f7a4_67 hl (k := 1) rfl rfl (by decide) rfl (fun ls hl => ?_)
      refine lv_iload_n hx hb dJ6_numberOfTrailingZeros_0f7a4_70 rfl (lv_at hl 1 rfl) ?_
      refine lv_iconst (v := (nI 2)) hx hb dJ6_numberOfTrailingZeros_0f7a4_71 (by decide) ?_
      refine x_iushr hx hb dJ6_numberOfTrailingZeros_0f7a4_72 ?_
      refine lv_istore_n (lv' := [(0, .int (xushr j62_0 (nI 2))), (1, .int (j62_1 + (nI 2)))]) hx hb dJ6_numberOfTrailingZeros_0f7a4_73 rfl hl (by decide) rfl (fun ls hl => ?_)
      refine lv_iload_n hx hb dJ6_numberOfTrailingZeros_0f7a4_74 rfl (lv_at hl 1 rfl) ?_
      refine lv_iload_n hx hb dJ6_numberOfTrailingZeros_0f7a4_75 rfl (lv_at hl 0 rfl) ?_
      refine lv_iconst (v := (nI 1)) hx hb dJ6_numberOfTrailingZeros_0f7a4_76 (by decide) ?_
      refine x_iushr hx hb dJ6_numberOfTrailingZeros_0f7a4_77 ?_
      refine lv_iadd hx hb dJ6_numberOfTrailingZeros_0f7a4_78 ?_
      exact x_reti hC hr hlk trivial hf dJ6_numberOfTrailingZeros_0f7a4_79
  have J49 : ∀ (j49_0 : Int32) (j49_1 : Int32), f_J6_numberOfTrailingZeros_0f7a4_J49 j49_0 j49_1 = some u → ∀ (ls : Array Slot), lv_has ls 2 [(0, .int j49_0), (1, .int j49_1)] → W p l e (xrm 0 0) s m args below meth c s.heap [] 0 0 (MQ below (xQ True (.returned (some (.int u)))) args s 0 0 xNo) (F0 m 49 ls []) := by
    intro j49_0 j49_1 hf ls hl
    refine lv_iload_n hx hb dJ6_numberOfTrailingZeros_0f7a4_49 rfl (lv_at hl 0 rfl) ?_
    refine lv_bipush (v := (nI 16)) hx hb dJ6_numberOfTrailingZeros_0f7a4_50 (by decide) ?_
    refine lv_icmp_le (tgt := 62) hx hb dJ6_numberOfTrailingZeros_0f7a4_52 (by decide) (fun c4 => ?_) (fun c4 => ?_)
    · have hf := xt c4 hf
      exact J62 j49_0 j49_1 hf ls (lv_sub hl [0, 1] rfl)
    · have hf := xe c4 hf
      refine lv_iinc (v := j49_1 + (nI 4)) (lv' := [(1, .int (j49_1 + (nI 4))), (0, .int j49_0)]) hx hb dJ6_numberOfTrailingZeros_0f7a4_55 hl (k := 1) rfl rfl (by decide) rfl (fun ls hl => ?_)
      refine lv_iload_n hx hb dJ6_numberOfTrailingZeros_0f7a4_58 rfl (lv_at hl 1 rfl) ?_
      refine lv_iconst (v := (nI 4)) hx hb dJ6_numberOfTrailingZeros_0f7a4_59 (by decide) ?_
      refine x_iushr hx hb dJ6_numberOfTrailingZeros_0f7a4_60 ?_
      refine lv_istore_n (lv' := [(0, .int (xushr j49_0 (nI 4))), (1, .int (j49_1 + (nI 4)))]) hx hb dJ6_numberOfTrailingZeros_0f7a4_61 rfl hl (by decide) rfl (fun ls hl => ?_)
      exact J62 (xushr j49_0 (nI 4)) (j49_1 + (nI 4)) hf ls (lv_sub hl [0, 1] rfl)
  have J34 : ∀ (j34_0 : Int32) (j34_1 : Int32), f_J6_numberOfTrailingZeros_0f7a4_J34 j34_0 j34_1 = some u → ∀ (ls : Array Slot), lv_has ls 2 [(0, .int j34_0), (1, .int j34_1)] → W p l e (xrm 0 0) s m args below meth c s.heap [] 0 0 (MQ below (xQ True (.returned (some (.int u)))) args s 0 0 xNo) (F0 m 34 ls []) := by
    intro j34_0 j34_1 hf ls hl
    refine lv_iload_n hx hb dJ6_numberOfTrailingZeros_0f7a4_34 rfl (lv_at hl 0 rfl) ?_
    refine lv_sipush (v := (nI 256)) hx hb dJ6_numberOfTrailingZeros_0f7a4_35 (by decide) ?_
    refine lv_icmp_le (tgt := 49) hx hb dJ6_numberOfTrailingZeros_0f7a4_38 (by decide) (fun c3 => ?_) (fun c3 => ?_)
    · have hf := xt c3 hf
      exact J49 j34_0 j34_1 hf ls (lv_sub hl [0, 1] rfl)
    · have hf := xe c3 hf
      refine lv_iinc (v := j34_1 + (nI 8)) (lv' := [(1, .int (j34_1 + (nI 8))), (0, .int j34_0)]) hx hb dJ6_numberOfTrailingZeros_0f7a4_41 hl (k := 1) rfl rfl (by decide) rfl (fun ls hl => ?_)
      refine lv_iload_n hx hb dJ6_numberOfTrailingZeros_0f7a4_44 rfl (lv_at hl 1 rfl) ?_
      refine lv_bipush (v := (nI 8)) hx hb dJ6_numberOfTrailingZeros_0f7a4_45 (by decide) ?_
      refine x_iushr hx hb dJ6_numberOfTrailingZeros_0f7a4_47 ?_
      refine lv_istore_n (lv' := [(0, .int (xushr j34_0 (nI 8))), (1, .int (j34_1 + (nI 8)))]) hx hb dJ6_numberOfTrailingZeros_0f7a4_48 rfl hl (by decide) rfl (fun ls hl => ?_)
      exact J49 (xushr j34_0 (nI 8)) (j34_1 + (nI 8)) hf ls (lv_sub hl [0, 1] rfl)
  refine lv_iload_n hx hb dJ6_numberOfTrailingZeros_0f7a4_0 rfl (lv_at hl 0 rfl) ?_
  refine lv_iconst (v := (-1 : Int32)) hx hb dJ6_numberOfTrailingZeros_0f7a4_1 (by decide) ?_
  refine lv_ixor hx hb dJ6_numberOfTrailingZeros_0f7a4_2 ?_
  refine lv_iload_n hx hb dJ6_numberOfTrailingZeros_0f7a4_3 rfl (lv_at hl 0 rfl) ?_
  refine lv_iconst (v := (nI 1)) hx hb dJ6_numberOfTrailingZeros_0f7a4_4 (by decide) ?_
  refine lv_isub hx hb dJ6_numberOfTrailingZeros_0f7a4_5 ?_
  refine lv_iand hx hb dJ6_numberOfTrailingZeros_0f7a4_6 ?_
  refine lv_istore_n (lv' := [(0, .int ((p0 ^^^ (-1 : Int32)) &&& (p0 - (nI 1))))]) hx hb dJ6_numberOfTrailingZeros_0f7a4_7 rfl hl (by decide) rfl (fun ls hl => ?_)
  refine lv_iload_n hx hb dJ6_numberOfTrailingZeros_0f7a4_8 rfl (lv_at hl 0 rfl) ?_
  refine lv_if_gt (tgt := 17) hx hb dJ6_numberOfTrailingZeros_0f7a4_9 (by decide) (fun c1 => ?_) (fun c1 => ?_)
  · have hf := xt c1 hf
    refine lv_iconst (v := (nI 1)) hx hb dJ6_numberOfTrailingZeros_0f7a4_17 (by decide) ?_
    refine lv_istore_n (lv' := [(1, .int (nI 1)), (0, .int ((p0 ^^^ (-1 : Int32)) &&& (p0 - (nI 1))))]) hx hb dJ6_numberOfTrailingZeros_0f7a4_18 rfl hl (by decide) rfl (fun ls hl => ?_)
    refine lv_iload_n hx hb dJ6_numberOfTrailingZeros_0f7a4_19 rfl (lv_at hl 1 rfl) ?_
    refine lv_ldcw (v := (nI 65536)) hx hb hC.2.2.2.1 (hC.2.2.2.2.1 _ mw_893) dJ6_numberOfTrailingZeros_0f7a4_20 ?_
    refine lv_icmp_le (tgt := 34) hx hb dJ6_numberOfTrailingZeros_0f7a4_23 (by decide) (fun c2 => ?_) (fun c2 => ?_)
    · have hf := xt c2 hf
      exact J34 ((p0 ^^^ (-1 : Int32)) &&& (p0 - (nI 1))) (nI 1) hf ls (lv_sub hl [1, 0] rfl)
    · have hf := xe c2 hf
      refine lv_iinc (v := (nI 1) + (nI 16)) (lv' := [(1, .int ((nI 1) + (nI 16))), (0, .int ((p0 ^^^ (-1 : Int32)) &&& (p0 - (nI 1))))]) hx hb dJ6_numberOfTrailingZeros_0f7a4_26 hl (k := 0) rfl rfl (by decide) rfl (fun ls hl => ?_)
      refine lv_iload_n hx hb dJ6_numberOfTrailingZeros_0f7a4_29 rfl (lv_at hl 1 rfl) ?_
      refine lv_bipush (v := (nI 16)) hx hb dJ6_numberOfTrailingZeros_0f7a4_30 (by decide) ?_
      refine x_iushr hx hb dJ6_numberOfTrailingZeros_0f7a4_32 ?_
      refine lv_istore_n (lv' := [(0, .int (xushr ((p0 ^^^ (-1 : Int32)) &&& (p0 - (nI 1))) (nI 16))), (1, .int ((nI 1) + (nI 16)))]) hx hb dJ6_numberOfTrailingZeros_0f7a4_33 rfl hl (by decide) rfl (fun ls hl => ?_)
      exact J34 (xushr ((p0 ^^^ (-1 : Int32)) &&& (p0 - (nI 1))) (nI 16)) ((nI 1) + (nI 16)) hf ls (lv_sub hl [0, 1] rfl)
  · have hf := xe c1 hf
    refine lv_iload_n hx hb dJ6_numberOfTrailingZeros_0f7a4_12 rfl (lv_at hl 0 rfl) ?_
    refine lv_bipush (v := (nI 32)) hx hb dJ6_numberOfTrailingZeros_0f7a4_13 (by decide) ?_
    refine lv_iand hx hb dJ6_numberOfTrailingZeros_0f7a4_15 ?_
    exact x_reti hC hr hlk trivial hf dJ6_numberOfTrailingZeros_0f7a4_16
def f_J13_numberOfTrailingZeros_95d88 (p0 : Int64) : Option (Int32) :=
  if (Int64.toInt32 p0) = (nI 0) then
    (f_J6_numberOfTrailingZeros_0f7a4 (Int64.toInt32 (xlushr p0 (nI 32)))).bind fun u3 =>
    some ((nI 32) + u3)
  else
  (f_J6_numberOfTrailingZeros_0f7a4 (Int64.toInt32 p0)).bind fun u2 =>
  some u2
set_option maxHeartbeats 4000000 in
set_option maxRecDepth 100000 in
theorem c_J13_numberOfTrailingZeros_95d88 {l : Launch} {X : xG} {p0 : Int64} {u : Int32} (hf : f_J13_numberOfTrailingZeros_95d88 p0 = some u) : Met l yJ13_numberOfTrailingZeros_95d88 (xw yJ13_numberOfTrailingZeros_95d88 cJ13_numberOfTrailingZeros_95d88 3 (some .int)) (xrm 1 21) (xPc [.long p0] X []) (xQ True (.returned (some (.int u)))) 0 0 xNo := by
  refine xMet (n := 1) md_J13_numberOfTrailingZeros_95d88.1 (Nat.le_of_ble_eq_true rfl) ?_
  intro p e s m args below meth c ls A hC hr hlk hH hl
  have hl : lv_has ls 3 [(0, .long p0)] := hl
  have hx := hC.1
  have hb := hC.2.1
  refine lv_lload_n hx hb dJ13_numberOfTrailingZeros_95d88_0 rfl (lv_at hl 0 rfl) ?_
  refine lv_l2i hx hb dJ13_numberOfTrailingZeros_95d88_1 rfl ?_
  refine lv_istore_n (lv' := [(2, .int (Int64.toInt32 p0)), (0, .long p0)]) hx hb dJ13_numberOfTrailingZeros_95d88_2 rfl hl (by decide) rfl (fun ls hl => ?_)
  refine lv_iload_n hx hb dJ13_numberOfTrailingZeros_95d88_3 rfl (lv_at hl 0 rfl) ?_
  refine lv_if_ne (tgt := 21) hx hb dJ13_numberOfTrailingZeros_95d88_4 (by decide) (fun c1 => ?_) (fun c1 => ?_)
  · have hf := xe c1 hf
    refine lv_iload_n hx hb dJ13_numberOfTrailingZeros_95d88_21 rfl (lv_at hl 0 rfl) ?_
    obtain ⟨u2, hf2, hf⟩ := xb hf
    refine x_ran (x_runS (rest := []) (As := [.int (Int64.toInt32 p0)]) hC mw_889 md_J6_numberOfTrailingZeros_0f7a4 (c_J6_numberOfTrailingZeros_0f7a4 (X := X) hf2) hH [] rfl (by decide) hl.1 rfl rfl (Nat.le_of_ble_eq_true rfl) dJ13_numberOfTrailingZeros_95d88_22 ⟨Nat.le_of_ble_eq_true rfl, Nat.le_of_ble_eq_true rfl⟩ ⟨rfl, rfl⟩ ⟨Nat.le_refl _, Nat.le_refl _⟩) rfl (fun hz2 => ?_)
    exact x_reti hC hr hlk trivial hf dJ13_numberOfTrailingZeros_95d88_25
  · have hf := xt c1 hf
    refine lv_bipush (v := (nI 32)) hx hb dJ13_numberOfTrailingZeros_95d88_7 (by decide) ?_
    refine lv_lload_n hx hb dJ13_numberOfTrailingZeros_95d88_9 rfl (lv_at hl 1 rfl) ?_
    refine lv_bipush (v := (nI 32)) hx hb dJ13_numberOfTrailingZeros_95d88_10 (by decide) ?_
    refine x_lushr hx hb dJ13_numberOfTrailingZeros_95d88_12 ?_
    refine lv_l2i hx hb dJ13_numberOfTrailingZeros_95d88_13 rfl ?_
    obtain ⟨u3, hf3, hf⟩ := xb hf
    refine x_ran (x_runS (rest := [.int (nI 32)]) (As := [.int (Int64.toInt32 (xlushr p0 (nI 32)))]) hC mw_889 md_J6_numberOfTrailingZeros_0f7a4 (c_J6_numberOfTrailingZeros_0f7a4 (X := X) hf3) hH [] rfl (by decide) hl.1 rfl rfl (Nat.le_of_ble_eq_true rfl) dJ13_numberOfTrailingZeros_95d88_14 ⟨Nat.le_of_ble_eq_true rfl, Nat.le_of_ble_eq_true rfl⟩ ⟨rfl, rfl⟩ ⟨Nat.le_refl _, Nat.le_refl _⟩) rfl (fun hz3 => ?_)
    refine lv_iadd hx hb dJ13_numberOfTrailingZeros_95d88_17 ?_
    refine lv_goto (tgt := 25) hx hb dJ13_numberOfTrailingZeros_95d88_18 (by decide) ?_
    exact x_reti hC hr hlk trivial hf dJ13_numberOfTrailingZeros_95d88_25
def f_X7_apart (v_laws : Int32) (v_ring : Int64) (v_size : Int32) (v_kind : (Nat → Int32)) (v_own : (Nat → Int32)) (v_refusals : (Nat → Int32)) (p1 : Int32) (p2 : Int32) : Option (Int32 × (Nat → Int32)) :=
  (f_X7_areTwo v_laws p1 p2).bind fun u1 =>
  if u1 = (nI 0) then
    (f_X7_no v_refusals (-2 : Int32)).bind fun u7 =>
    some (u7.1, u7.2)
  else
  (f_X7_struckBits v_kind v_own p1 v_ring v_size).bind fun u3 =>
  (f_X7_struckBits v_kind v_own p2 v_ring v_size).bind fun u4 =>
  if (xcmp (u3 ^^^ u4) (lN 0)) = (nI 0) then
    some ((-1 : Int32), v_refusals)
  else
  (f_J13_numberOfTrailingZeros_95d88 (u3 ^^^ u4)).bind fun u6 =>
  some (u6, v_refusals)
set_option maxHeartbeats 4000000 in
set_option maxRecDepth 100000 in
theorem c_X7_apart {l : Launch} {X : xG} {h0 h1 h2 h3 g0 g1 g2 g3 g4 g5 g6 g7 : Nat} {v_laws : Int32} {v_inForce : Int32} {v_depth : Int32} {v_miss : Int32} {v_ring : Int64} {v_size : Int32} {v_people : Int32} {v_seed : Int32} {v_taped : Int32} {v_from : Int32} {v_to : Int32} {v_token : Int32} {v_value : Int32} {v_imaged : Int32} {v_oldRing : Int64} {v_aheadRing : Int64} {v_kind : (Nat → Int32)} {v_own : (Nat → Int32)} {v_refusals : (Nat → Int32)} {p1 : Int32} {p2 : Int32} {u : Int32 × (Nat → Int32)} (hf : f_X7_apart v_laws v_ring v_size v_kind v_own v_refusals p1 p2 = some u) : Met l yX7_apart (xw yX7_apart cX7_apart 5 (some .int)) (xrm 4 99) (xPc [.ref h0, .int p1, .int p2] X [(h0, xO 7 [.int v_laws, .ref h1, .ref h2, .int v_inForce, .int v_depth, .int v_miss, .long v_ring, .int v_size, .int v_people, .ref g0, .int v_seed, .int v_taped, .ref g1, .int v_from, .int v_to, .int v_token, .int v_value, .ref g2, .ref g3, .ref g4, .ref h3, .int v_imaged, .ref g5, .long v_oldRing, .ref g6, .long v_aheadRing, .ref g7]), (h1, xI X 6 v_kind), (h2, xI X 6 v_own), (h3, xI X 7 v_refusals)]) (xQw True (.returned (some (.int u.1))) X [(h0, xO 7 [.int v_laws, .ref h1, .ref h2, .int v_inForce, .int v_depth, .int v_miss, .long v_ring, .int v_size, .int v_people, .ref g0, .int v_seed, .int v_taped, .ref g1, .int v_from, .int v_to, .int v_token, .int v_value, .ref g2, .ref g3, .ref g4, .ref h3, .int v_imaged, .ref g5, .long v_oldRing, .ref g6, .long v_aheadRing, .ref g7]), (h1, xI X 6 v_kind), (h2, xI X 6 v_own), (h3, xI X 7 u.2)] (xAs [(h0, xO 7 [.int v_laws, .ref h1, .ref h2, .int v_inForce, .int v_depth, .int v_miss, .long v_ring, .int v_size, .int v_people, .ref g0, .int v_seed, .int v_taped, .ref g1, .int v_from, .int v_to, .int v_token, .int v_value, .ref g2, .ref g3, .ref g4, .ref h3, .int v_imaged, .ref g5, .long v_oldRing, .ref g6, .long v_aheadRing, .ref g7]), (h1, xI X 6 v_kind), (h2, xI X 6 v_own), (h3, xI X 7 v_refusals)])) 0 0 (xAs [(h0, xO 7 [.int v_laws, .ref h1, .ref h2, .int v_inForce, .int v_depth, .int v_miss, .long v_ring, .int v_size, .int v_people, .ref g0, .int v_seed, .int v_taped, .ref g1, .int v_from, .int v_to, .int v_token, .int v_value, .ref g2, .ref g3, .ref g4, .ref h3, .int v_imaged, .ref g5, .long v_oldRing, .ref g6, .long v_aheadRing, .ref g7]), (h1, xI X 6 v_kind), (h2, xI X 6 v_own), (h3, xI X 7 v_refusals)]) := by
  refine xMetw (Qc := fun A => xQw True (.returned (some (.int u.1))) X [(h0, xO 7 [.int v_laws, .ref h1, .ref h2, .int v_inForce, .int v_depth, .int v_miss, .long v_ring, .int v_size, .int v_people, .ref g0, .int v_seed, .int v_taped, .ref g1, .int v_from, .int v_to, .int v_token, .int v_value, .ref g2, .ref g3, .ref g4, .ref h3, .int v_imaged, .ref g5, .long v_oldRing, .ref g6, .long v_aheadRing, .ref g7]), (h1, xI X 6 v_kind), (h2, xI X 6 v_own), (h3, xI X 7 u.2)] A) (n := 2) md_X7_apart.1 (Nat.le_of_ble_eq_true rfl) ?_
  intro p e s m args below meth c ls A hC hr hlk hH hl
  have hl : lv_has ls 5 [(0, .ref h0), (1, .int p1), (2, .int p2)] := hl
  have hx := hC.1
  have hb := hC.2.1
  refine lv_aload_n hx hb dX7_apart_0 rfl (lv_at hl 0 rfl) ?_
  refine lv_iload_n hx hb dX7_apart_1 rfl (lv_at hl 1 rfl) ?_
  refine lv_iload_n hx hb dX7_apart_2 rfl (lv_at hl 2 rfl) ?_
  obtain ⟨u1, hf1, hf⟩ := xb hf
  refine x_ran (x_runV (q0 := 0) (rest := []) (As := [.int p1, .int p2]) hC mw_882 md_X7_areTwo (c_X7_areTwo (X := X) hf1) hH [0] rfl (by decide) rfl rfl rfl hl.1 rfl rfl (Nat.le_of_ble_eq_true rfl) dX7_apart_3 ⟨Nat.le_of_ble_eq_true rfl, Nat.le_of_ble_eq_true rfl⟩ ⟨rfl, rfl⟩ ⟨Nat.le_refl _, Nat.le_refl _⟩) rfl (fun hz1 => ?_)
  refine lv_if_ne (tgt := 16) hx hb dX7_apart_6 (by decide) (fun c2 => ?_) (fun c2 => ?_)
  · have hf := xe c2 hf
    refine lv_aload_n hx hb dX7_apart_16 rfl (lv_at hl 0 rfl) ?_
    refine lv_iload_n hx hb dX7_apart_17 rfl (lv_at hl 1 rfl) ?_
    refine lv_aload_n hx hb dX7_apart_18 rfl (lv_at hl 0 rfl) ?_
    refine x_get hC fd_RX7_90 hH.1 0 rfl rfl dX7_apart_19 ?_
    refine lv_aload_n hx hb dX7_apart_22 rfl (lv_at hl 0 rfl) ?_
    refine x_get hC fd_RX7_62 hH.1 0 rfl rfl dX7_apart_23 ?_
    obtain ⟨u3, hf3, hf⟩ := xb hf
    refine x_ran (x_runV (q0 := 0) (rest := []) (As := [.int p1, .long v_ring, .int v_size]) hC mw_866 md_X7_struckBits (c_X7_struckBits (X := X) hf3) hH [0, 1, 2] rfl (by decide) rfl rfl rfl hl.1 rfl rfl (Nat.le_of_ble_eq_true rfl) dX7_apart_26 ⟨Nat.le_of_ble_eq_true rfl, Nat.le_of_ble_eq_true rfl⟩ ⟨rfl, rfl⟩ ⟨Nat.le_refl _, Nat.le_refl _⟩) rfl (fun hz3 => ?_)
    refine lv_aload_n hx hb dX7_apart_29 rfl (lv_at hl 0 rfl) ?_
    refine lv_iload_n hx hb dX7_apart_30 rfl (lv_at hl 2 rfl) ?_
    refine lv_aload_n hx hb dX7_apart_31 rfl (lv_at hl 0 rfl) ?_
    refine x_get hC fd_RX7_90 hH.1 0 rfl rfl dX7_apart_32 ?_
    refine lv_aload_n hx hb dX7_apart_35 rfl (lv_at hl 0 rfl) ?_
    refine x_get hC fd_RX7_62 hH.1 0 rfl rfl dX7_apart_36 ?_
    obtain ⟨u4, hf4, hf⟩ := xb hf
    refine x_ran (x_runV (q0 := 0) (rest := [.long u3]) (As := [.int p2, .long v_ring, .int v_size]) hC mw_866 md_X7_struckBits (c_X7_struckBits (X := X) hf4) hH [0, 1, 2] rfl (by decide) rfl rfl rfl hl.1 rfl rfl (Nat.le_of_ble_eq_true rfl) dX7_apart_39 ⟨Nat.le_of_ble_eq_true rfl, Nat.le_of_ble_eq_true rfl⟩ ⟨rfl, rfl⟩ ⟨Nat.le_refl _, Nat.le_refl _⟩) rfl (fun hz4 => ?_)
    refine lv_lxor hx hb dX7_apart_42 ?_
    refine lv_lstore_n (lv' := [(3, .long (u3 ^^^ u4)), (0, .ref h0), (1, .int p1), (2, .int p2)]) hx hb dX7_apart_43 rfl hl (by decide) rfl (fun ls hl => ?_)
    refine lv_lload_n hx hb dX7_apart_44 rfl (lv_at hl 0 rfl) ?_
    refine lv_lconst (v := (lN 0)) hx hb dX7_apart_45 (by decide) ?_
    refine x_lcmp hx hb dX7_apart_46 ?_
    refine lv_if_ne (tgt := 54) hx hb dX7_apart_47 (by decide) (fun c5 => ?_) (fun c5 => ?_)
    · have hf := xe c5 hf
      refine lv_lload_n hx hb dX7_apart_54 rfl (lv_at hl 0 rfl) ?_
      obtain ⟨u6, hf6, hf⟩ := xb hf
      refine x_ran (x_runS (rest := []) (As := [.long (u3 ^^^ u4)]) hC mw_886 md_J13_numberOfTrailingZeros_95d88 (c_J13_numberOfTrailingZeros_95d88 (X := X) hf6) hH [] rfl (by decide) hl.1 rfl rfl (Nat.le_of_ble_eq_true rfl) dX7_apart_55 ⟨Nat.le_of_ble_eq_true rfl, Nat.le_of_ble_eq_true rfl⟩ ⟨rfl, rfl⟩ ⟨Nat.le_refl _, Nat.le_refl _⟩) rfl (fun hz6 => ?_)
      exact x_retiw (φ := fun _ => True) (f := fun u : Int32 × (Nat → Int32) => u.1) (wf := fun u : Int32 × (Nat → Int32) => [(h0, xO 7 [.int v_laws, .ref h1, .ref h2, .int v_inForce, .int v_depth, .int v_miss, .long v_ring, .int v_size, .int v_people, .ref g0, .int v_seed, .int v_taped, .ref g1, .int v_from, .int v_to, .int v_token, .int v_value, .ref g2, .ref g3, .ref g4, .ref h3, .int v_imaged, .ref g5, .long v_oldRing, .ref g6, .long v_aheadRing, .ref g7]), (h1, xI X 6 v_kind), (h2, xI X 6 v_own), (h3, xI X 7 u.2)]) hC hr hlk trivial hf hH rfl rfl dX7_apart_58
    · have hf := xt c5 hf
      refine lv_iconst (v := (-1 : Int32)) hx hb dX7_apart_50 (by decide) ?_
      refine lv_goto (tgt := 58) hx hb dX7_apart_51 (by decide) ?_
      exact x_retiw (φ := fun _ => True) (f := fun u : Int32 × (Nat → Int32) => u.1) (wf := fun u : Int32 × (Nat → Int32) => [(h0, xO 7 [.int v_laws, .ref h1, .ref h2, .int v_inForce, .int v_depth, .int v_miss, .long v_ring, .int v_size, .int v_people, .ref g0, .int v_seed, .int v_taped, .ref g1, .int v_from, .int v_to, .int v_token, .int v_value, .ref g2, .ref g3, .ref g4, .ref h3, .int v_imaged, .ref g5, .long v_oldRing, .ref g6, .long v_aheadRing, .ref g7]), (h1, xI X 6 v_kind), (h2, xI X 6 v_own), (h3, xI X 7 u.2)]) hC hr hlk trivial hf hH rfl rfl dX7_apart_58
  · have hf := xt c2 hf
    refine lv_aload_n hx hb dX7_apart_9 rfl (lv_at hl 0 rfl) ?_
    refine lv_bipush (v := (-2 : Int32)) hx hb dX7_apart_10 (by decide) ?_
    obtain ⟨u7, hf7, hf⟩ := xb hf
    refine x_ranw (ws' := [(h0, xO 7 [.int v_laws, .ref h1, .ref h2, .int v_inForce, .int v_depth, .int v_miss, .long v_ring, .int v_size, .int v_people, .ref g0, .int v_seed, .int v_taped, .ref g1, .int v_from, .int v_to, .int v_token, .int v_value, .ref g2, .ref g3, .ref g4, .ref h3, .int v_imaged, .ref g5, .long v_oldRing, .ref g6, .long v_aheadRing, .ref g7]), (h1, xI X 6 v_kind), (h2, xI X 6 v_own), (h3, xI X 7 u7.2)]) (x_runV (q0 := 0) (rest := []) (As := [.int (-2 : Int32)]) hC mw_143 md_X7_no (c_X7_no (X := X) hf7) hH [0, 3] rfl (by decide) rfl rfl rfl hl.1 rfl rfl (Nat.le_of_ble_eq_true rfl) dX7_apart_12 ⟨Nat.le_of_ble_eq_true rfl, Nat.le_of_ble_eq_true rfl⟩ ⟨rfl, rfl⟩ ⟨Nat.le_refl _, Nat.le_refl _⟩) hH [0, 3] rfl rfl rfl rfl rfl (fun hz7 H locs hH => ?_)
    exact x_retiw (φ := fun _ => True) (f := fun u : Int32 × (Nat → Int32) => u.1) (wf := fun u : Int32 × (Nat → Int32) => [(h0, xO 7 [.int v_laws, .ref h1, .ref h2, .int v_inForce, .int v_depth, .int v_miss, .long v_ring, .int v_size, .int v_people, .ref g0, .int v_seed, .int v_taped, .ref g1, .int v_from, .int v_to, .int v_token, .int v_value, .ref g2, .ref g3, .ref g4, .ref h3, .int v_imaged, .ref g5, .long v_oldRing, .ref g6, .long v_aheadRing, .ref g7]), (h1, xI X 6 v_kind), (h2, xI X 6 v_own), (h3, xI X 7 u.2)]) hC hr hlk trivial hf hH rfl rfl dX7_apart_15
def f_X7_parts_L38 (v_kind : (Nat → Int32)) (v_own : (Nat → Int32)) (v_refusals : (Nat → Int32)) (p1 : Int32) (p2 : Int32) (p3 : Int32) (s28 : Int32) (s38 : Int32) : Option (((Int32 × (Nat → Int32)) ⊕ (Int32)) ⊕ (Int32)) :=
  if (xshl (nI 1) s28) ≤ s38 then
    some (.inl (.inr (s28 + (nI 1))))
  else
  (f_X7_struckBits v_kind v_own p1 (Int32.toInt64 s38) s28).bind fun u8 =>
  (f_X7_struckBits v_kind v_own p2 (Int32.toInt64 s38) s28).bind fun u9 =>
  if (xcmp u8 u9) = (nI 0) then
    some (.inr (s38 + (nI 1)))
  else
  if p3 = (nI 0) then
    some (.inl (.inl (s28, v_refusals)))
  else
  some (.inl (.inl (s38, v_refusals)))
def f_X7_parts_L28 (v_kind : (Nat → Int32)) (v_own : (Nat → Int32)) (v_refusals : (Nat → Int32)) (p1 : Int32) (p2 : Int32) (p3 : Int32) (s28 : Int32) : Option ((Int32 × (Nat → Int32)) ⊕ (Int32)) :=
  if (nI 13) ≤ s28 then
    some (.inl ((-1 : Int32), v_refusals))
  else
  xloop (f_X7_parts_L38 v_kind v_own v_refusals p1 p2 p3 s28) xN (nI 0)
def f_X7_parts (v_laws : Int32) (v_kind : (Nat → Int32)) (v_own : (Nat → Int32)) (v_refusals : (Nat → Int32)) (p1 : Int32) (p2 : Int32) (p3 : Int32) : Option (Int32 × (Nat → Int32)) :=
  (f_X7_areTwo v_laws p1 p2).bind fun u1 =>
  if u1 = (nI 0) then
    (f_X7_no v_refusals (-2 : Int32)).bind fun u3 =>
    some (u3.1, u3.2)
  else
  (f_X7_within p3 (nI 0) (nI 1)).bind fun u4 =>
  if u4 = (nI 0) then
    (f_X7_no v_refusals (-2 : Int32)).bind fun u12 =>
    some (u12.1, u12.2)
  else
  xloop (f_X7_parts_L28 v_kind v_own v_refusals p1 p2 p3) xN (nI 1)
set_option maxHeartbeats 4000000 in
set_option maxRecDepth 100000 in
theorem c_X7_parts {l : Launch} {X : xG} {h0 h1 h2 h3 g0 g1 g2 g3 g4 g5 g6 g7 : Nat} {v_laws : Int32} {v_inForce : Int32} {v_depth : Int32} {v_miss : Int32} {v_ring : Int64} {v_size : Int32} {v_people : Int32} {v_seed : Int32} {v_taped : Int32} {v_from : Int32} {v_to : Int32} {v_token : Int32} {v_value : Int32} {v_imaged : Int32} {v_oldRing : Int64} {v_aheadRing : Int64} {v_kind : (Nat → Int32)} {v_own : (Nat → Int32)} {v_refusals : (Nat → Int32)} {p1 : Int32} {p2 : Int32} {p3 : Int32} {u : Int32 × (Nat → Int32)} (hf : f_X7_parts v_laws v_kind v_own v_refusals p1 p2 p3 = some u) : Met l yX7_parts (xw yX7_parts cX7_parts 6 (some .int)) (xrm 4 99) (xPc [.ref h0, .int p1, .int p2, .int p3] X [(h0, xO 7 [.int v_laws, .ref h1, .ref h2, .int v_inForce, .int v_depth, .int v_miss, .long v_ring, .int v_size, .int v_people, .ref g0, .int v_seed, .int v_taped, .ref g1, .int v_from, .int v_to, .int v_token, .int v_value, .ref g2, .ref g3, .ref g4, .ref h3, .int v_imaged, .ref g5, .long v_oldRing, .ref g6, .long v_aheadRing, .ref g7]), (h1, xI X 6 v_kind), (h2, xI X 6 v_own), (h3, xI X 7 v_refusals)]) (xQw True (.returned (some (.int u.1))) X [(h0, xO 7 [.int v_laws, .ref h1, .ref h2, .int v_inForce, .int v_depth, .int v_miss, .long v_ring, .int v_size, .int v_people, .ref g0, .int v_seed, .int v_taped, .ref g1, .int v_from, .int v_to, .int v_token, .int v_value, .ref g2, .ref g3, .ref g4, .ref h3, .int v_imaged, .ref g5, .long v_oldRing, .ref g6, .long v_aheadRing, .ref g7]), (h1, xI X 6 v_kind), (h2, xI X 6 v_own), (h3, xI X 7 u.2)] (xAs [(h0, xO 7 [.int v_laws, .ref h1, .ref h2, .int v_inForce, .int v_depth, .int v_miss, .long v_ring, .int v_size, .int v_people, .ref g0, .int v_seed, .int v_taped, .ref g1, .int v_from, .int v_to, .int v_token, .int v_value, .ref g2, .ref g3, .ref g4, .ref h3, .int v_imaged, .ref g5, .long v_oldRing, .ref g6, .long v_aheadRing, .ref g7]), (h1, xI X 6 v_kind), (h2, xI X 6 v_own), (h3, xI X 7 v_refusals)])) 0 0 (xAs [(h0, xO 7 [.int v_laws, .ref h1, .ref h2, .int v_inForce, .int v_depth, .int v_miss, .long v_ring, .int v_size, .int v_people, .ref g0, .int v_seed, .int v_taped, .ref g1, .int v_from, .int v_to, .int v_token, .int v_value, .ref g2, .ref g3, .ref g4, .ref h3, .int v_imaged, .ref g5, .long v_oldRing, .ref g6, .long v_aheadRing, .ref g7]), (h1, xI X 6 v_kind), (h2, xI X 6 v_own), (h3, xI X 7 v_refusals)]) := by
  refine xMetw (Qc := fun A => xQw True (.returned (some (.int u.1))) X [(h0, xO 7 [.int v_laws, .ref h1, .ref h2, .int v_inForce, .int v_depth, .int v_miss, .long v_ring, .int v_size, .int v_people, .ref g0, .int v_seed, .int v_taped, .ref g1, .int v_from, .int v_to, .int v_token, .int v_value, .ref g2, .ref g3, .ref g4, .ref h3, .int v_imaged, .ref g5, .long v_oldRing, .ref g6, .long v_aheadRing, .ref g7]), (h1, xI X 6 v_kind), (h2, xI X 6 v_own), (h3, xI X 7 u.2)] A) (n := 3) md_X7_parts.1 (Nat.le_of_ble_eq_true rfl) ?_
  intro p e s m args below meth c ls A hC hr hlk hH hl
  have hl : lv_has ls 6 [(0, .ref h0), (1, .int p1), (2, .int p2), (3, .int p3)] := hl
  have hx := hC.1
  have hb := hC.2.1
  have L28 : ∀ (n : Nat) (s28 : Int32), xloop (f_X7_parts_L28 v_kind v_own v_refusals p1 p2 p3) n s28 = some u → ∀ (H : Heap) (locs : List Loc), xH X A [(h0, xO 7 [.int v_laws, .ref h1, .ref h2, .int v_inForce, .int v_depth, .int v_miss, .long v_ring, .int v_size, .int v_people, .ref g0, .int v_seed, .int v_taped, .ref g1, .int v_from, .int v_to, .int v_token, .int v_value, .ref g2, .ref g3, .ref g4, .ref h3, .int v_imaged, .ref g5, .long v_oldRing, .ref g6, .long v_aheadRing, .ref g7]), (h1, xI X 6 v_kind), (h2, xI X 6 v_own), (h3, xI X 7 v_refusals)] s.heap H locs → ∀ (ls : Array Slot), lv_has ls 6 [(0, .ref h0), (1, .int p1), (2, .int p2), (3, .int p3), (4, .int s28)] → W p l e (xrm 4 99) s m args below meth c H locs 0 0 (MQ below (xQw True (.returned (some (.int u.1))) X [(h0, xO 7 [.int v_laws, .ref h1, .ref h2, .int v_inForce, .int v_depth, .int v_miss, .long v_ring, .int v_size, .int v_people, .ref g0, .int v_seed, .int v_taped, .ref g1, .int v_from, .int v_to, .int v_token, .int v_value, .ref g2, .ref g3, .ref g4, .ref h3, .int v_imaged, .ref g5, .long v_oldRing, .ref g6, .long v_aheadRing, .ref g7]), (h1, xI X 6 v_kind), (h2, xI X 6 v_own), (h3, xI X 7 u.2)] A) args s 0 0 A) (F0 m 28 ls []) := by
    intro  n
    induction n with
    | zero => intro s28 hf; exact xloop_0 hf
    | succ n ih28 =>
      intro s28 hf H locs hH ls hl
      obtain ⟨o28, hf, ho28⟩ := xloop_s hf
      have L38 : ∀ (n : Nat) (s38 : Int32), xloop (f_X7_parts_L38 v_kind v_own v_refusals p1 p2 p3 s28) n s38 = some o28 → ∀ (H : Heap) (locs : List Loc), xH X A [(h0, xO 7 [.int v_laws, .ref h1, .ref h2, .int v_inForce, .int v_depth, .int v_miss, .long v_ring, .int v_size, .int v_people, .ref g0, .int v_seed, .int v_taped, .ref g1, .int v_from, .int v_to, .int v_token, .int v_value, .ref g2, .ref g3, .ref g4, .ref h3, .int v_imaged, .ref g5, .long v_oldRing, .ref g6, .long v_aheadRing, .ref g7]), (h1, xI X 6 v_kind), (h2, xI X 6 v_own), (h3, xI X 7 v_refusals)] s.heap H locs → ∀ (ls : Array Slot), lv_has ls 6 [(0, .ref h0), (1, .int p1), (2, .int p2), (3, .int p3), (4, .int s28), (5, .int s38)] → W p l e (xrm 4 99) s m args below meth c H locs 0 0 (MQ below (xQw True (.returned (some (.int u.1))) X [(h0, xO 7 [.int v_laws, .ref h1, .ref h2, .int v_inForce, .int v_depth, .int v_miss, .long v_ring, .int v_size, .int v_people, .ref g0, .int v_seed, .int v_taped, .ref g1, .int v_from, .int v_to, .int v_token, .int v_value, .ref g2, .ref g3, .ref g4, .ref h3, .int v_imaged, .ref g5, .long v_oldRing, .ref g6, .long v_aheadRing, .ref g7]), (h1, xI X 6 v_kind), (h2, xI X 6 v_own), (h3, xI X 7 u.2)] A) args s 0 0 A) (F0 m 38 ls []) := by
        intro  n
        induction n with
        | zero => intro s38 hf; exact xloop_0 hf
        | succ n ih38 =>
          intro s38 hf H locs hH ls hl
          obtain ⟨o38, hf, ho38⟩ := xloop_s hf
          refine lv_iload hx hb dX7_parts_38 (lv_at hl 5 rfl) ?_
          refine lv_iconst (v := (nI 1)) hx hb dX7_parts_40 (by decide) ?_
          refine lv_iload hx hb dX7_parts_41 (lv_at hl 4 rfl) ?_
          refine x_ishl hx hb dX7_parts_43 ?_
          refine lv_icmp_ge (tgt := 89) hx hb dX7_parts_44 (by decide) (fun c7 => ?_) (fun c7 => ?_)
          · have hf := xt c7 hf
            refine lv_iinc (v := s28 + (nI 1)) (lv' := [(4, .int (s28 + (nI 1))), (0, .ref h0), (1, .int p1), (2, .int p2), (3, .int p3), (5, .int s38)]) hx hb dX7_parts_89 hl (k := 4) rfl rfl (by decide) rfl (fun ls hl => ?_)
            refine lv_goto (tgt := 28) hx hb dX7_parts_92 (by decide) ?_
            have hf := xo_ret hf ho38
            have hf := xo_go hf ho28
            exact ih28 (s28 + (nI 1)) hf _ _ hH ls (lv_sub hl [1, 2, 3, 4, 0] rfl)
          · have hf := xe c7 hf
            refine lv_aload_n hx hb dX7_parts_47 rfl (lv_at hl 0 rfl) ?_
            refine lv_iload_n hx hb dX7_parts_48 rfl (lv_at hl 1 rfl) ?_
            refine lv_iload hx hb dX7_parts_49 (lv_at hl 5 rfl) ?_
            refine lv_i2l hx hb dX7_parts_51 rfl ?_
            refine lv_iload hx hb dX7_parts_52 (lv_at hl 4 rfl) ?_
            obtain ⟨u8, hf8, hf⟩ := xb hf
            refine x_ran (x_runV (q0 := 0) (rest := []) (As := [.int p1, .long (Int32.toInt64 s38), .int s28]) hC mw_866 md_X7_struckBits (c_X7_struckBits (X := X) hf8) hH [0, 1, 2] rfl (by decide) rfl rfl rfl hl.1 rfl rfl (Nat.le_of_ble_eq_true rfl) dX7_parts_54 ⟨Nat.le_of_ble_eq_true rfl, Nat.le_of_ble_eq_true rfl⟩ ⟨rfl, rfl⟩ ⟨Nat.le_refl _, Nat.le_refl _⟩) rfl (fun hz8 => ?_)
            refine lv_aload_n hx hb dX7_parts_57 rfl (lv_at hl 0 rfl) ?_
            refine lv_iload_n hx hb dX7_parts_58 rfl (lv_at hl 2 rfl) ?_
            refine lv_iload hx hb dX7_parts_59 (lv_at hl 5 rfl) ?_
            refine lv_i2l hx hb dX7_parts_61 rfl ?_
            refine lv_iload hx hb dX7_parts_62 (lv_at hl 4 rfl) ?_
            obtain ⟨u9, hf9, hf⟩ := xb hf
            refine x_ran (x_runV (q0 := 0) (rest := [.long u8]) (As := [.int p2, .long (Int32.toInt64 s38), .int s28]) hC mw_866 md_X7_struckBits (c_X7_struckBits (X := X) hf9) hH [0, 1, 2] rfl (by decide) rfl rfl rfl hl.1 rfl rfl (Nat.le_of_ble_eq_true rfl) dX7_parts_64 ⟨Nat.le_of_ble_eq_true rfl, Nat.le_of_ble_eq_true rfl⟩ ⟨rfl, rfl⟩ ⟨Nat.le_refl _, Nat.le_refl _⟩) rfl (fun hz9 => ?_)
            refine x_lcmp hx hb dX7_parts_67 ?_
            refine lv_if_eq (tgt := 83) hx hb dX7_parts_68 (by decide) (fun c10 => ?_) (fun c10 => ?_)
            · have hf := xt c10 hf
              refine lv_iinc (v := s38 + (nI 1)) (lv' := [(5, .int (s38 + (nI 1))), (0, .ref h0), (1, .int p1), (2, .int p2), (3, .int p3), (4, .int s28)]) hx hb dX7_parts_83 hl (k := 5) rfl rfl (by decide) rfl (fun ls hl => ?_)
              refine lv_goto (tgt := 38) hx hb dX7_parts_86 (by decide) ?_
              have hf := xo_go hf ho38
              exact ih38 (s38 + (nI 1)) hf _ _ hH ls (lv_sub hl [1, 2, 3, 4, 5, 0] rfl)
            · have hf := xe c10 hf
              refine lv_iload_n hx hb dX7_parts_71 rfl (lv_at hl 3 rfl) ?_
              refine lv_if_ne (tgt := 80) hx hb dX7_parts_72 (by decide) (fun c11 => ?_) (fun c11 => ?_)
              · have hf := xe c11 hf
                refine lv_iload hx hb dX7_parts_80 (lv_at hl 5 rfl) ?_
                have hf := xo_ret hf ho38
                have hf := xo_ret hf ho28
                exact x_retiw (φ := fun _ => True) (f := fun u : Int32 × (Nat → Int32) => u.1) (wf := fun u : Int32 × (Nat → Int32) => [(h0, xO 7 [.int v_laws, .ref h1, .ref h2, .int v_inForce, .int v_depth, .int v_miss, .long v_ring, .int v_size, .int v_people, .ref g0, .int v_seed, .int v_taped, .ref g1, .int v_from, .int v_to, .int v_token, .int v_value, .ref g2, .ref g3, .ref g4, .ref h3, .int v_imaged, .ref g5, .long v_oldRing, .ref g6, .long v_aheadRing, .ref g7]), (h1, xI X 6 v_kind), (h2, xI X 6 v_own), (h3, xI X 7 u.2)]) hC hr hlk trivial hf hH rfl rfl dX7_parts_82
              · have hf := xt c11 hf
                refine lv_iload hx hb dX7_parts_75 (lv_at hl 4 rfl) ?_
                refine lv_goto (tgt := 82) hx hb dX7_parts_77 (by decide) ?_
                have hf := xo_ret hf ho38
                have hf := xo_ret hf ho28
                exact x_retiw (φ := fun _ => True) (f := fun u : Int32 × (Nat → Int32) => u.1) (wf := fun u : Int32 × (Nat → Int32) => [(h0, xO 7 [.int v_laws, .ref h1, .ref h2, .int v_inForce, .int v_depth, .int v_miss, .long v_ring, .int v_size, .int v_people, .ref g0, .int v_seed, .int v_taped, .ref g1, .int v_from, .int v_to, .int v_token, .int v_value, .ref g2, .ref g3, .ref g4, .ref h3, .int v_imaged, .ref g5, .long v_oldRing, .ref g6, .long v_aheadRing, .ref g7]), (h1, xI X 6 v_kind), (h2, xI X 6 v_own), (h3, xI X 7 u.2)]) hC hr hlk trivial hf hH rfl rfl dX7_parts_82
      refine lv_iload hx hb dX7_parts_28 (lv_at hl 4 rfl) ?_
      refine lv_bipush (v := (nI 13)) hx hb dX7_parts_30 (by decide) ?_
      refine lv_icmp_ge (tgt := 95) hx hb dX7_parts_32 (by decide) (fun c6 => ?_) (fun c6 => ?_)
      · have hf := xt c6 hf
        refine lv_iconst (v := (-1 : Int32)) hx hb dX7_parts_95 (by decide) ?_
        have hf := xo_ret hf ho28
        exact x_retiw (φ := fun _ => True) (f := fun u : Int32 × (Nat → Int32) => u.1) (wf := fun u : Int32 × (Nat → Int32) => [(h0, xO 7 [.int v_laws, .ref h1, .ref h2, .int v_inForce, .int v_depth, .int v_miss, .long v_ring, .int v_size, .int v_people, .ref g0, .int v_seed, .int v_taped, .ref g1, .int v_from, .int v_to, .int v_token, .int v_value, .ref g2, .ref g3, .ref g4, .ref h3, .int v_imaged, .ref g5, .long v_oldRing, .ref g6, .long v_aheadRing, .ref g7]), (h1, xI X 6 v_kind), (h2, xI X 6 v_own), (h3, xI X 7 u.2)]) hC hr hlk trivial hf hH rfl rfl dX7_parts_96
      · have hf := xe c6 hf
        refine lv_iconst (v := (nI 0)) hx hb dX7_parts_35 (by decide) ?_
        refine lv_istore (lv' := [(5, .int (nI 0)), (0, .ref h0), (1, .int p1), (2, .int p2), (3, .int p3), (4, .int s28)]) hx hb dX7_parts_36 hl (by decide) rfl (fun ls hl => ?_)
        exact L38 xN (nI 0) hf _ _ hH ls (lv_sub hl [1, 2, 3, 4, 5, 0] rfl)
  refine lv_aload_n hx hb dX7_parts_0 rfl (lv_at hl 0 rfl) ?_
  refine lv_iload_n hx hb dX7_parts_1 rfl (lv_at hl 1 rfl) ?_
  refine lv_iload_n hx hb dX7_parts_2 rfl (lv_at hl 2 rfl) ?_
  obtain ⟨u1, hf1, hf⟩ := xb hf
  refine x_ran (x_runV (q0 := 0) (rest := []) (As := [.int p1, .int p2]) hC mw_882 md_X7_areTwo (c_X7_areTwo (X := X) hf1) hH [0] rfl (by decide) rfl rfl rfl hl.1 rfl rfl (Nat.le_of_ble_eq_true rfl) dX7_parts_3 ⟨Nat.le_of_ble_eq_true rfl, Nat.le_of_ble_eq_true rfl⟩ ⟨rfl, rfl⟩ ⟨Nat.le_refl _, Nat.le_refl _⟩) rfl (fun hz1 => ?_)
  refine lv_if_eq (tgt := 18) hx hb dX7_parts_6 (by decide) (fun c2 => ?_) (fun c2 => ?_)
  · have hf := xt c2 hf
    refine lv_aload_n hx hb dX7_parts_18 rfl (lv_at hl 0 rfl) ?_
    refine lv_bipush (v := (-2 : Int32)) hx hb dX7_parts_19 (by decide) ?_
    obtain ⟨u3, hf3, hf⟩ := xb hf
    refine x_ranw (ws' := [(h0, xO 7 [.int v_laws, .ref h1, .ref h2, .int v_inForce, .int v_depth, .int v_miss, .long v_ring, .int v_size, .int v_people, .ref g0, .int v_seed, .int v_taped, .ref g1, .int v_from, .int v_to, .int v_token, .int v_value, .ref g2, .ref g3, .ref g4, .ref h3, .int v_imaged, .ref g5, .long v_oldRing, .ref g6, .long v_aheadRing, .ref g7]), (h1, xI X 6 v_kind), (h2, xI X 6 v_own), (h3, xI X 7 u3.2)]) (x_runV (q0 := 0) (rest := []) (As := [.int (-2 : Int32)]) hC mw_143 md_X7_no (c_X7_no (X := X) hf3) hH [0, 3] rfl (by decide) rfl rfl rfl hl.1 rfl rfl (Nat.le_of_ble_eq_true rfl) dX7_parts_21 ⟨Nat.le_of_ble_eq_true rfl, Nat.le_of_ble_eq_true rfl⟩ ⟨rfl, rfl⟩ ⟨Nat.le_refl _, Nat.le_refl _⟩) hH [0, 3] rfl rfl rfl rfl rfl (fun hz3 H locs hH => ?_)
    exact x_retiw (φ := fun _ => True) (f := fun u : Int32 × (Nat → Int32) => u.1) (wf := fun u : Int32 × (Nat → Int32) => [(h0, xO 7 [.int v_laws, .ref h1, .ref h2, .int v_inForce, .int v_depth, .int v_miss, .long v_ring, .int v_size, .int v_people, .ref g0, .int v_seed, .int v_taped, .ref g1, .int v_from, .int v_to, .int v_token, .int v_value, .ref g2, .ref g3, .ref g4, .ref h3, .int v_imaged, .ref g5, .long v_oldRing, .ref g6, .long v_aheadRing, .ref g7]), (h1, xI X 6 v_kind), (h2, xI X 6 v_own), (h3, xI X 7 u.2)]) hC hr hlk trivial hf hH rfl rfl dX7_parts_24
  · have hf := xe c2 hf
    refine lv_iload_n hx hb dX7_parts_9 rfl (lv_at hl 3 rfl) ?_
    refine lv_iconst (v := (nI 0)) hx hb dX7_parts_10 (by decide) ?_
    refine lv_iconst (v := (nI 1)) hx hb dX7_parts_11 (by decide) ?_
    obtain ⟨u4, hf4, hf⟩ := xb hf
    refine x_ran (x_runS (rest := []) (As := [.int p3, .int (nI 0), .int (nI 1)]) hC mw_140 md_X7_within (c_X7_within (X := X) hf4) hH [] rfl (by decide) hl.1 rfl rfl (Nat.le_of_ble_eq_true rfl) dX7_parts_12 ⟨Nat.le_of_ble_eq_true rfl, Nat.le_of_ble_eq_true rfl⟩ ⟨rfl, rfl⟩ ⟨Nat.le_refl _, Nat.le_refl _⟩) rfl (fun hz4 => ?_)
    refine lv_if_ne (tgt := 25) hx hb dX7_parts_15 (by decide) (fun c5 => ?_) (fun c5 => ?_)
    · have hf := xe c5 hf
      refine lv_iconst (v := (nI 1)) hx hb dX7_parts_25 (by decide) ?_
      refine lv_istore (lv' := [(4, .int (nI 1)), (0, .ref h0), (1, .int p1), (2, .int p2), (3, .int p3)]) hx hb dX7_parts_26 hl (by decide) rfl (fun ls hl => ?_)
      exact L28 xN (nI 1) hf _ _ hH ls (lv_sub hl [1, 2, 3, 4, 0] rfl)
    · have hf := xt c5 hf
      refine lv_aload_n hx hb dX7_parts_18 rfl (lv_at hl 0 rfl) ?_
      refine lv_bipush (v := (-2 : Int32)) hx hb dX7_parts_19 (by decide) ?_
      obtain ⟨u12, hf12, hf⟩ := xb hf
      refine x_ranw (ws' := [(h0, xO 7 [.int v_laws, .ref h1, .ref h2, .int v_inForce, .int v_depth, .int v_miss, .long v_ring, .int v_size, .int v_people, .ref g0, .int v_seed, .int v_taped, .ref g1, .int v_from, .int v_to, .int v_token, .int v_value, .ref g2, .ref g3, .ref g4, .ref h3, .int v_imaged, .ref g5, .long v_oldRing, .ref g6, .long v_aheadRing, .ref g7]), (h1, xI X 6 v_kind), (h2, xI X 6 v_own), (h3, xI X 7 u12.2)]) (x_runV (q0 := 0) (rest := []) (As := [.int (-2 : Int32)]) hC mw_143 md_X7_no (c_X7_no (X := X) hf12) hH [0, 3] rfl (by decide) rfl rfl rfl hl.1 rfl rfl (Nat.le_of_ble_eq_true rfl) dX7_parts_21 ⟨Nat.le_of_ble_eq_true rfl, Nat.le_of_ble_eq_true rfl⟩ ⟨rfl, rfl⟩ ⟨Nat.le_refl _, Nat.le_refl _⟩) hH [0, 3] rfl rfl rfl rfl rfl (fun hz12 H locs hH => ?_)
      exact x_retiw (φ := fun _ => True) (f := fun u : Int32 × (Nat → Int32) => u.1) (wf := fun u : Int32 × (Nat → Int32) => [(h0, xO 7 [.int v_laws, .ref h1, .ref h2, .int v_inForce, .int v_depth, .int v_miss, .long v_ring, .int v_size, .int v_people, .ref g0, .int v_seed, .int v_taped, .ref g1, .int v_from, .int v_to, .int v_token, .int v_value, .ref g2, .ref g3, .ref g4, .ref h3, .int v_imaged, .ref g5, .long v_oldRing, .ref g6, .long v_aheadRing, .ref g7]), (h1, xI X 6 v_kind), (h2, xI X 6 v_own), (h3, xI X 7 u.2)]) hC hr hlk trivial hf hH rfl rfl dX7_parts_24
def f_X7_isSet (v_laws : Int32) (p1 : Int32) : Option (Int32) :=
  if p1 < (nI 0) then
    some (nI 0)
  else
  if (xshl (nI 1) v_laws) ≤ p1 then
    some (nI 0)
  else
  some (nI 1)
set_option maxHeartbeats 4000000 in
set_option maxRecDepth 100000 in
theorem c_X7_isSet {l : Launch} {X : xG} {h0 g0 g1 g2 g3 g4 g5 g6 g7 g8 g9 g10 : Nat} {v_laws : Int32} {v_inForce : Int32} {v_depth : Int32} {v_miss : Int32} {v_ring : Int64} {v_size : Int32} {v_people : Int32} {v_seed : Int32} {v_taped : Int32} {v_from : Int32} {v_to : Int32} {v_token : Int32} {v_value : Int32} {v_imaged : Int32} {v_oldRing : Int64} {v_aheadRing : Int64} {p1 : Int32} {u : Int32} (hf : f_X7_isSet v_laws p1 = some u) : Met l yX7_isSet (xw yX7_isSet cX7_isSet 2 (some .boolean)) (xrm 0 0) (xPc [.ref h0, .int p1] X [(h0, xO 7 [.int v_laws, .ref g0, .ref g1, .int v_inForce, .int v_depth, .int v_miss, .long v_ring, .int v_size, .int v_people, .ref g2, .int v_seed, .int v_taped, .ref g3, .int v_from, .int v_to, .int v_token, .int v_value, .ref g4, .ref g5, .ref g6, .ref g7, .int v_imaged, .ref g8, .long v_oldRing, .ref g9, .long v_aheadRing, .ref g10])]) (xQ (u = 0 ∨ u = 1) (.returned (some (.int u)))) 0 0 xNo := by
  refine xMet (n := 1) md_X7_isSet.1 (Nat.le_of_ble_eq_true rfl) ?_
  intro p e s m args below meth c ls A hC hr hlk hH hl
  have hl : lv_has ls 2 [(0, .ref h0), (1, .int p1)] := hl
  have hx := hC.1
  have hb := hC.2.1
  refine lv_iload_n hx hb dX7_isSet_0 rfl (lv_at hl 1 rfl) ?_
  refine lv_if_lt (tgt := 18) hx hb dX7_isSet_1 (by decide) (fun c1 => ?_) (fun c1 => ?_)
  · have hf := xt c1 hf
    refine lv_iconst (v := (nI 0)) hx hb dX7_isSet_18 (by decide) ?_
    exact x_retz hC hr hlk (Or.inl rfl) hf dX7_isSet_19
  · have hf := xe c1 hf
    refine lv_iload_n hx hb dX7_isSet_4 rfl (lv_at hl 1 rfl) ?_
    refine lv_iconst (v := (nI 1)) hx hb dX7_isSet_5 (by decide) ?_
    refine lv_aload_n hx hb dX7_isSet_6 rfl (lv_at hl 0 rfl) ?_
    refine x_get hC fd_RX7_52 hH.1 0 rfl rfl dX7_isSet_7 ?_
    refine x_ishl hx hb dX7_isSet_10 ?_
    refine lv_icmp_ge (tgt := 18) hx hb dX7_isSet_11 (by decide) (fun c2 => ?_) (fun c2 => ?_)
    · have hf := xt c2 hf
      refine lv_iconst (v := (nI 0)) hx hb dX7_isSet_18 (by decide) ?_
      exact x_retz hC hr hlk (Or.inl rfl) hf dX7_isSet_19
    · have hf := xe c2 hf
      refine lv_iconst (v := (nI 1)) hx hb dX7_isSet_14 (by decide) ?_
      refine lv_goto (tgt := 19) hx hb dX7_isSet_15 (by decide) ?_
      exact x_retz hC hr hlk (Or.inr rfl) hf dX7_isSet_19
def f_X7_common_L27 (v_laws : Int32) (v_ring : Int64) (v_size : Int32) (v_kind : (Nat → Int32)) (v_own : (Nat → Int32)) (v_refusals : (Nat → Int32)) (p1 : Int32) (s27 : Int64 × Int32) : Option ((Int32 × (Nat → Int32)) ⊕ (Int64 × Int32)) :=
  if v_laws ≤ s27.2 then
    (f_J13_bitCount_95d88 s27.1).bind fun u4 =>
    some (.inl (u4, v_refusals))
  else
  (f_X7_has (Int32.toInt64 p1) s27.2).bind fun u5 =>
  if u5 = (nI 0) then
    some (.inr (s27.1, s27.2 + (nI 1)))
  else
  (f_X7_struckBits v_kind v_own s27.2 v_ring v_size).bind fun u7 =>
  some (.inr (s27.1 &&& u7, s27.2 + (nI 1)))
def f_X7_common (v_laws : Int32) (v_ring : Int64) (v_size : Int32) (v_kind : (Nat → Int32)) (v_own : (Nat → Int32)) (v_refusals : (Nat → Int32)) (p1 : Int32) : Option (Int32 × (Nat → Int32)) :=
  (f_X7_isSet v_laws p1).bind fun u1 =>
  if u1 = (nI 0) then
    (f_X7_no v_refusals (-2 : Int32)).bind fun u8 =>
    some (u8.1, u8.2)
  else
  xloop (f_X7_common_L27 v_laws v_ring v_size v_kind v_own v_refusals p1) xN ((xlshl (lN 1) v_size) - (lN 1), (nI 0))
set_option maxHeartbeats 4000000 in
set_option maxRecDepth 100000 in
theorem c_X7_common {l : Launch} {X : xG} {h0 h1 h2 h3 g0 g1 g2 g3 g4 g5 g6 g7 : Nat} {v_laws : Int32} {v_inForce : Int32} {v_depth : Int32} {v_miss : Int32} {v_ring : Int64} {v_size : Int32} {v_people : Int32} {v_seed : Int32} {v_taped : Int32} {v_from : Int32} {v_to : Int32} {v_token : Int32} {v_value : Int32} {v_imaged : Int32} {v_oldRing : Int64} {v_aheadRing : Int64} {v_kind : (Nat → Int32)} {v_own : (Nat → Int32)} {v_refusals : (Nat → Int32)} {p1 : Int32} {u : Int32 × (Nat → Int32)} (hf : f_X7_common v_laws v_ring v_size v_kind v_own v_refusals p1 = some u) : Met l yX7_common (xw yX7_common cX7_common 5 (some .int)) (xrm 4 99) (xPc [.ref h0, .int p1] X [(h0, xO 7 [.int v_laws, .ref h1, .ref h2, .int v_inForce, .int v_depth, .int v_miss, .long v_ring, .int v_size, .int v_people, .ref g0, .int v_seed, .int v_taped, .ref g1, .int v_from, .int v_to, .int v_token, .int v_value, .ref g2, .ref g3, .ref g4, .ref h3, .int v_imaged, .ref g5, .long v_oldRing, .ref g6, .long v_aheadRing, .ref g7]), (h1, xI X 6 v_kind), (h2, xI X 6 v_own), (h3, xI X 7 v_refusals)]) (xQw True (.returned (some (.int u.1))) X [(h0, xO 7 [.int v_laws, .ref h1, .ref h2, .int v_inForce, .int v_depth, .int v_miss, .long v_ring, .int v_size, .int v_people, .ref g0, .int v_seed, .int v_taped, .ref g1, .int v_from, .int v_to, .int v_token, .int v_value, .ref g2, .ref g3, .ref g4, .ref h3, .int v_imaged, .ref g5, .long v_oldRing, .ref g6, .long v_aheadRing, .ref g7]), (h1, xI X 6 v_kind), (h2, xI X 6 v_own), (h3, xI X 7 u.2)] (xAs [(h0, xO 7 [.int v_laws, .ref h1, .ref h2, .int v_inForce, .int v_depth, .int v_miss, .long v_ring, .int v_size, .int v_people, .ref g0, .int v_seed, .int v_taped, .ref g1, .int v_from, .int v_to, .int v_token, .int v_value, .ref g2, .ref g3, .ref g4, .ref h3, .int v_imaged, .ref g5, .long v_oldRing, .ref g6, .long v_aheadRing, .ref g7]), (h1, xI X 6 v_kind), (h2, xI X 6 v_own), (h3, xI X 7 v_refusals)])) 0 0 (xAs [(h0, xO 7 [.int v_laws, .ref h1, .ref h2, .int v_inForce, .int v_depth, .int v_miss, .long v_ring, .int v_size, .int v_people, .ref g0, .int v_seed, .int v_taped, .ref g1, .int v_from, .int v_to, .int v_token, .int v_value, .ref g2, .ref g3, .ref g4, .ref h3, .int v_imaged, .ref g5, .long v_oldRing, .ref g6, .long v_aheadRing, .ref g7]), (h1, xI X 6 v_kind), (h2, xI X 6 v_own), (h3, xI X 7 v_refusals)]) := by
  refine xMetw (Qc := fun A => xQw True (.returned (some (.int u.1))) X [(h0, xO 7 [.int v_laws, .ref h1, .ref h2, .int v_inForce, .int v_depth, .int v_miss, .long v_ring, .int v_size, .int v_people, .ref g0, .int v_seed, .int v_taped, .ref g1, .int v_from, .int v_to, .int v_token, .int v_value, .ref g2, .ref g3, .ref g4, .ref h3, .int v_imaged, .ref g5, .long v_oldRing, .ref g6, .long v_aheadRing, .ref g7]), (h1, xI X 6 v_kind), (h2, xI X 6 v_own), (h3, xI X 7 u.2)] A) (n := 1) md_X7_common.1 (Nat.le_of_ble_eq_true rfl) ?_
  intro p e s m args below meth c ls A hC hr hlk hH hl
  have hl : lv_has ls 5 [(0, .ref h0), (1, .int p1)] := hl
  have hx := hC.1
  have hb := hC.2.1
  have L27 : ∀ (n : Nat) (s27 : Int64 × Int32), xloop (f_X7_common_L27 v_laws v_ring v_size v_kind v_own v_refusals p1) n s27 = some u → ∀ (H : Heap) (locs : List Loc), xH X A [(h0, xO 7 [.int v_laws, .ref h1, .ref h2, .int v_inForce, .int v_depth, .int v_miss, .long v_ring, .int v_size, .int v_people, .ref g0, .int v_seed, .int v_taped, .ref g1, .int v_from, .int v_to, .int v_token, .int v_value, .ref g2, .ref g3, .ref g4, .ref h3, .int v_imaged, .ref g5, .long v_oldRing, .ref g6, .long v_aheadRing, .ref g7]), (h1, xI X 6 v_kind), (h2, xI X 6 v_own), (h3, xI X 7 v_refusals)] s.heap H locs → ∀ (ls : Array Slot), lv_has ls 5 [(0, .ref h0), (1, .int p1), (2, .long s27.1), (4, .int s27.2)] → W p l e (xrm 4 99) s m args below meth c H locs 0 0 (MQ below (xQw True (.returned (some (.int u.1))) X [(h0, xO 7 [.int v_laws, .ref h1, .ref h2, .int v_inForce, .int v_depth, .int v_miss, .long v_ring, .int v_size, .int v_people, .ref g0, .int v_seed, .int v_taped, .ref g1, .int v_from, .int v_to, .int v_token, .int v_value, .ref g2, .ref g3, .ref g4, .ref h3, .int v_imaged, .ref g5, .long v_oldRing, .ref g6, .long v_aheadRing, .ref g7]), (h1, xI X 6 v_kind), (h2, xI X 6 v_own), (h3, xI X 7 u.2)] A) args s 0 0 A) (F0 m 27 ls []) := by
    intro  n
    induction n with
    | zero => intro s27 hf; exact xloop_0 hf
    | succ n ih27 =>
      intro s27 hf H locs hH ls hl
      obtain ⟨o27, hf, ho27⟩ := xloop_s hf
      refine lv_iload hx hb dX7_common_27 (lv_at hl 3 rfl) ?_
      refine lv_aload_n hx hb dX7_common_29 rfl (lv_at hl 0 rfl) ?_
      refine x_get hC fd_RX7_52 hH.1 0 rfl rfl dX7_common_30 ?_
      refine lv_icmp_ge (tgt := 69) hx hb dX7_common_33 (by decide) (fun c3 => ?_) (fun c3 => ?_)
      · have hf := xt c3 hf
        refine lv_lload_n hx hb dX7_common_69 rfl (lv_at hl 2 rfl) ?_
        obtain ⟨u4, hf4, hf⟩ := xb hf
        refine x_ran (x_runS (rest := []) (As := [.long s27.1]) hC mw_342 md_J13_bitCount_95d88 (c_J13_bitCount_95d88 (X := X) hf4) hH [] rfl (by decide) hl.1 rfl rfl (Nat.le_of_ble_eq_true rfl) dX7_common_70 ⟨Nat.le_of_ble_eq_true rfl, Nat.le_of_ble_eq_true rfl⟩ ⟨rfl, rfl⟩ ⟨Nat.le_refl _, Nat.le_refl _⟩) rfl (fun hz4 => ?_)
        have hf := xo_ret hf ho27
        exact x_retiw (φ := fun _ => True) (f := fun u : Int32 × (Nat → Int32) => u.1) (wf := fun u : Int32 × (Nat → Int32) => [(h0, xO 7 [.int v_laws, .ref h1, .ref h2, .int v_inForce, .int v_depth, .int v_miss, .long v_ring, .int v_size, .int v_people, .ref g0, .int v_seed, .int v_taped, .ref g1, .int v_from, .int v_to, .int v_token, .int v_value, .ref g2, .ref g3, .ref g4, .ref h3, .int v_imaged, .ref g5, .long v_oldRing, .ref g6, .long v_aheadRing, .ref g7]), (h1, xI X 6 v_kind), (h2, xI X 6 v_own), (h3, xI X 7 u.2)]) hC hr hlk trivial hf hH rfl rfl dX7_common_73
      · have hf := xe c3 hf
        refine lv_iload_n hx hb dX7_common_36 rfl (lv_at hl 1 rfl) ?_
        refine lv_i2l hx hb dX7_common_37 rfl ?_
        refine lv_iload hx hb dX7_common_38 (lv_at hl 3 rfl) ?_
        obtain ⟨u5, hf5, hf⟩ := xb hf
        refine x_ran (x_runS (rest := []) (As := [.long (Int32.toInt64 p1), .int s27.2]) hC mw_336 md_X7_has (c_X7_has (X := X) hf5) hH [] rfl (by decide) hl.1 rfl rfl (Nat.le_of_ble_eq_true rfl) dX7_common_40 ⟨Nat.le_of_ble_eq_true rfl, Nat.le_of_ble_eq_true rfl⟩ ⟨rfl, rfl⟩ ⟨Nat.le_refl _, Nat.le_refl _⟩) rfl (fun hz5 => ?_)
        refine lv_if_eq (tgt := 63) hx hb dX7_common_43 (by decide) (fun c6 => ?_) (fun c6 => ?_)
        · have hf := xt c6 hf
          refine lv_iinc (v := s27.2 + (nI 1)) (lv' := [(4, .int (s27.2 + (nI 1))), (0, .ref h0), (1, .int p1), (2, .long s27.1)]) hx hb dX7_common_63 hl (k := 3) rfl rfl (by decide) rfl (fun ls hl => ?_)
          refine lv_goto (tgt := 27) hx hb dX7_common_66 (by decide) ?_
          have hf := xo_go hf ho27
          exact ih27 (s27.1, s27.2 + (nI 1)) hf _ _ hH ls (lv_sub hl [1, 2, 3, 0] rfl)
        · have hf := xe c6 hf
          refine lv_lload_n hx hb dX7_common_46 rfl (lv_at hl 2 rfl) ?_
          refine lv_aload_n hx hb dX7_common_47 rfl (lv_at hl 0 rfl) ?_
          refine lv_iload hx hb dX7_common_48 (lv_at hl 3 rfl) ?_
          refine lv_aload_n hx hb dX7_common_50 rfl (lv_at hl 0 rfl) ?_
          refine x_get hC fd_RX7_90 hH.1 0 rfl rfl dX7_common_51 ?_
          refine lv_aload_n hx hb dX7_common_54 rfl (lv_at hl 0 rfl) ?_
          refine x_get hC fd_RX7_62 hH.1 0 rfl rfl dX7_common_55 ?_
          obtain ⟨u7, hf7, hf⟩ := xb hf
          refine x_ran (x_runV (q0 := 0) (rest := [.long s27.1]) (As := [.int s27.2, .long v_ring, .int v_size]) hC mw_866 md_X7_struckBits (c_X7_struckBits (X := X) hf7) hH [0, 1, 2] rfl (by decide) rfl rfl rfl hl.1 rfl rfl (Nat.le_of_ble_eq_true rfl) dX7_common_58 ⟨Nat.le_of_ble_eq_true rfl, Nat.le_of_ble_eq_true rfl⟩ ⟨rfl, rfl⟩ ⟨Nat.le_refl _, Nat.le_refl _⟩) rfl (fun hz7 => ?_)
          refine lv_land hx hb dX7_common_61 ?_
          refine lv_lstore_n (lv' := [(2, .long (s27.1 &&& u7)), (0, .ref h0), (1, .int p1), (4, .int s27.2)]) hx hb dX7_common_62 rfl hl (by decide) rfl (fun ls hl => ?_)
          refine lv_iinc (v := s27.2 + (nI 1)) (lv' := [(4, .int (s27.2 + (nI 1))), (2, .long (s27.1 &&& u7)), (0, .ref h0), (1, .int p1)]) hx hb dX7_common_63 hl (k := 3) rfl rfl (by decide) rfl (fun ls hl => ?_)
          refine lv_goto (tgt := 27) hx hb dX7_common_66 (by decide) ?_
          have hf := xo_go hf ho27
          exact ih27 (s27.1 &&& u7, s27.2 + (nI 1)) hf _ _ hH ls (lv_sub hl [2, 3, 1, 0] rfl)
  refine lv_aload_n hx hb dX7_common_0 rfl (lv_at hl 0 rfl) ?_
  refine lv_iload_n hx hb dX7_common_1 rfl (lv_at hl 1 rfl) ?_
  obtain ⟨u1, hf1, hf⟩ := xb hf
  refine x_ran (x_runV (q0 := 0) (rest := []) (As := [.int p1]) hC mw_917 md_X7_isSet (c_X7_isSet (X := X) hf1) hH [0] rfl (by decide) rfl rfl rfl hl.1 rfl rfl (Nat.le_of_ble_eq_true rfl) dX7_common_2 ⟨Nat.le_of_ble_eq_true rfl, Nat.le_of_ble_eq_true rfl⟩ ⟨rfl, rfl⟩ ⟨Nat.le_refl _, Nat.le_refl _⟩) rfl (fun hz1 => ?_)
  refine lv_if_ne (tgt := 15) hx hb dX7_common_5 (by decide) (fun c2 => ?_) (fun c2 => ?_)
  · have hf := xe c2 hf
    refine lv_lconst (v := (lN 1)) hx hb dX7_common_15 (by decide) ?_
    refine lv_aload_n hx hb dX7_common_16 rfl (lv_at hl 0 rfl) ?_
    refine x_get hC fd_RX7_62 hH.1 0 rfl rfl dX7_common_17 ?_
    refine x_lshl hx hb dX7_common_20 ?_
    refine lv_lconst (v := (lN 1)) hx hb dX7_common_21 (by decide) ?_
    refine lv_lsub hx hb dX7_common_22 ?_
    refine lv_lstore_n (lv' := [(2, .long ((xlshl (lN 1) v_size) - (lN 1))), (0, .ref h0), (1, .int p1)]) hx hb dX7_common_23 rfl hl (by decide) rfl (fun ls hl => ?_)
    refine lv_iconst (v := (nI 0)) hx hb dX7_common_24 (by decide) ?_
    refine lv_istore (lv' := [(4, .int (nI 0)), (2, .long ((xlshl (lN 1) v_size) - (lN 1))), (0, .ref h0), (1, .int p1)]) hx hb dX7_common_25 hl (by decide) rfl (fun ls hl => ?_)
    exact L27 xN ((xlshl (lN 1) v_size) - (lN 1), (nI 0)) hf _ _ hH ls (lv_sub hl [2, 3, 1, 0] rfl)
  · have hf := xt c2 hf
    refine lv_aload_n hx hb dX7_common_8 rfl (lv_at hl 0 rfl) ?_
    refine lv_bipush (v := (-2 : Int32)) hx hb dX7_common_9 (by decide) ?_
    obtain ⟨u8, hf8, hf⟩ := xb hf
    refine x_ranw (ws' := [(h0, xO 7 [.int v_laws, .ref h1, .ref h2, .int v_inForce, .int v_depth, .int v_miss, .long v_ring, .int v_size, .int v_people, .ref g0, .int v_seed, .int v_taped, .ref g1, .int v_from, .int v_to, .int v_token, .int v_value, .ref g2, .ref g3, .ref g4, .ref h3, .int v_imaged, .ref g5, .long v_oldRing, .ref g6, .long v_aheadRing, .ref g7]), (h1, xI X 6 v_kind), (h2, xI X 6 v_own), (h3, xI X 7 u8.2)]) (x_runV (q0 := 0) (rest := []) (As := [.int (-2 : Int32)]) hC mw_143 md_X7_no (c_X7_no (X := X) hf8) hH [0, 3] rfl (by decide) rfl rfl rfl hl.1 rfl rfl (Nat.le_of_ble_eq_true rfl) dX7_common_11 ⟨Nat.le_of_ble_eq_true rfl, Nat.le_of_ble_eq_true rfl⟩ ⟨rfl, rfl⟩ ⟨Nat.le_refl _, Nat.le_refl _⟩) hH [0, 3] rfl rfl rfl rfl rfl (fun hz8 H locs hH => ?_)
    exact x_retiw (φ := fun _ => True) (f := fun u : Int32 × (Nat → Int32) => u.1) (wf := fun u : Int32 × (Nat → Int32) => [(h0, xO 7 [.int v_laws, .ref h1, .ref h2, .int v_inForce, .int v_depth, .int v_miss, .long v_ring, .int v_size, .int v_people, .ref g0, .int v_seed, .int v_taped, .ref g1, .int v_from, .int v_to, .int v_token, .int v_value, .ref g2, .ref g3, .ref g4, .ref h3, .int v_imaged, .ref g5, .long v_oldRing, .ref g6, .long v_aheadRing, .ref g7]), (h1, xI X 6 v_kind), (h2, xI X 6 v_own), (h3, xI X 7 u.2)]) hC hr hlk trivial hf hH rfl rfl dX7_common_14
def f_X7_alone_L32 (v_laws : Int32) (v_ring : Int64) (v_size : Int32) (v_kind : (Nat → Int32)) (v_own : (Nat → Int32)) (v_refusals : (Nat → Int32)) (p1 : Int32) (s32 : Int64 × Int32) : Option ((Int32 × (Nat → Int32)) ⊕ (Int64 × Int32)) :=
  if v_laws ≤ s32.2 then
    (f_J13_bitCount_95d88 s32.1).bind fun u5 =>
    some (.inl (u5, v_refusals))
  else
  if s32.2 = p1 then
    some (.inr (s32.1, s32.2 + (nI 1)))
  else
  (f_X7_struckBits v_kind v_own s32.2 v_ring v_size).bind fun u7 =>
  some (.inr (s32.1 &&& (u7 ^^^ (-1 : Int64)), s32.2 + (nI 1)))
def f_X7_alone (v_laws : Int32) (v_ring : Int64) (v_size : Int32) (v_kind : (Nat → Int32)) (v_own : (Nat → Int32)) (v_refusals : (Nat → Int32)) (p1 : Int32) : Option (Int32 × (Nat → Int32)) :=
  (f_X7_isLaw v_laws p1).bind fun u1 =>
  if u1 = (nI 0) then
    (f_X7_no v_refusals (-2 : Int32)).bind fun u8 =>
    some (u8.1, u8.2)
  else
  (f_X7_struckBits v_kind v_own p1 v_ring v_size).bind fun u3 =>
  xloop (f_X7_alone_L32 v_laws v_ring v_size v_kind v_own v_refusals p1) xN (u3, (nI 0))
set_option maxHeartbeats 4000000 in
set_option maxRecDepth 100000 in
theorem c_X7_alone {l : Launch} {X : xG} {h0 h1 h2 h3 g0 g1 g2 g3 g4 g5 g6 g7 : Nat} {v_laws : Int32} {v_inForce : Int32} {v_depth : Int32} {v_miss : Int32} {v_ring : Int64} {v_size : Int32} {v_people : Int32} {v_seed : Int32} {v_taped : Int32} {v_from : Int32} {v_to : Int32} {v_token : Int32} {v_value : Int32} {v_imaged : Int32} {v_oldRing : Int64} {v_aheadRing : Int64} {v_kind : (Nat → Int32)} {v_own : (Nat → Int32)} {v_refusals : (Nat → Int32)} {p1 : Int32} {u : Int32 × (Nat → Int32)} (hf : f_X7_alone v_laws v_ring v_size v_kind v_own v_refusals p1 = some u) : Met l yX7_alone (xw yX7_alone cX7_alone 5 (some .int)) (xrm 4 99) (xPc [.ref h0, .int p1] X [(h0, xO 7 [.int v_laws, .ref h1, .ref h2, .int v_inForce, .int v_depth, .int v_miss, .long v_ring, .int v_size, .int v_people, .ref g0, .int v_seed, .int v_taped, .ref g1, .int v_from, .int v_to, .int v_token, .int v_value, .ref g2, .ref g3, .ref g4, .ref h3, .int v_imaged, .ref g5, .long v_oldRing, .ref g6, .long v_aheadRing, .ref g7]), (h1, xI X 6 v_kind), (h2, xI X 6 v_own), (h3, xI X 7 v_refusals)]) (xQw True (.returned (some (.int u.1))) X [(h0, xO 7 [.int v_laws, .ref h1, .ref h2, .int v_inForce, .int v_depth, .int v_miss, .long v_ring, .int v_size, .int v_people, .ref g0, .int v_seed, .int v_taped, .ref g1, .int v_from, .int v_to, .int v_token, .int v_value, .ref g2, .ref g3, .ref g4, .ref h3, .int v_imaged, .ref g5, .long v_oldRing, .ref g6, .long v_aheadRing, .ref g7]), (h1, xI X 6 v_kind), (h2, xI X 6 v_own), (h3, xI X 7 u.2)] (xAs [(h0, xO 7 [.int v_laws, .ref h1, .ref h2, .int v_inForce, .int v_depth, .int v_miss, .long v_ring, .int v_size, .int v_people, .ref g0, .int v_seed, .int v_taped, .ref g1, .int v_from, .int v_to, .int v_token, .int v_value, .ref g2, .ref g3, .ref g4, .ref h3, .int v_imaged, .ref g5, .long v_oldRing, .ref g6, .long v_aheadRing, .ref g7]), (h1, xI X 6 v_kind), (h2, xI X 6 v_own), (h3, xI X 7 v_refusals)])) 0 0 (xAs [(h0, xO 7 [.int v_laws, .ref h1, .ref h2, .int v_inForce, .int v_depth, .int v_miss, .long v_ring, .int v_size, .int v_people, .ref g0, .int v_seed, .int v_taped, .ref g1, .int v_from, .int v_to, .int v_token, .int v_value, .ref g2, .ref g3, .ref g4, .ref h3, .int v_imaged, .ref g5, .long v_oldRing, .ref g6, .long v_aheadRing, .ref g7]), (h1, xI X 6 v_kind), (h2, xI X 6 v_own), (h3, xI X 7 v_refusals)]) := by
  refine xMetw (Qc := fun A => xQw True (.returned (some (.int u.1))) X [(h0, xO 7 [.int v_laws, .ref h1, .ref h2, .int v_inForce, .int v_depth, .int v_miss, .long v_ring, .int v_size, .int v_people, .ref g0, .int v_seed, .int v_taped, .ref g1, .int v_from, .int v_to, .int v_token, .int v_value, .ref g2, .ref g3, .ref g4, .ref h3, .int v_imaged, .ref g5, .long v_oldRing, .ref g6, .long v_aheadRing, .ref g7]), (h1, xI X 6 v_kind), (h2, xI X 6 v_own), (h3, xI X 7 u.2)] A) (n := 1) md_X7_alone.1 (Nat.le_of_ble_eq_true rfl) ?_
  intro p e s m args below meth c ls A hC hr hlk hH hl
  have hl : lv_has ls 5 [(0, .ref h0), (1, .int p1)] := hl
  have hx := hC.1
  have hb := hC.2.1
  have L32 : ∀ (n : Nat) (s32 : Int64 × Int32), xloop (f_X7_alone_L32 v_laws v_ring v_size v_kind v_own v_refusals p1) n s32 = some u → ∀ (H : Heap) (locs : List Loc), xH X A [(h0, xO 7 [.int v_laws, .ref h1, .ref h2, .int v_inForce, .int v_depth, .int v_miss, .long v_ring, .int v_size, .int v_people, .ref g0, .int v_seed, .int v_taped, .ref g1, .int v_from, .int v_to, .int v_token, .int v_value, .ref g2, .ref g3, .ref g4, .ref h3, .int v_imaged, .ref g5, .long v_oldRing, .ref g6, .long v_aheadRing, .ref g7]), (h1, xI X 6 v_kind), (h2, xI X 6 v_own), (h3, xI X 7 v_refusals)] s.heap H locs → ∀ (ls : Array Slot), lv_has ls 5 [(0, .ref h0), (1, .int p1), (2, .long s32.1), (4, .int s32.2)] → W p l e (xrm 4 99) s m args below meth c H locs 0 0 (MQ below (xQw True (.returned (some (.int u.1))) X [(h0, xO 7 [.int v_laws, .ref h1, .ref h2, .int v_inForce, .int v_depth, .int v_miss, .long v_ring, .int v_size, .int v_people, .ref g0, .int v_seed, .int v_taped, .ref g1, .int v_from, .int v_to, .int v_token, .int v_value, .ref g2, .ref g3, .ref g4, .ref h3, .int v_imaged, .ref g5, .long v_oldRing, .ref g6, .long v_aheadRing, .ref g7]), (h1, xI X 6 v_kind), (h2, xI X 6 v_own), (h3, xI X 7 u.2)] A) args s 0 0 A) (F0 m 32 ls []) := by
    intro  n
    induction n with
    | zero => intro s32 hf; exact xloop_0 hf
    | succ n ih32 =>
      intro s32 hf H locs hH ls hl
      obtain ⟨o32, hf, ho32⟩ := xloop_s hf
      refine lv_iload hx hb dX7_alone_32 (lv_at hl 3 rfl) ?_
      refine lv_aload_n hx hb dX7_alone_34 rfl (lv_at hl 0 rfl) ?_
      refine x_get hC fd_RX7_52 hH.1 0 rfl rfl dX7_alone_35 ?_
      refine lv_icmp_ge (tgt := 74) hx hb dX7_alone_38 (by decide) (fun c4 => ?_) (fun c4 => ?_)
      · have hf := xt c4 hf
        refine lv_lload_n hx hb dX7_alone_74 rfl (lv_at hl 2 rfl) ?_
        obtain ⟨u5, hf5, hf⟩ := xb hf
        refine x_ran (x_runS (rest := []) (As := [.long s32.1]) hC mw_342 md_J13_bitCount_95d88 (c_J13_bitCount_95d88 (X := X) hf5) hH [] rfl (by decide) hl.1 rfl rfl (Nat.le_of_ble_eq_true rfl) dX7_alone_75 ⟨Nat.le_of_ble_eq_true rfl, Nat.le_of_ble_eq_true rfl⟩ ⟨rfl, rfl⟩ ⟨Nat.le_refl _, Nat.le_refl _⟩) rfl (fun hz5 => ?_)
        have hf := xo_ret hf ho32
        exact x_retiw (φ := fun _ => True) (f := fun u : Int32 × (Nat → Int32) => u.1) (wf := fun u : Int32 × (Nat → Int32) => [(h0, xO 7 [.int v_laws, .ref h1, .ref h2, .int v_inForce, .int v_depth, .int v_miss, .long v_ring, .int v_size, .int v_people, .ref g0, .int v_seed, .int v_taped, .ref g1, .int v_from, .int v_to, .int v_token, .int v_value, .ref g2, .ref g3, .ref g4, .ref h3, .int v_imaged, .ref g5, .long v_oldRing, .ref g6, .long v_aheadRing, .ref g7]), (h1, xI X 6 v_kind), (h2, xI X 6 v_own), (h3, xI X 7 u.2)]) hC hr hlk trivial hf hH rfl rfl dX7_alone_78
      · have hf := xe c4 hf
        refine lv_iload hx hb dX7_alone_41 (lv_at hl 3 rfl) ?_
        refine lv_iload_n hx hb dX7_alone_43 rfl (lv_at hl 1 rfl) ?_
        refine lv_icmp_eq (tgt := 68) hx hb dX7_alone_44 (by decide) (fun c6 => ?_) (fun c6 => ?_)
        · have hf := xt c6 hf
          refine lv_iinc (v := s32.2 + (nI 1)) (lv' := [(4, .int (s32.2 + (nI 1))), (0, .ref h0), (1, .int p1), (2, .long s32.1)]) hx hb dX7_alone_68 hl (k := 3) rfl rfl (by decide) rfl (fun ls hl => ?_)
          refine lv_goto (tgt := 32) hx hb dX7_alone_71 (by decide) ?_
          have hf := xo_go hf ho32
          exact ih32 (s32.1, s32.2 + (nI 1)) hf _ _ hH ls (lv_sub hl [1, 2, 3, 0] rfl)
        · have hf := xe c6 hf
          refine lv_lload_n hx hb dX7_alone_47 rfl (lv_at hl 2 rfl) ?_
          refine lv_aload_n hx hb dX7_alone_48 rfl (lv_at hl 0 rfl) ?_
          refine lv_iload hx hb dX7_alone_49 (lv_at hl 3 rfl) ?_
          refine lv_aload_n hx hb dX7_alone_51 rfl (lv_at hl 0 rfl) ?_
          refine x_get hC fd_RX7_90 hH.1 0 rfl rfl dX7_alone_52 ?_
          refine lv_aload_n hx hb dX7_alone_55 rfl (lv_at hl 0 rfl) ?_
          refine x_get hC fd_RX7_62 hH.1 0 rfl rfl dX7_alone_56 ?_
          obtain ⟨u7, hf7, hf⟩ := xb hf
          refine x_ran (x_runV (q0 := 0) (rest := [.long s32.1]) (As := [.int s32.2, .long v_ring, .int v_size]) hC mw_866 md_X7_struckBits (c_X7_struckBits (X := X) hf7) hH [0, 1, 2] rfl (by decide) rfl rfl rfl hl.1 rfl rfl (Nat.le_of_ble_eq_true rfl) dX7_alone_59 ⟨Nat.le_of_ble_eq_true rfl, Nat.le_of_ble_eq_true rfl⟩ ⟨rfl, rfl⟩ ⟨Nat.le_refl _, Nat.le_refl _⟩) rfl (fun hz7 => ?_)
          refine lv_ldc2 (v := (-1 : Int64)) hx hb hC.2.2.2.1 (hC.2.2.2.2.1 _ mw_929) dX7_alone_62 ?_
          refine lv_lxor hx hb dX7_alone_65 ?_
          refine lv_land hx hb dX7_alone_66 ?_
          refine lv_lstore_n (lv' := [(2, .long (s32.1 &&& (u7 ^^^ (-1 : Int64)))), (0, .ref h0), (1, .int p1), (4, .int s32.2)]) hx hb dX7_alone_67 rfl hl (by decide) rfl (fun ls hl => ?_)
          refine lv_iinc (v := s32.2 + (nI 1)) (lv' := [(4, .int (s32.2 + (nI 1))), (2, .long (s32.1 &&& (u7 ^^^ (-1 : Int64)))), (0, .ref h0), (1, .int p1)]) hx hb dX7_alone_68 hl (k := 3) rfl rfl (by decide) rfl (fun ls hl => ?_)
          refine lv_goto (tgt := 32) hx hb dX7_alone_71 (by decide) ?_
          have hf := xo_go hf ho32
          exact ih32 (s32.1 &&& (u7 ^^^ (-1 : Int64)), s32.2 + (nI 1)) hf _ _ hH ls (lv_sub hl [2, 3, 1, 0] rfl)
  refine lv_aload_n hx hb dX7_alone_0 rfl (lv_at hl 0 rfl) ?_
  refine lv_iload_n hx hb dX7_alone_1 rfl (lv_at hl 1 rfl) ?_
  obtain ⟨u1, hf1, hf⟩ := xb hf
  refine x_ran (x_runV (q0 := 0) (rest := []) (As := [.int p1]) hC mw_243 md_X7_isLaw (c_X7_isLaw (X := X) hf1) hH [0] rfl (by decide) rfl rfl rfl hl.1 rfl rfl (Nat.le_of_ble_eq_true rfl) dX7_alone_2 ⟨Nat.le_of_ble_eq_true rfl, Nat.le_of_ble_eq_true rfl⟩ ⟨rfl, rfl⟩ ⟨Nat.le_refl _, Nat.le_refl _⟩) rfl (fun hz1 => ?_)
  refine lv_if_ne (tgt := 15) hx hb dX7_alone_5 (by decide) (fun c2 => ?_) (fun c2 => ?_)
  · have hf := xe c2 hf
    refine lv_aload_n hx hb dX7_alone_15 rfl (lv_at hl 0 rfl) ?_
    refine lv_iload_n hx hb dX7_alone_16 rfl (lv_at hl 1 rfl) ?_
    refine lv_aload_n hx hb dX7_alone_17 rfl (lv_at hl 0 rfl) ?_
    refine x_get hC fd_RX7_90 hH.1 0 rfl rfl dX7_alone_18 ?_
    refine lv_aload_n hx hb dX7_alone_21 rfl (lv_at hl 0 rfl) ?_
    refine x_get hC fd_RX7_62 hH.1 0 rfl rfl dX7_alone_22 ?_
    obtain ⟨u3, hf3, hf⟩ := xb hf
    refine x_ran (x_runV (q0 := 0) (rest := []) (As := [.int p1, .long v_ring, .int v_size]) hC mw_866 md_X7_struckBits (c_X7_struckBits (X := X) hf3) hH [0, 1, 2] rfl (by decide) rfl rfl rfl hl.1 rfl rfl (Nat.le_of_ble_eq_true rfl) dX7_alone_25 ⟨Nat.le_of_ble_eq_true rfl, Nat.le_of_ble_eq_true rfl⟩ ⟨rfl, rfl⟩ ⟨Nat.le_refl _, Nat.le_refl _⟩) rfl (fun hz3 => ?_)
    refine lv_lstore_n (lv' := [(2, .long u3), (0, .ref h0), (1, .int p1)]) hx hb dX7_alone_28 rfl hl (by decide) rfl (fun ls hl => ?_)
    refine lv_iconst (v := (nI 0)) hx hb dX7_alone_29 (by decide) ?_
    refine lv_istore (lv' := [(4, .int (nI 0)), (2, .long u3), (0, .ref h0), (1, .int p1)]) hx hb dX7_alone_30 hl (by decide) rfl (fun ls hl => ?_)
    exact L32 xN (u3, (nI 0)) hf _ _ hH ls (lv_sub hl [2, 3, 1, 0] rfl)
  · have hf := xt c2 hf
    refine lv_aload_n hx hb dX7_alone_8 rfl (lv_at hl 0 rfl) ?_
    refine lv_bipush (v := (-2 : Int32)) hx hb dX7_alone_9 (by decide) ?_
    obtain ⟨u8, hf8, hf⟩ := xb hf
    refine x_ranw (ws' := [(h0, xO 7 [.int v_laws, .ref h1, .ref h2, .int v_inForce, .int v_depth, .int v_miss, .long v_ring, .int v_size, .int v_people, .ref g0, .int v_seed, .int v_taped, .ref g1, .int v_from, .int v_to, .int v_token, .int v_value, .ref g2, .ref g3, .ref g4, .ref h3, .int v_imaged, .ref g5, .long v_oldRing, .ref g6, .long v_aheadRing, .ref g7]), (h1, xI X 6 v_kind), (h2, xI X 6 v_own), (h3, xI X 7 u8.2)]) (x_runV (q0 := 0) (rest := []) (As := [.int (-2 : Int32)]) hC mw_143 md_X7_no (c_X7_no (X := X) hf8) hH [0, 3] rfl (by decide) rfl rfl rfl hl.1 rfl rfl (Nat.le_of_ble_eq_true rfl) dX7_alone_11 ⟨Nat.le_of_ble_eq_true rfl, Nat.le_of_ble_eq_true rfl⟩ ⟨rfl, rfl⟩ ⟨Nat.le_refl _, Nat.le_refl _⟩) hH [0, 3] rfl rfl rfl rfl rfl (fun hz8 H locs hH => ?_)
    exact x_retiw (φ := fun _ => True) (f := fun u : Int32 × (Nat → Int32) => u.1) (wf := fun u : Int32 × (Nat → Int32) => [(h0, xO 7 [.int v_laws, .ref h1, .ref h2, .int v_inForce, .int v_depth, .int v_miss, .long v_ring, .int v_size, .int v_people, .ref g0, .int v_seed, .int v_taped, .ref g1, .int v_from, .int v_to, .int v_token, .int v_value, .ref g2, .ref g3, .ref g4, .ref h3, .int v_imaged, .ref g5, .long v_oldRing, .ref g6, .long v_aheadRing, .ref g7]), (h1, xI X 6 v_kind), (h2, xI X 6 v_own), (h3, xI X 7 u.2)]) hC hr hlk trivial hf hH rfl rfl dX7_alone_14
def f_X7_busiest_L18 (v_laws : Int32) (v_ring : Int64) (v_size : Int32) (v_kind : (Nat → Int32)) (v_own : (Nat → Int32)) (v_refusals : (Nat → Int32)) (s18 : Int32 × Int32) : Option ((Int32 × (Nat → Int32)) ⊕ (Int32 × Int32)) :=
  if v_laws ≤ s18.2 then
    some (.inl (s18.1, v_refusals))
  else
  (f_X7_struck v_kind v_own s18.2 v_ring v_size).bind fun u3 =>
  (f_X7_struck v_kind v_own s18.1 v_ring v_size).bind fun u4 =>
  if u3 ≤ u4 then
    some (.inr (s18.1, s18.2 + (nI 1)))
  else
  some (.inr (s18.2, s18.2 + (nI 1)))
def f_X7_busiest (v_laws : Int32) (v_ring : Int64) (v_size : Int32) (v_kind : (Nat → Int32)) (v_own : (Nat → Int32)) (v_refusals : (Nat → Int32)) : Option (Int32 × (Nat → Int32)) :=
  if v_laws = (nI 0) then
    (f_X7_no v_refusals (-5 : Int32)).bind fun u6 =>
    some (u6.1, u6.2)
  else
  xloop (f_X7_busiest_L18 v_laws v_ring v_size v_kind v_own v_refusals) xN ((nI 0), (nI 1))
set_option maxHeartbeats 4000000 in
set_option maxRecDepth 100000 in
theorem c_X7_busiest {l : Launch} {X : xG} {h0 h1 h2 h3 g0 g1 g2 g3 g4 g5 g6 g7 : Nat} {v_laws : Int32} {v_inForce : Int32} {v_depth : Int32} {v_miss : Int32} {v_ring : Int64} {v_size : Int32} {v_people : Int32} {v_seed : Int32} {v_taped : Int32} {v_from : Int32} {v_to : Int32} {v_token : Int32} {v_value : Int32} {v_imaged : Int32} {v_oldRing : Int64} {v_aheadRing : Int64} {v_kind : (Nat → Int32)} {v_own : (Nat → Int32)} {v_refusals : (Nat → Int32)} {u : Int32 × (Nat → Int32)} (hf : f_X7_busiest v_laws v_ring v_size v_kind v_own v_refusals = some u) : Met l yX7_busiest (xw yX7_busiest cX7_busiest 3 (some .int)) (xrm 4 98) (xPc [.ref h0] X [(h0, xO 7 [.int v_laws, .ref h1, .ref h2, .int v_inForce, .int v_depth, .int v_miss, .long v_ring, .int v_size, .int v_people, .ref g0, .int v_seed, .int v_taped, .ref g1, .int v_from, .int v_to, .int v_token, .int v_value, .ref g2, .ref g3, .ref g4, .ref h3, .int v_imaged, .ref g5, .long v_oldRing, .ref g6, .long v_aheadRing, .ref g7]), (h1, xI X 6 v_kind), (h2, xI X 6 v_own), (h3, xI X 7 v_refusals)]) (xQw True (.returned (some (.int u.1))) X [(h0, xO 7 [.int v_laws, .ref h1, .ref h2, .int v_inForce, .int v_depth, .int v_miss, .long v_ring, .int v_size, .int v_people, .ref g0, .int v_seed, .int v_taped, .ref g1, .int v_from, .int v_to, .int v_token, .int v_value, .ref g2, .ref g3, .ref g4, .ref h3, .int v_imaged, .ref g5, .long v_oldRing, .ref g6, .long v_aheadRing, .ref g7]), (h1, xI X 6 v_kind), (h2, xI X 6 v_own), (h3, xI X 7 u.2)] (xAs [(h0, xO 7 [.int v_laws, .ref h1, .ref h2, .int v_inForce, .int v_depth, .int v_miss, .long v_ring, .int v_size, .int v_people, .ref g0, .int v_seed, .int v_taped, .ref g1, .int v_from, .int v_to, .int v_token, .int v_value, .ref g2, .ref g3, .ref g4, .ref h3, .int v_imaged, .ref g5, .long v_oldRing, .ref g6, .long v_aheadRing, .ref g7]), (h1, xI X 6 v_kind), (h2, xI X 6 v_own), (h3, xI X 7 v_refusals)])) 0 0 (xAs [(h0, xO 7 [.int v_laws, .ref h1, .ref h2, .int v_inForce, .int v_depth, .int v_miss, .long v_ring, .int v_size, .int v_people, .ref g0, .int v_seed, .int v_taped, .ref g1, .int v_from, .int v_to, .int v_token, .int v_value, .ref g2, .ref g3, .ref g4, .ref h3, .int v_imaged, .ref g5, .long v_oldRing, .ref g6, .long v_aheadRing, .ref g7]), (h1, xI X 6 v_kind), (h2, xI X 6 v_own), (h3, xI X 7 v_refusals)]) := by
  refine xMetw (Qc := fun A => xQw True (.returned (some (.int u.1))) X [(h0, xO 7 [.int v_laws, .ref h1, .ref h2, .int v_inForce, .int v_depth, .int v_miss, .long v_ring, .int v_size, .int v_people, .ref g0, .int v_seed, .int v_taped, .ref g1, .int v_from, .int v_to, .int v_token, .int v_value, .ref g2, .ref g3, .ref g4, .ref h3, .int v_imaged, .ref g5, .long v_oldRing, .ref g6, .long v_aheadRing, .ref g7]), (h1, xI X 6 v_kind), (h2, xI X 6 v_own), (h3, xI X 7 u.2)] A) (n := 0) md_X7_busiest.1 (Nat.le_of_ble_eq_true rfl) ?_
  intro p e s m args below meth c ls A hC hr hlk hH hl
  have hl : lv_has ls 3 [(0, .ref h0)] := hl
  have hx := hC.1
  have hb := hC.2.1
  have L18 : ∀ (n : Nat) (s18 : Int32 × Int32), xloop (f_X7_busiest_L18 v_laws v_ring v_size v_kind v_own v_refusals) n s18 = some u → ∀ (H : Heap) (locs : List Loc), xH X A [(h0, xO 7 [.int v_laws, .ref h1, .ref h2, .int v_inForce, .int v_depth, .int v_miss, .long v_ring, .int v_size, .int v_people, .ref g0, .int v_seed, .int v_taped, .ref g1, .int v_from, .int v_to, .int v_token, .int v_value, .ref g2, .ref g3, .ref g4, .ref h3, .int v_imaged, .ref g5, .long v_oldRing, .ref g6, .long v_aheadRing, .ref g7]), (h1, xI X 6 v_kind), (h2, xI X 6 v_own), (h3, xI X 7 v_refusals)] s.heap H locs → ∀ (ls : Array Slot), lv_has ls 3 [(0, .ref h0), (1, .int s18.1), (2, .int s18.2)] → W p l e (xrm 4 98) s m args below meth c H locs 0 0 (MQ below (xQw True (.returned (some (.int u.1))) X [(h0, xO 7 [.int v_laws, .ref h1, .ref h2, .int v_inForce, .int v_depth, .int v_miss, .long v_ring, .int v_size, .int v_people, .ref g0, .int v_seed, .int v_taped, .ref g1, .int v_from, .int v_to, .int v_token, .int v_value, .ref g2, .ref g3, .ref g4, .ref h3, .int v_imaged, .ref g5, .long v_oldRing, .ref g6, .long v_aheadRing, .ref g7]), (h1, xI X 6 v_kind), (h2, xI X 6 v_own), (h3, xI X 7 u.2)] A) args s 0 0 A) (F0 m 18 ls []) := by
    intro  n
    induction n with
    | zero => intro s18 hf; exact xloop_0 hf
    | succ n ih18 =>
      intro s18 hf H locs hH ls hl
      obtain ⟨o18, hf, ho18⟩ := xloop_s hf
      refine lv_iload_n hx hb dX7_busiest_18 rfl (lv_at hl 2 rfl) ?_
      refine lv_aload_n hx hb dX7_busiest_19 rfl (lv_at hl 0 rfl) ?_
      refine x_get hC fd_RX7_52 hH.1 0 rfl rfl dX7_busiest_20 ?_
      refine lv_icmp_ge (tgt := 63) hx hb dX7_busiest_23 (by decide) (fun c2 => ?_) (fun c2 => ?_)
      · have hf := xt c2 hf
        refine lv_iload_n hx hb dX7_busiest_63 rfl (lv_at hl 1 rfl) ?_
        have hf := xo_ret hf ho18
        exact x_retiw (φ := fun _ => True) (f := fun u : Int32 × (Nat → Int32) => u.1) (wf := fun u : Int32 × (Nat → Int32) => [(h0, xO 7 [.int v_laws, .ref h1, .ref h2, .int v_inForce, .int v_depth, .int v_miss, .long v_ring, .int v_size, .int v_people, .ref g0, .int v_seed, .int v_taped, .ref g1, .int v_from, .int v_to, .int v_token, .int v_value, .ref g2, .ref g3, .ref g4, .ref h3, .int v_imaged, .ref g5, .long v_oldRing, .ref g6, .long v_aheadRing, .ref g7]), (h1, xI X 6 v_kind), (h2, xI X 6 v_own), (h3, xI X 7 u.2)]) hC hr hlk trivial hf hH rfl rfl dX7_busiest_64
      · have hf := xe c2 hf
        refine lv_aload_n hx hb dX7_busiest_26 rfl (lv_at hl 0 rfl) ?_
        refine lv_iload_n hx hb dX7_busiest_27 rfl (lv_at hl 2 rfl) ?_
        refine lv_aload_n hx hb dX7_busiest_28 rfl (lv_at hl 0 rfl) ?_
        refine x_get hC fd_RX7_90 hH.1 0 rfl rfl dX7_busiest_29 ?_
        refine lv_aload_n hx hb dX7_busiest_32 rfl (lv_at hl 0 rfl) ?_
        refine x_get hC fd_RX7_62 hH.1 0 rfl rfl dX7_busiest_33 ?_
        obtain ⟨u3, hf3, hf⟩ := xb hf
        refine x_ran (x_runV (q0 := 0) (rest := []) (As := [.int s18.2, .long v_ring, .int v_size]) hC mw_325 md_X7_struck (c_X7_struck (X := X) hf3) hH [0, 1, 2] rfl (by decide) rfl rfl rfl hl.1 rfl rfl (Nat.le_of_ble_eq_true rfl) dX7_busiest_36 ⟨Nat.le_of_ble_eq_true rfl, Nat.le_of_ble_eq_true rfl⟩ ⟨rfl, rfl⟩ ⟨Nat.le_refl _, Nat.le_refl _⟩) rfl (fun hz3 => ?_)
        refine lv_aload_n hx hb dX7_busiest_39 rfl (lv_at hl 0 rfl) ?_
        refine lv_iload_n hx hb dX7_busiest_40 rfl (lv_at hl 1 rfl) ?_
        refine lv_aload_n hx hb dX7_busiest_41 rfl (lv_at hl 0 rfl) ?_
        refine x_get hC fd_RX7_90 hH.1 0 rfl rfl dX7_busiest_42 ?_
        refine lv_aload_n hx hb dX7_busiest_45 rfl (lv_at hl 0 rfl) ?_
        refine x_get hC fd_RX7_62 hH.1 0 rfl rfl dX7_busiest_46 ?_
        obtain ⟨u4, hf4, hf⟩ := xb hf
        refine x_ran (x_runV (q0 := 0) (rest := [.int u3]) (As := [.int s18.1, .long v_ring, .int v_size]) hC mw_325 md_X7_struck (c_X7_struck (X := X) hf4) hH [0, 1, 2] rfl (by decide) rfl rfl rfl hl.1 rfl rfl (Nat.le_of_ble_eq_true rfl) dX7_busiest_49 ⟨Nat.le_of_ble_eq_true rfl, Nat.le_of_ble_eq_true rfl⟩ ⟨rfl, rfl⟩ ⟨Nat.le_refl _, Nat.le_refl _⟩) rfl (fun hz4 => ?_)
        refine lv_icmp_le (tgt := 57) hx hb dX7_busiest_52 (by decide) (fun c5 => ?_) (fun c5 => ?_)
        · have hf := xt c5 hf
          refine lv_iinc (v := s18.2 + (nI 1)) (lv' := [(2, .int (s18.2 + (nI 1))), (0, .ref h0), (1, .int s18.1)]) hx hb dX7_busiest_57 hl (k := 2) rfl rfl (by decide) rfl (fun ls hl => ?_)
          refine lv_goto (tgt := 18) hx hb dX7_busiest_60 (by decide) ?_
          have hf := xo_go hf ho18
          exact ih18 (s18.1, s18.2 + (nI 1)) hf _ _ hH ls (lv_sub hl [1, 2, 0] rfl)
        · have hf := xe c5 hf
          refine lv_iload_n hx hb dX7_busiest_55 rfl (lv_at hl 2 rfl) ?_
          refine lv_istore_n (lv' := [(1, .int s18.2), (0, .ref h0), (2, .int s18.2)]) hx hb dX7_busiest_56 rfl hl (by decide) rfl (fun ls hl => ?_)
          refine lv_iinc (v := s18.2 + (nI 1)) (lv' := [(2, .int (s18.2 + (nI 1))), (1, .int s18.2), (0, .ref h0)]) hx hb dX7_busiest_57 hl (k := 2) rfl rfl (by decide) rfl (fun ls hl => ?_)
          refine lv_goto (tgt := 18) hx hb dX7_busiest_60 (by decide) ?_
          have hf := xo_go hf ho18
          exact ih18 (s18.2, s18.2 + (nI 1)) hf _ _ hH ls (lv_sub hl [2, 1, 0] rfl)
  refine lv_aload_n hx hb dX7_busiest_0 rfl (lv_at hl 0 rfl) ?_
  refine x_get hC fd_RX7_52 hH.1 0 rfl rfl dX7_busiest_1 ?_
  refine lv_if_ne (tgt := 14) hx hb dX7_busiest_4 (by decide) (fun c1 => ?_) (fun c1 => ?_)
  · have hf := xe c1 hf
    refine lv_iconst (v := (nI 0)) hx hb dX7_busiest_14 (by decide) ?_
    refine lv_istore_n (lv' := [(1, .int (nI 0)), (0, .ref h0)]) hx hb dX7_busiest_15 rfl hl (by decide) rfl (fun ls hl => ?_)
    refine lv_iconst (v := (nI 1)) hx hb dX7_busiest_16 (by decide) ?_
    refine lv_istore_n (lv' := [(2, .int (nI 1)), (1, .int (nI 0)), (0, .ref h0)]) hx hb dX7_busiest_17 rfl hl (by decide) rfl (fun ls hl => ?_)
    exact L18 xN ((nI 0), (nI 1)) hf _ _ hH ls (lv_sub hl [2, 1, 0] rfl)
  · have hf := xt c1 hf
    refine lv_aload_n hx hb dX7_busiest_7 rfl (lv_at hl 0 rfl) ?_
    refine lv_bipush (v := (-5 : Int32)) hx hb dX7_busiest_8 (by decide) ?_
    obtain ⟨u6, hf6, hf⟩ := xb hf
    refine x_ranw (ws' := [(h0, xO 7 [.int v_laws, .ref h1, .ref h2, .int v_inForce, .int v_depth, .int v_miss, .long v_ring, .int v_size, .int v_people, .ref g0, .int v_seed, .int v_taped, .ref g1, .int v_from, .int v_to, .int v_token, .int v_value, .ref g2, .ref g3, .ref g4, .ref h3, .int v_imaged, .ref g5, .long v_oldRing, .ref g6, .long v_aheadRing, .ref g7]), (h1, xI X 6 v_kind), (h2, xI X 6 v_own), (h3, xI X 7 u6.2)]) (x_runV (q0 := 0) (rest := []) (As := [.int (-5 : Int32)]) hC mw_143 md_X7_no (c_X7_no (X := X) hf6) hH [0, 3] rfl (by decide) rfl rfl rfl hl.1 rfl rfl (Nat.le_of_ble_eq_true rfl) dX7_busiest_10 ⟨Nat.le_of_ble_eq_true rfl, Nat.le_of_ble_eq_true rfl⟩ ⟨rfl, rfl⟩ ⟨Nat.le_refl _, Nat.le_refl _⟩) hH [0, 3] rfl rfl rfl rfl rfl (fun hz6 H locs hH => ?_)
    exact x_retiw (φ := fun _ => True) (f := fun u : Int32 × (Nat → Int32) => u.1) (wf := fun u : Int32 × (Nat → Int32) => [(h0, xO 7 [.int v_laws, .ref h1, .ref h2, .int v_inForce, .int v_depth, .int v_miss, .long v_ring, .int v_size, .int v_people, .ref g0, .int v_seed, .int v_taped, .ref g1, .int v_from, .int v_to, .int v_token, .int v_value, .ref g2, .ref g3, .ref g4, .ref h3, .int v_imaged, .ref g5, .long v_oldRing, .ref g6, .long v_aheadRing, .ref g7]), (h1, xI X 6 v_kind), (h2, xI X 6 v_own), (h3, xI X 7 u.2)]) hC hr hlk trivial hf hH rfl rfl dX7_busiest_13
def f_X7_isPlan (p0 : Int32) (p1 : Int32) : Option (Int32) :=
  (f_X7_within p0 (nI 1) (nI 12)).bind fun u1 =>
  if u1 = (nI 0) then
    some (nI 0)
  else
  if p1 < (nI 0) then
    some (nI 0)
  else
  if (xshl (nI 1) p0) ≤ p1 then
    some (nI 0)
  else
  some (nI 1)
set_option maxHeartbeats 4000000 in
set_option maxRecDepth 100000 in
theorem c_X7_isPlan {l : Launch} {X : xG} {p0 : Int32} {p1 : Int32} {u : Int32} (hf : f_X7_isPlan p0 p1 = some u) : Met l yX7_isPlan (xw yX7_isPlan cX7_isPlan 2 (some .boolean)) (xrm 1 22) (xPc [.int p0, .int p1] X []) (xQ (u = 0 ∨ u = 1) (.returned (some (.int u)))) 0 0 xNo := by
  refine xMet (n := 2) md_X7_isPlan.1 (Nat.le_of_ble_eq_true rfl) ?_
  intro p e s m args below meth c ls A hC hr hlk hH hl
  have hl : lv_has ls 2 [(0, .int p0), (1, .int p1)] := hl
  have hx := hC.1
  have hb := hC.2.1
  refine lv_iload_n hx hb dX7_isPlan_0 rfl (lv_at hl 0 rfl) ?_
  refine lv_iconst (v := (nI 1)) hx hb dX7_isPlan_1 (by decide) ?_
  refine lv_bipush (v := (nI 12)) hx hb dX7_isPlan_2 (by decide) ?_
  obtain ⟨u1, hf1, hf⟩ := xb hf
  refine x_ran (x_runS (rest := []) (As := [.int p0, .int (nI 1), .int (nI 12)]) hC mw_140 md_X7_within (c_X7_within (X := X) hf1) hH [] rfl (by decide) hl.1 rfl rfl (Nat.le_of_ble_eq_true rfl) dX7_isPlan_4 ⟨Nat.le_of_ble_eq_true rfl, Nat.le_of_ble_eq_true rfl⟩ ⟨rfl, rfl⟩ ⟨Nat.le_refl _, Nat.le_refl _⟩) rfl (fun hz1 => ?_)
  refine lv_if_eq (tgt := 25) hx hb dX7_isPlan_7 (by decide) (fun c2 => ?_) (fun c2 => ?_)
  · have hf := xt c2 hf
    refine lv_iconst (v := (nI 0)) hx hb dX7_isPlan_25 (by decide) ?_
    exact x_retz hC hr hlk (Or.inl rfl) hf dX7_isPlan_26
  · have hf := xe c2 hf
    refine lv_iload_n hx hb dX7_isPlan_10 rfl (lv_at hl 1 rfl) ?_
    refine lv_if_lt (tgt := 25) hx hb dX7_isPlan_11 (by decide) (fun c3 => ?_) (fun c3 => ?_)
    · have hf := xt c3 hf
      refine lv_iconst (v := (nI 0)) hx hb dX7_isPlan_25 (by decide) ?_
      exact x_retz hC hr hlk (Or.inl rfl) hf dX7_isPlan_26
    · have hf := xe c3 hf
      refine lv_iload_n hx hb dX7_isPlan_14 rfl (lv_at hl 1 rfl) ?_
      refine lv_iconst (v := (nI 1)) hx hb dX7_isPlan_15 (by decide) ?_
      refine lv_iload_n hx hb dX7_isPlan_16 rfl (lv_at hl 0 rfl) ?_
      refine x_ishl hx hb dX7_isPlan_17 ?_
      refine lv_icmp_ge (tgt := 25) hx hb dX7_isPlan_18 (by decide) (fun c4 => ?_) (fun c4 => ?_)
      · have hf := xt c4 hf
        refine lv_iconst (v := (nI 0)) hx hb dX7_isPlan_25 (by decide) ?_
        exact x_retz hC hr hlk (Or.inl rfl) hf dX7_isPlan_26
      · have hf := xe c4 hf
        refine lv_iconst (v := (nI 1)) hx hb dX7_isPlan_21 (by decide) ?_
        refine lv_goto (tgt := 26) hx hb dX7_isPlan_22 (by decide) ?_
        exact x_retz hC hr hlk (Or.inr rfl) hf dX7_isPlan_26
def f_X7_planBy_J33 (v_kind : (Nat → Int32)) (v_own : (Nat → Int32)) (p1 : Int32) (p2 : Int32) (p3 : Int32) (s6 : Int32 × Int32) : Option ((Int32) ⊕ (Int32 × Int32)) :=
  (f_X7_struckBits v_kind v_own p1 (Int32.toInt64 s6.2) p2).bind fun u3 =>
  if (xcmp u3 (Int32.toInt64 p3)) = (nI 0) then
    some (.inr (s6.2, s6.2 + (nI 1)))
  else
  some (.inr (s6.1, s6.2 + (nI 1)))
def f_X7_planBy_L6 (v_kind : (Nat → Int32)) (v_own : (Nat → Int32)) (p1 : Int32) (p2 : Int32) (p3 : Int32) (s6 : Int32 × Int32) : Option ((Int32) ⊕ (Int32 × Int32)) :=
  if (xshl (nI 1) p2) ≤ s6.2 then
    some (.inl s6.1)
  else
  if s6.1 = (-1 : Int32) then
    f_X7_planBy_J33 v_kind v_own p1 p2 p3 s6
  else
  (f_J6_bitCount_0f7a4 s6.2).bind fun u5 =>
  (f_J6_bitCount_0f7a4 s6.1).bind fun u6 =>
  if u6 ≤ u5 then
    some (.inr (s6.1, s6.2 + (nI 1)))
  else
  f_X7_planBy_J33 v_kind v_own p1 p2 p3 s6
def f_X7_planBy (v_kind : (Nat → Int32)) (v_own : (Nat → Int32)) (p1 : Int32) (p2 : Int32) (p3 : Int32) : Option (Int32) :=
  xloop (f_X7_planBy_L6 v_kind v_own p1 p2 p3) xN ((-1 : Int32), (nI 0))
set_option maxHeartbeats 4000000 in
set_option maxRecDepth 100000 in
theorem c_X7_planBy {l : Launch} {X : xG} {h0 h1 h2 g0 g1 g2 g3 g4 g5 g6 g7 g8 : Nat} {v_laws : Int32} {v_inForce : Int32} {v_depth : Int32} {v_miss : Int32} {v_ring : Int64} {v_size : Int32} {v_people : Int32} {v_seed : Int32} {v_taped : Int32} {v_from : Int32} {v_to : Int32} {v_token : Int32} {v_value : Int32} {v_imaged : Int32} {v_oldRing : Int64} {v_aheadRing : Int64} {v_kind : (Nat → Int32)} {v_own : (Nat → Int32)} {p1 : Int32} {p2 : Int32} {p3 : Int32} {u : Int32} (hf : f_X7_planBy v_kind v_own p1 p2 p3 = some u) : Met l yX7_planBy (xw yX7_planBy cX7_planBy 6 (some .int)) (xrm 4 99) (xPc [.ref h0, .int p1, .int p2, .int p3] X [(h0, xO 7 [.int v_laws, .ref h1, .ref h2, .int v_inForce, .int v_depth, .int v_miss, .long v_ring, .int v_size, .int v_people, .ref g0, .int v_seed, .int v_taped, .ref g1, .int v_from, .int v_to, .int v_token, .int v_value, .ref g2, .ref g3, .ref g4, .ref g5, .int v_imaged, .ref g6, .long v_oldRing, .ref g7, .long v_aheadRing, .ref g8]), (h1, xI X 6 v_kind), (h2, xI X 6 v_own)]) (xQ True (.returned (some (.int u)))) 0 0 xNo := by
  refine xMet (n := 3) md_X7_planBy.1 (Nat.le_of_ble_eq_true rfl) ?_
  intro p e s m args below meth c ls A hC hr hlk hH hl
  have hl : lv_has ls 6 [(0, .ref h0), (1, .int p1), (2, .int p2), (3, .int p3)] := hl
  have hx := hC.1
  have hb := hC.2.1
  have L6 : ∀ (n : Nat) (s6 : Int32 × Int32), xloop (f_X7_planBy_L6 v_kind v_own p1 p2 p3) n s6 = some u → ∀ (ls : Array Slot), lv_has ls 6 [(0, .ref h0), (1, .int p1), (2, .int p2), (3, .int p3), (4, .int s6.1), (5, .int s6.2)] → W p l e (xrm 4 99) s m args below meth c s.heap [] 0 0 (MQ below (xQ True (.returned (some (.int u)))) args s 0 0 xNo) (F0 m 6 ls []) := by
    intro  n
    induction n with
    | zero => intro s6 hf; exact xloop_0 hf
    | succ n ih6 =>
      intro s6 hf ls hl
      obtain ⟨o6, hf, ho6⟩ := xloop_s hf
      have J33 : ∀ (_ : True), f_X7_planBy_J33 v_kind v_own p1 p2 p3 s6 = some o6 → ∀ (ls : Array Slot), lv_has ls 6 [(0, .ref h0), (1, .int p1), (2, .int p2), (3, .int p3), (4, .int s6.1), (5, .int s6.2)] → W p l e (xrm 4 99) s m args below meth c s.heap [] 0 0 (MQ below (xQ True (.returned (some (.int u)))) args s 0 0 xNo) (F0 m 33 ls []) := by
        intro _ hf ls hl
        refine lv_aload_n hx hb dX7_planBy_33 rfl (lv_at hl 0 rfl) ?_
        refine lv_iload_n hx hb dX7_planBy_34 rfl (lv_at hl 1 rfl) ?_
        refine lv_iload hx hb dX7_planBy_35 (lv_at hl 5 rfl) ?_
        refine lv_i2l hx hb dX7_planBy_37 rfl ?_
        refine lv_iload_n hx hb dX7_planBy_38 rfl (lv_at hl 2 rfl) ?_
        obtain ⟨u3, hf3, hf⟩ := xb hf
        refine x_ran (x_runV (q0 := 0) (rest := []) (As := [.int p1, .long (Int32.toInt64 s6.2), .int p2]) hC mw_866 md_X7_struckBits (c_X7_struckBits (X := X) hf3) hH [0, 1, 2] rfl (by decide) rfl rfl rfl hl.1 rfl rfl (Nat.le_of_ble_eq_true rfl) dX7_planBy_39 ⟨Nat.le_of_ble_eq_true rfl, Nat.le_of_ble_eq_true rfl⟩ ⟨rfl, rfl⟩ ⟨Nat.le_refl _, Nat.le_refl _⟩) rfl (fun hz3 => ?_)
        refine lv_iload_n hx hb dX7_planBy_42 rfl (lv_at hl 3 rfl) ?_
        refine lv_i2l hx hb dX7_planBy_43 rfl ?_
        refine x_lcmp hx hb dX7_planBy_44 ?_
        refine lv_if_ne (tgt := 52) hx hb dX7_planBy_45 (by decide) (fun c4 => ?_) (fun c4 => ?_)
        · have hf := xe c4 hf
          refine lv_iinc (v := s6.2 + (nI 1)) (lv' := [(5, .int (s6.2 + (nI 1))), (0, .ref h0), (1, .int p1), (2, .int p2), (3, .int p3), (4, .int s6.1)]) hx hb dX7_planBy_52 hl (k := 5) rfl rfl (by decide) rfl (fun ls hl => ?_)
          refine lv_goto (tgt := 6) hx hb dX7_planBy_55 (by decide) ?_
          have hf := xo_go hf ho6
          exact ih6 (s6.1, s6.2 + (nI 1)) hf ls (lv_sub hl [1, 2, 3, 4, 5, 0] rfl)
        · have hf := xt c4 hf
          refine lv_iload hx hb dX7_planBy_48 (lv_at hl 5 rfl) ?_
          refine lv_istore (lv' := [(4, .int s6.2), (0, .ref h0), (1, .int p1), (2, .int p2), (3, .int p3), (5, .int s6.2)]) hx hb dX7_planBy_50 hl (by decide) rfl (fun ls hl => ?_)
          refine lv_iinc (v := s6.2 + (nI 1)) (lv' := [(5, .int (s6.2 + (nI 1))), (4, .int s6.2), (0, .ref h0), (1, .int p1), (2, .int p2), (3, .int p3)]) hx hb dX7_planBy_52 hl (k := 5) rfl rfl (by decide) rfl (fun ls hl => ?_)
          refine lv_goto (tgt := 6) hx hb dX7_planBy_55 (by decide) ?_
          have hf := xo_go hf ho6
          exact ih6 (s6.2, s6.2 + (nI 1)) hf ls (lv_sub hl [2, 3, 4, 5, 1, 0] rfl)
      refine lv_iload hx hb dX7_planBy_6 (lv_at hl 5 rfl) ?_
      refine lv_iconst (v := (nI 1)) hx hb dX7_planBy_8 (by decide) ?_
      refine lv_iload_n hx hb dX7_planBy_9 rfl (lv_at hl 2 rfl) ?_
      refine x_ishl hx hb dX7_planBy_10 ?_
      refine lv_icmp_ge (tgt := 58) hx hb dX7_planBy_11 (by decide) (fun c1 => ?_) (fun c1 => ?_)
      · have hf := xt c1 hf
        refine lv_iload hx hb dX7_planBy_58 (lv_at hl 4 rfl) ?_
        have hf := xo_ret hf ho6
        exact x_reti hC hr hlk trivial hf dX7_planBy_60
      · have hf := xe c1 hf
        refine lv_iload hx hb dX7_planBy_14 (lv_at hl 4 rfl) ?_
        refine lv_iconst (v := (-1 : Int32)) hx hb dX7_planBy_16 (by decide) ?_
        refine lv_icmp_eq (tgt := 33) hx hb dX7_planBy_17 (by decide) (fun c2 => ?_) (fun c2 => ?_)
        · have hf := xt c2 hf
          exact J33 trivial hf ls (lv_sub hl [0, 1, 2, 3, 4, 5] rfl)
        · have hf := xe c2 hf
          refine lv_iload hx hb dX7_planBy_20 (lv_at hl 5 rfl) ?_
          obtain ⟨u5, hf5, hf⟩ := xb hf
          refine x_ran (x_runS (rest := []) (As := [.int s6.2]) hC mw_971 md_J6_bitCount_0f7a4 (c_J6_bitCount_0f7a4 (X := X) hf5) hH [] rfl (by decide) hl.1 rfl rfl (Nat.le_of_ble_eq_true rfl) dX7_planBy_22 ⟨Nat.le_of_ble_eq_true rfl, Nat.le_of_ble_eq_true rfl⟩ ⟨rfl, rfl⟩ ⟨Nat.le_refl _, Nat.le_refl _⟩) rfl (fun hz5 => ?_)
          refine lv_iload hx hb dX7_planBy_25 (lv_at hl 4 rfl) ?_
          obtain ⟨u6, hf6, hf⟩ := xb hf
          refine x_ran (x_runS (rest := [.int u5]) (As := [.int s6.1]) hC mw_971 md_J6_bitCount_0f7a4 (c_J6_bitCount_0f7a4 (X := X) hf6) hH [] rfl (by decide) hl.1 rfl rfl (Nat.le_of_ble_eq_true rfl) dX7_planBy_27 ⟨Nat.le_of_ble_eq_true rfl, Nat.le_of_ble_eq_true rfl⟩ ⟨rfl, rfl⟩ ⟨Nat.le_refl _, Nat.le_refl _⟩) rfl (fun hz6 => ?_)
          refine lv_icmp_ge (tgt := 52) hx hb dX7_planBy_30 (by decide) (fun c7 => ?_) (fun c7 => ?_)
          · have hf := xt c7 hf
            refine lv_iinc (v := s6.2 + (nI 1)) (lv' := [(5, .int (s6.2 + (nI 1))), (0, .ref h0), (1, .int p1), (2, .int p2), (3, .int p3), (4, .int s6.1)]) hx hb dX7_planBy_52 hl (k := 5) rfl rfl (by decide) rfl (fun ls hl => ?_)
            refine lv_goto (tgt := 6) hx hb dX7_planBy_55 (by decide) ?_
            have hf := xo_go hf ho6
            exact ih6 (s6.1, s6.2 + (nI 1)) hf ls (lv_sub hl [1, 2, 3, 4, 5, 0] rfl)
          · have hf := xe c7 hf
            exact J33 trivial hf ls (lv_sub hl [0, 1, 2, 3, 4, 5] rfl)
  refine lv_iconst (v := (-1 : Int32)) hx hb dX7_planBy_0 (by decide) ?_
  refine lv_istore (lv' := [(4, .int (-1 : Int32)), (0, .ref h0), (1, .int p1), (2, .int p2), (3, .int p3)]) hx hb dX7_planBy_1 hl (by decide) rfl (fun ls hl => ?_)
  refine lv_iconst (v := (nI 0)) hx hb dX7_planBy_3 (by decide) ?_
  refine lv_istore (lv' := [(5, .int (nI 0)), (4, .int (-1 : Int32)), (0, .ref h0), (1, .int p1), (2, .int p2), (3, .int p3)]) hx hb dX7_planBy_4 hl (by decide) rfl (fun ls hl => ?_)
  exact L6 xN ((-1 : Int32), (nI 0)) hf ls (lv_sub hl [2, 3, 4, 5, 1, 0] rfl)
def f_X7_lawFor_L24 (v_laws : Int32) (v_kind : (Nat → Int32)) (v_own : (Nat → Int32)) (v_refusals : (Nat → Int32)) (p1 : Int32) (p2 : Int32) (s24 : Int32 × Int32 × Int32) : Option ((Int32 × (Nat → Int32)) ⊕ (Int32 × Int32 × Int32)) :=
  if v_laws ≤ s24.2.2 then
    some (.inl (s24.1, v_refusals))
  else
  (f_X7_planBy v_kind v_own s24.2.2 p1 p2).bind fun u4 =>
  if u4 = (-1 : Int32) then
    some (.inr (s24.1, s24.2.1, s24.2.2 + (nI 1)))
  else
  (f_J6_bitCount_0f7a4 u4).bind fun u6 =>
  if u6 < s24.2.1 then
    (f_J6_bitCount_0f7a4 u4).bind fun u8 =>
    some (.inr (s24.2.2, u8, s24.2.2 + (nI 1)))
  else
  some (.inr (s24.1, s24.2.1, s24.2.2 + (nI 1)))
def f_X7_lawFor (v_laws : Int32) (v_kind : (Nat → Int32)) (v_own : (Nat → Int32)) (v_refusals : (Nat → Int32)) (p1 : Int32) (p2 : Int32) : Option (Int32 × (Nat → Int32)) :=
  (f_X7_isPlan p1 p2).bind fun u1 =>
  if u1 = (nI 0) then
    (f_X7_no v_refusals (-2 : Int32)).bind fun u9 =>
    some (u9.1, u9.2)
  else
  xloop (f_X7_lawFor_L24 v_laws v_kind v_own v_refusals p1 p2) xN ((-1 : Int32), (nI 99), (nI 0))
set_option maxHeartbeats 4000000 in
set_option maxRecDepth 100000 in
theorem c_X7_lawFor {l : Launch} {X : xG} {h0 h1 h2 h3 g0 g1 g2 g3 g4 g5 g6 g7 : Nat} {v_laws : Int32} {v_inForce : Int32} {v_depth : Int32} {v_miss : Int32} {v_ring : Int64} {v_size : Int32} {v_people : Int32} {v_seed : Int32} {v_taped : Int32} {v_from : Int32} {v_to : Int32} {v_token : Int32} {v_value : Int32} {v_imaged : Int32} {v_oldRing : Int64} {v_aheadRing : Int64} {v_kind : (Nat → Int32)} {v_own : (Nat → Int32)} {v_refusals : (Nat → Int32)} {p1 : Int32} {p2 : Int32} {u : Int32 × (Nat → Int32)} (hf : f_X7_lawFor v_laws v_kind v_own v_refusals p1 p2 = some u) : Met l yX7_lawFor (xw yX7_lawFor cX7_lawFor 7 (some .int)) (xrm 5 124) (xPc [.ref h0, .int p1, .int p2] X [(h0, xO 7 [.int v_laws, .ref h1, .ref h2, .int v_inForce, .int v_depth, .int v_miss, .long v_ring, .int v_size, .int v_people, .ref g0, .int v_seed, .int v_taped, .ref g1, .int v_from, .int v_to, .int v_token, .int v_value, .ref g2, .ref g3, .ref g4, .ref h3, .int v_imaged, .ref g5, .long v_oldRing, .ref g6, .long v_aheadRing, .ref g7]), (h1, xI X 6 v_kind), (h2, xI X 6 v_own), (h3, xI X 7 v_refusals)]) (xQw True (.returned (some (.int u.1))) X [(h0, xO 7 [.int v_laws, .ref h1, .ref h2, .int v_inForce, .int v_depth, .int v_miss, .long v_ring, .int v_size, .int v_people, .ref g0, .int v_seed, .int v_taped, .ref g1, .int v_from, .int v_to, .int v_token, .int v_value, .ref g2, .ref g3, .ref g4, .ref h3, .int v_imaged, .ref g5, .long v_oldRing, .ref g6, .long v_aheadRing, .ref g7]), (h1, xI X 6 v_kind), (h2, xI X 6 v_own), (h3, xI X 7 u.2)] (xAs [(h0, xO 7 [.int v_laws, .ref h1, .ref h2, .int v_inForce, .int v_depth, .int v_miss, .long v_ring, .int v_size, .int v_people, .ref g0, .int v_seed, .int v_taped, .ref g1, .int v_from, .int v_to, .int v_token, .int v_value, .ref g2, .ref g3, .ref g4, .ref h3, .int v_imaged, .ref g5, .long v_oldRing, .ref g6, .long v_aheadRing, .ref g7]), (h1, xI X 6 v_kind), (h2, xI X 6 v_own), (h3, xI X 7 v_refusals)])) 0 0 (xAs [(h0, xO 7 [.int v_laws, .ref h1, .ref h2, .int v_inForce, .int v_depth, .int v_miss, .long v_ring, .int v_size, .int v_people, .ref g0, .int v_seed, .int v_taped, .ref g1, .int v_from, .int v_to, .int v_token, .int v_value, .ref g2, .ref g3, .ref g4, .ref h3, .int v_imaged, .ref g5, .long v_oldRing, .ref g6, .long v_aheadRing, .ref g7]), (h1, xI X 6 v_kind), (h2, xI X 6 v_own), (h3, xI X 7 v_refusals)]) := by
  refine xMetw (Qc := fun A => xQw True (.returned (some (.int u.1))) X [(h0, xO 7 [.int v_laws, .ref h1, .ref h2, .int v_inForce, .int v_depth, .int v_miss, .long v_ring, .int v_size, .int v_people, .ref g0, .int v_seed, .int v_taped, .ref g1, .int v_from, .int v_to, .int v_token, .int v_value, .ref g2, .ref g3, .ref g4, .ref h3, .int v_imaged, .ref g5, .long v_oldRing, .ref g6, .long v_aheadRing, .ref g7]), (h1, xI X 6 v_kind), (h2, xI X 6 v_own), (h3, xI X 7 u.2)] A) (n := 2) md_X7_lawFor.1 (Nat.le_of_ble_eq_true rfl) ?_
  intro p e s m args below meth c ls A hC hr hlk hH hl
  have hl : lv_has ls 7 [(0, .ref h0), (1, .int p1), (2, .int p2)] := hl
  have hx := hC.1
  have hb := hC.2.1
  have L24 : ∀ (n : Nat) (s24 : Int32 × Int32 × Int32), xloop (f_X7_lawFor_L24 v_laws v_kind v_own v_refusals p1 p2) n s24 = some u → ∀ (H : Heap) (locs : List Loc), xH X A [(h0, xO 7 [.int v_laws, .ref h1, .ref h2, .int v_inForce, .int v_depth, .int v_miss, .long v_ring, .int v_size, .int v_people, .ref g0, .int v_seed, .int v_taped, .ref g1, .int v_from, .int v_to, .int v_token, .int v_value, .ref g2, .ref g3, .ref g4, .ref h3, .int v_imaged, .ref g5, .long v_oldRing, .ref g6, .long v_aheadRing, .ref g7]), (h1, xI X 6 v_kind), (h2, xI X 6 v_own), (h3, xI X 7 v_refusals)] s.heap H locs → ∀ (ls : Array Slot), lv_has ls 7 [(0, .ref h0), (1, .int p1), (2, .int p2), (3, .int s24.1), (4, .int s24.2.1), (5, .int s24.2.2)] → W p l e (xrm 5 124) s m args below meth c H locs 0 0 (MQ below (xQw True (.returned (some (.int u.1))) X [(h0, xO 7 [.int v_laws, .ref h1, .ref h2, .int v_inForce, .int v_depth, .int v_miss, .long v_ring, .int v_size, .int v_people, .ref g0, .int v_seed, .int v_taped, .ref g1, .int v_from, .int v_to, .int v_token, .int v_value, .ref g2, .ref g3, .ref g4, .ref h3, .int v_imaged, .ref g5, .long v_oldRing, .ref g6, .long v_aheadRing, .ref g7]), (h1, xI X 6 v_kind), (h2, xI X 6 v_own), (h3, xI X 7 u.2)] A) args s 0 0 A) (F0 m 24 ls []) := by
    intro  n
    induction n with
    | zero => intro s24 hf; exact xloop_0 hf
    | succ n ih24 =>
      intro s24 hf H locs hH ls hl
      obtain ⟨o24, hf, ho24⟩ := xloop_s hf
      refine lv_iload hx hb dX7_lawFor_24 (lv_at hl 5 rfl) ?_
      refine lv_aload_n hx hb dX7_lawFor_26 rfl (lv_at hl 0 rfl) ?_
      refine x_get hC fd_RX7_52 hH.1 0 rfl rfl dX7_lawFor_27 ?_
      refine lv_icmp_ge (tgt := 78) hx hb dX7_lawFor_30 (by decide) (fun c3 => ?_) (fun c3 => ?_)
      · have hf := xt c3 hf
        refine lv_iload_n hx hb dX7_lawFor_78 rfl (lv_at hl 3 rfl) ?_
        have hf := xo_ret hf ho24
        exact x_retiw (φ := fun _ => True) (f := fun u : Int32 × (Nat → Int32) => u.1) (wf := fun u : Int32 × (Nat → Int32) => [(h0, xO 7 [.int v_laws, .ref h1, .ref h2, .int v_inForce, .int v_depth, .int v_miss, .long v_ring, .int v_size, .int v_people, .ref g0, .int v_seed, .int v_taped, .ref g1, .int v_from, .int v_to, .int v_token, .int v_value, .ref g2, .ref g3, .ref g4, .ref h3, .int v_imaged, .ref g5, .long v_oldRing, .ref g6, .long v_aheadRing, .ref g7]), (h1, xI X 6 v_kind), (h2, xI X 6 v_own), (h3, xI X 7 u.2)]) hC hr hlk trivial hf hH rfl rfl dX7_lawFor_79
      · have hf := xe c3 hf
        refine lv_aload_n hx hb dX7_lawFor_33 rfl (lv_at hl 0 rfl) ?_
        refine lv_iload hx hb dX7_lawFor_34 (lv_at hl 5 rfl) ?_
        refine lv_iload_n hx hb dX7_lawFor_36 rfl (lv_at hl 1 rfl) ?_
        refine lv_iload_n hx hb dX7_lawFor_37 rfl (lv_at hl 2 rfl) ?_
        obtain ⟨u4, hf4, hf⟩ := xb hf
        refine x_ran (x_runV (q0 := 0) (rest := []) (As := [.int s24.2.2, .int p1, .int p2]) hC mw_967 md_X7_planBy (c_X7_planBy (X := X) hf4) hH [0, 1, 2] rfl (by decide) rfl rfl rfl hl.1 rfl rfl (Nat.le_of_ble_eq_true rfl) dX7_lawFor_38 ⟨Nat.le_of_ble_eq_true rfl, Nat.le_of_ble_eq_true rfl⟩ ⟨rfl, rfl⟩ ⟨Nat.le_refl _, Nat.le_refl _⟩) rfl (fun hz4 => ?_)
        refine lv_istore (lv' := [(6, .int u4), (0, .ref h0), (1, .int p1), (2, .int p2), (3, .int s24.1), (4, .int s24.2.1), (5, .int s24.2.2)]) hx hb dX7_lawFor_41 hl (by decide) rfl (fun ls hl => ?_)
        refine lv_iload hx hb dX7_lawFor_43 (lv_at hl 0 rfl) ?_
        refine lv_iconst (v := (-1 : Int32)) hx hb dX7_lawFor_45 (by decide) ?_
        refine lv_icmp_eq (tgt := 72) hx hb dX7_lawFor_46 (by decide) (fun c5 => ?_) (fun c5 => ?_)
        · have hf := xt c5 hf
          refine lv_iinc (v := s24.2.2 + (nI 1)) (lv' := [(5, .int (s24.2.2 + (nI 1))), (6, .int u4), (0, .ref h0), (1, .int p1), (2, .int p2), (3, .int s24.1), (4, .int s24.2.1)]) hx hb dX7_lawFor_72 hl (k := 6) rfl rfl (by decide) rfl (fun ls hl => ?_)
          refine lv_goto (tgt := 24) hx hb dX7_lawFor_75 (by decide) ?_
          have hf := xo_go hf ho24
          exact ih24 (s24.1, s24.2.1, s24.2.2 + (nI 1)) hf _ _ hH ls (lv_sub hl [2, 3, 4, 5, 6, 0] rfl)
        · have hf := xe c5 hf
          refine lv_iload hx hb dX7_lawFor_49 (lv_at hl 0 rfl) ?_
          obtain ⟨u6, hf6, hf⟩ := xb hf
          refine x_ran (x_runS (rest := []) (As := [.int u4]) hC mw_971 md_J6_bitCount_0f7a4 (c_J6_bitCount_0f7a4 (X := X) hf6) hH [] rfl (by decide) hl.1 rfl rfl (Nat.le_of_ble_eq_true rfl) dX7_lawFor_51 ⟨Nat.le_of_ble_eq_true rfl, Nat.le_of_ble_eq_true rfl⟩ ⟨rfl, rfl⟩ ⟨Nat.le_refl _, Nat.le_refl _⟩) rfl (fun hz6 => ?_)
          refine lv_iload hx hb dX7_lawFor_54 (lv_at hl 5 rfl) ?_
          refine lv_icmp_lt (tgt := 62) hx hb dX7_lawFor_56 (by decide) (fun c7 => ?_) (fun c7 => ?_)
          · have hf := xt c7 hf
            refine lv_iload hx hb dX7_lawFor_62 (lv_at hl 0 rfl) ?_
            obtain ⟨u8, hf8, hf⟩ := xb hf
            refine x_ran (x_runS (rest := []) (As := [.int u4]) hC mw_971 md_J6_bitCount_0f7a4 (c_J6_bitCount_0f7a4 (X := X) hf8) hH [] rfl (by decide) hl.1 rfl rfl (Nat.le_of_ble_eq_true rfl) dX7_lawFor_64 ⟨Nat.le_of_ble_eq_true rfl, Nat.le_of_ble_eq_true rfl⟩ ⟨rfl, rfl⟩ ⟨Nat.le_refl _, Nat.le_refl _⟩) rfl (fun hz8 => ?_)
            refine lv_istore (lv' := [(4, .int u8), (6, .int u4), (0, .ref h0), (1, .int p1), (2, .int p2), (3, .int s24.1), (5, .int s24.2.2)]) hx hb dX7_lawFor_67 hl (by decide) rfl (fun ls hl => ?_)
            refine lv_iload hx hb dX7_lawFor_69 (lv_at hl 6 rfl) ?_
            refine lv_istore_n (lv' := [(3, .int s24.2.2), (4, .int u8), (6, .int u4), (0, .ref h0), (1, .int p1), (2, .int p2), (5, .int s24.2.2)]) hx hb dX7_lawFor_71 rfl hl (by decide) rfl (fun ls hl => ?_)
            refine lv_iinc (v := s24.2.2 + (nI 1)) (lv' := [(5, .int (s24.2.2 + (nI 1))), (3, .int s24.2.2), (4, .int u8), (6, .int u4), (0, .ref h0), (1, .int p1), (2, .int p2)]) hx hb dX7_lawFor_72 hl (k := 6) rfl rfl (by decide) rfl (fun ls hl => ?_)
            refine lv_goto (tgt := 24) hx hb dX7_lawFor_75 (by decide) ?_
            have hf := xo_go hf ho24
            exact ih24 (s24.2.2, u8, s24.2.2 + (nI 1)) hf _ _ hH ls (lv_sub hl [4, 5, 6, 1, 2, 0] rfl)
          · have hf := xe c7 hf
            refine lv_goto (tgt := 72) hx hb dX7_lawFor_59 (by decide) ?_
            refine lv_iinc (v := s24.2.2 + (nI 1)) (lv' := [(5, .int (s24.2.2 + (nI 1))), (6, .int u4), (0, .ref h0), (1, .int p1), (2, .int p2), (3, .int s24.1), (4, .int s24.2.1)]) hx hb dX7_lawFor_72 hl (k := 6) rfl rfl (by decide) rfl (fun ls hl => ?_)
            refine lv_goto (tgt := 24) hx hb dX7_lawFor_75 (by decide) ?_
            have hf := xo_go hf ho24
            exact ih24 (s24.1, s24.2.1, s24.2.2 + (nI 1)) hf _ _ hH ls (lv_sub hl [2, 3, 4, 5, 6, 0] rfl)
  refine lv_iload_n hx hb dX7_lawFor_0 rfl (lv_at hl 1 rfl) ?_
  refine lv_iload_n hx hb dX7_lawFor_1 rfl (lv_at hl 2 rfl) ?_
  obtain ⟨u1, hf1, hf⟩ := xb hf
  refine x_ran (x_runS (rest := []) (As := [.int p1, .int p2]) hC mw_964 md_X7_isPlan (c_X7_isPlan (X := X) hf1) hH [] rfl (by decide) hl.1 rfl rfl (Nat.le_of_ble_eq_true rfl) dX7_lawFor_2 ⟨Nat.le_of_ble_eq_true rfl, Nat.le_of_ble_eq_true rfl⟩ ⟨rfl, rfl⟩ ⟨Nat.le_refl _, Nat.le_refl _⟩) rfl (fun hz1 => ?_)
  refine lv_if_ne (tgt := 15) hx hb dX7_lawFor_5 (by decide) (fun c2 => ?_) (fun c2 => ?_)
  · have hf := xe c2 hf
    refine lv_iconst (v := (-1 : Int32)) hx hb dX7_lawFor_15 (by decide) ?_
    refine lv_istore_n (lv' := [(3, .int (-1 : Int32)), (0, .ref h0), (1, .int p1), (2, .int p2)]) hx hb dX7_lawFor_16 rfl hl (by decide) rfl (fun ls hl => ?_)
    refine lv_bipush (v := (nI 99)) hx hb dX7_lawFor_17 (by decide) ?_
    refine lv_istore (lv' := [(4, .int (nI 99)), (3, .int (-1 : Int32)), (0, .ref h0), (1, .int p1), (2, .int p2)]) hx hb dX7_lawFor_19 hl (by decide) rfl (fun ls hl => ?_)
    refine lv_iconst (v := (nI 0)) hx hb dX7_lawFor_21 (by decide) ?_
    refine lv_istore (lv' := [(5, .int (nI 0)), (4, .int (nI 99)), (3, .int (-1 : Int32)), (0, .ref h0), (1, .int p1), (2, .int p2)]) hx hb dX7_lawFor_22 hl (by decide) rfl (fun ls hl => ?_)
    exact L24 xN ((-1 : Int32), (nI 99), (nI 0)) hf _ _ hH ls (lv_sub hl [3, 4, 5, 2, 1, 0] rfl)
  · have hf := xt c2 hf
    refine lv_aload_n hx hb dX7_lawFor_8 rfl (lv_at hl 0 rfl) ?_
    refine lv_bipush (v := (-2 : Int32)) hx hb dX7_lawFor_9 (by decide) ?_
    obtain ⟨u9, hf9, hf⟩ := xb hf
    refine x_ranw (ws' := [(h0, xO 7 [.int v_laws, .ref h1, .ref h2, .int v_inForce, .int v_depth, .int v_miss, .long v_ring, .int v_size, .int v_people, .ref g0, .int v_seed, .int v_taped, .ref g1, .int v_from, .int v_to, .int v_token, .int v_value, .ref g2, .ref g3, .ref g4, .ref h3, .int v_imaged, .ref g5, .long v_oldRing, .ref g6, .long v_aheadRing, .ref g7]), (h1, xI X 6 v_kind), (h2, xI X 6 v_own), (h3, xI X 7 u9.2)]) (x_runV (q0 := 0) (rest := []) (As := [.int (-2 : Int32)]) hC mw_143 md_X7_no (c_X7_no (X := X) hf9) hH [0, 3] rfl (by decide) rfl rfl rfl hl.1 rfl rfl (Nat.le_of_ble_eq_true rfl) dX7_lawFor_11 ⟨Nat.le_of_ble_eq_true rfl, Nat.le_of_ble_eq_true rfl⟩ ⟨rfl, rfl⟩ ⟨Nat.le_refl _, Nat.le_refl _⟩) hH [0, 3] rfl rfl rfl rfl rfl (fun hz9 H locs hH => ?_)
    exact x_retiw (φ := fun _ => True) (f := fun u : Int32 × (Nat → Int32) => u.1) (wf := fun u : Int32 × (Nat → Int32) => [(h0, xO 7 [.int v_laws, .ref h1, .ref h2, .int v_inForce, .int v_depth, .int v_miss, .long v_ring, .int v_size, .int v_people, .ref g0, .int v_seed, .int v_taped, .ref g1, .int v_from, .int v_to, .int v_token, .int v_value, .ref g2, .ref g3, .ref g4, .ref h3, .int v_imaged, .ref g5, .long v_oldRing, .ref g6, .long v_aheadRing, .ref g7]), (h1, xI X 6 v_kind), (h2, xI X 6 v_own), (h3, xI X 7 u.2)]) hC hr hlk trivial hf hH rfl rfl dX7_lawFor_14
def f_X7_plan (v_laws : Int32) (v_inForce : Int32) (v_kind : (Nat → Int32)) (v_own : (Nat → Int32)) (v_refusals : (Nat → Int32)) (p1 : Int32) (p2 : Int32) : Option (Int32 × (Nat → Int32)) :=
  (f_X7_isPlan p1 p2).bind fun u1 =>
  if u1 = (nI 0) then
    (f_X7_no v_refusals (-2 : Int32)).bind fun u6 =>
    some (u6.1, u6.2)
  else
  if v_laws = (nI 0) then
    (f_X7_no v_refusals (-5 : Int32)).bind fun u5 =>
    some (u5.1, u5.2)
  else
  (f_X7_planBy v_kind v_own v_inForce p1 p2).bind fun u4 =>
  some (u4, v_refusals)
set_option maxHeartbeats 4000000 in
set_option maxRecDepth 100000 in
theorem c_X7_plan {l : Launch} {X : xG} {h0 h1 h2 h3 g0 g1 g2 g3 g4 g5 g6 g7 : Nat} {v_laws : Int32} {v_inForce : Int32} {v_depth : Int32} {v_miss : Int32} {v_ring : Int64} {v_size : Int32} {v_people : Int32} {v_seed : Int32} {v_taped : Int32} {v_from : Int32} {v_to : Int32} {v_token : Int32} {v_value : Int32} {v_imaged : Int32} {v_oldRing : Int64} {v_aheadRing : Int64} {v_kind : (Nat → Int32)} {v_own : (Nat → Int32)} {v_refusals : (Nat → Int32)} {p1 : Int32} {p2 : Int32} {u : Int32 × (Nat → Int32)} (hf : f_X7_plan v_laws v_inForce v_kind v_own v_refusals p1 p2 = some u) : Met l yX7_plan (xw yX7_plan cX7_plan 3 (some .int)) (xrm 5 124) (xPc [.ref h0, .int p1, .int p2] X [(h0, xO 7 [.int v_laws, .ref h1, .ref h2, .int v_inForce, .int v_depth, .int v_miss, .long v_ring, .int v_size, .int v_people, .ref g0, .int v_seed, .int v_taped, .ref g1, .int v_from, .int v_to, .int v_token, .int v_value, .ref g2, .ref g3, .ref g4, .ref h3, .int v_imaged, .ref g5, .long v_oldRing, .ref g6, .long v_aheadRing, .ref g7]), (h1, xI X 6 v_kind), (h2, xI X 6 v_own), (h3, xI X 7 v_refusals)]) (xQw True (.returned (some (.int u.1))) X [(h0, xO 7 [.int v_laws, .ref h1, .ref h2, .int v_inForce, .int v_depth, .int v_miss, .long v_ring, .int v_size, .int v_people, .ref g0, .int v_seed, .int v_taped, .ref g1, .int v_from, .int v_to, .int v_token, .int v_value, .ref g2, .ref g3, .ref g4, .ref h3, .int v_imaged, .ref g5, .long v_oldRing, .ref g6, .long v_aheadRing, .ref g7]), (h1, xI X 6 v_kind), (h2, xI X 6 v_own), (h3, xI X 7 u.2)] (xAs [(h0, xO 7 [.int v_laws, .ref h1, .ref h2, .int v_inForce, .int v_depth, .int v_miss, .long v_ring, .int v_size, .int v_people, .ref g0, .int v_seed, .int v_taped, .ref g1, .int v_from, .int v_to, .int v_token, .int v_value, .ref g2, .ref g3, .ref g4, .ref h3, .int v_imaged, .ref g5, .long v_oldRing, .ref g6, .long v_aheadRing, .ref g7]), (h1, xI X 6 v_kind), (h2, xI X 6 v_own), (h3, xI X 7 v_refusals)])) 0 0 (xAs [(h0, xO 7 [.int v_laws, .ref h1, .ref h2, .int v_inForce, .int v_depth, .int v_miss, .long v_ring, .int v_size, .int v_people, .ref g0, .int v_seed, .int v_taped, .ref g1, .int v_from, .int v_to, .int v_token, .int v_value, .ref g2, .ref g3, .ref g4, .ref h3, .int v_imaged, .ref g5, .long v_oldRing, .ref g6, .long v_aheadRing, .ref g7]), (h1, xI X 6 v_kind), (h2, xI X 6 v_own), (h3, xI X 7 v_refusals)]) := by
  refine xMetw (Qc := fun A => xQw True (.returned (some (.int u.1))) X [(h0, xO 7 [.int v_laws, .ref h1, .ref h2, .int v_inForce, .int v_depth, .int v_miss, .long v_ring, .int v_size, .int v_people, .ref g0, .int v_seed, .int v_taped, .ref g1, .int v_from, .int v_to, .int v_token, .int v_value, .ref g2, .ref g3, .ref g4, .ref h3, .int v_imaged, .ref g5, .long v_oldRing, .ref g6, .long v_aheadRing, .ref g7]), (h1, xI X 6 v_kind), (h2, xI X 6 v_own), (h3, xI X 7 u.2)] A) (n := 2) md_X7_plan.1 (Nat.le_of_ble_eq_true rfl) ?_
  intro p e s m args below meth c ls A hC hr hlk hH hl
  have hl : lv_has ls 3 [(0, .ref h0), (1, .int p1), (2, .int p2)] := hl
  have hx := hC.1
  have hb := hC.2.1
  refine lv_iload_n hx hb dX7_plan_0 rfl (lv_at hl 1 rfl) ?_
  refine lv_iload_n hx hb dX7_plan_1 rfl (lv_at hl 2 rfl) ?_
  obtain ⟨u1, hf1, hf⟩ := xb hf
  refine x_ran (x_runS (rest := []) (As := [.int p1, .int p2]) hC mw_964 md_X7_isPlan (c_X7_isPlan (X := X) hf1) hH [] rfl (by decide) hl.1 rfl rfl (Nat.le_of_ble_eq_true rfl) dX7_plan_2 ⟨Nat.le_of_ble_eq_true rfl, Nat.le_of_ble_eq_true rfl⟩ ⟨rfl, rfl⟩ ⟨Nat.le_refl _, Nat.le_refl _⟩) rfl (fun hz1 => ?_)
  refine lv_if_ne (tgt := 15) hx hb dX7_plan_5 (by decide) (fun c2 => ?_) (fun c2 => ?_)
  · have hf := xe c2 hf
    refine lv_aload_n hx hb dX7_plan_15 rfl (lv_at hl 0 rfl) ?_
    refine x_get hC fd_RX7_52 hH.1 0 rfl rfl dX7_plan_16 ?_
    refine lv_if_ne (tgt := 31) hx hb dX7_plan_19 (by decide) (fun c3 => ?_) (fun c3 => ?_)
    · have hf := xe c3 hf
      refine lv_aload_n hx hb dX7_plan_31 rfl (lv_at hl 0 rfl) ?_
      refine lv_aload_n hx hb dX7_plan_32 rfl (lv_at hl 0 rfl) ?_
      refine x_get hC fd_RX7_102 hH.1 0 rfl rfl dX7_plan_33 ?_
      refine lv_iload_n hx hb dX7_plan_36 rfl (lv_at hl 1 rfl) ?_
      refine lv_iload_n hx hb dX7_plan_37 rfl (lv_at hl 2 rfl) ?_
      obtain ⟨u4, hf4, hf⟩ := xb hf
      refine x_ran (x_runV (q0 := 0) (rest := []) (As := [.int v_inForce, .int p1, .int p2]) hC mw_967 md_X7_planBy (c_X7_planBy (X := X) hf4) hH [0, 1, 2] rfl (by decide) rfl rfl rfl hl.1 rfl rfl (Nat.le_of_ble_eq_true rfl) dX7_plan_38 ⟨Nat.le_of_ble_eq_true rfl, Nat.le_of_ble_eq_true rfl⟩ ⟨rfl, rfl⟩ ⟨Nat.le_refl _, Nat.le_refl _⟩) rfl (fun hz4 => ?_)
      exact x_retiw (φ := fun _ => True) (f := fun u : Int32 × (Nat → Int32) => u.1) (wf := fun u : Int32 × (Nat → Int32) => [(h0, xO 7 [.int v_laws, .ref h1, .ref h2, .int v_inForce, .int v_depth, .int v_miss, .long v_ring, .int v_size, .int v_people, .ref g0, .int v_seed, .int v_taped, .ref g1, .int v_from, .int v_to, .int v_token, .int v_value, .ref g2, .ref g3, .ref g4, .ref h3, .int v_imaged, .ref g5, .long v_oldRing, .ref g6, .long v_aheadRing, .ref g7]), (h1, xI X 6 v_kind), (h2, xI X 6 v_own), (h3, xI X 7 u.2)]) hC hr hlk trivial hf hH rfl rfl dX7_plan_41
    · have hf := xt c3 hf
      refine lv_aload_n hx hb dX7_plan_22 rfl (lv_at hl 0 rfl) ?_
      refine lv_bipush (v := (-5 : Int32)) hx hb dX7_plan_23 (by decide) ?_
      obtain ⟨u5, hf5, hf⟩ := xb hf
      refine x_ranw (ws' := [(h0, xO 7 [.int v_laws, .ref h1, .ref h2, .int v_inForce, .int v_depth, .int v_miss, .long v_ring, .int v_size, .int v_people, .ref g0, .int v_seed, .int v_taped, .ref g1, .int v_from, .int v_to, .int v_token, .int v_value, .ref g2, .ref g3, .ref g4, .ref h3, .int v_imaged, .ref g5, .long v_oldRing, .ref g6, .long v_aheadRing, .ref g7]), (h1, xI X 6 v_kind), (h2, xI X 6 v_own), (h3, xI X 7 u5.2)]) (x_runV (q0 := 0) (rest := []) (As := [.int (-5 : Int32)]) hC mw_143 md_X7_no (c_X7_no (X := X) hf5) hH [0, 3] rfl (by decide) rfl rfl rfl hl.1 rfl rfl (Nat.le_of_ble_eq_true rfl) dX7_plan_25 ⟨Nat.le_of_ble_eq_true rfl, Nat.le_of_ble_eq_true rfl⟩ ⟨rfl, rfl⟩ ⟨Nat.le_refl _, Nat.le_refl _⟩) hH [0, 3] rfl rfl rfl rfl rfl (fun hz5 H locs hH => ?_)
      refine lv_goto (tgt := 41) hx hb dX7_plan_28 (by decide) ?_
      exact x_retiw (φ := fun _ => True) (f := fun u : Int32 × (Nat → Int32) => u.1) (wf := fun u : Int32 × (Nat → Int32) => [(h0, xO 7 [.int v_laws, .ref h1, .ref h2, .int v_inForce, .int v_depth, .int v_miss, .long v_ring, .int v_size, .int v_people, .ref g0, .int v_seed, .int v_taped, .ref g1, .int v_from, .int v_to, .int v_token, .int v_value, .ref g2, .ref g3, .ref g4, .ref h3, .int v_imaged, .ref g5, .long v_oldRing, .ref g6, .long v_aheadRing, .ref g7]), (h1, xI X 6 v_kind), (h2, xI X 6 v_own), (h3, xI X 7 u.2)]) hC hr hlk trivial hf hH rfl rfl dX7_plan_41
  · have hf := xt c2 hf
    refine lv_aload_n hx hb dX7_plan_8 rfl (lv_at hl 0 rfl) ?_
    refine lv_bipush (v := (-2 : Int32)) hx hb dX7_plan_9 (by decide) ?_
    obtain ⟨u6, hf6, hf⟩ := xb hf
    refine x_ranw (ws' := [(h0, xO 7 [.int v_laws, .ref h1, .ref h2, .int v_inForce, .int v_depth, .int v_miss, .long v_ring, .int v_size, .int v_people, .ref g0, .int v_seed, .int v_taped, .ref g1, .int v_from, .int v_to, .int v_token, .int v_value, .ref g2, .ref g3, .ref g4, .ref h3, .int v_imaged, .ref g5, .long v_oldRing, .ref g6, .long v_aheadRing, .ref g7]), (h1, xI X 6 v_kind), (h2, xI X 6 v_own), (h3, xI X 7 u6.2)]) (x_runV (q0 := 0) (rest := []) (As := [.int (-2 : Int32)]) hC mw_143 md_X7_no (c_X7_no (X := X) hf6) hH [0, 3] rfl (by decide) rfl rfl rfl hl.1 rfl rfl (Nat.le_of_ble_eq_true rfl) dX7_plan_11 ⟨Nat.le_of_ble_eq_true rfl, Nat.le_of_ble_eq_true rfl⟩ ⟨rfl, rfl⟩ ⟨Nat.le_refl _, Nat.le_refl _⟩) hH [0, 3] rfl rfl rfl rfl rfl (fun hz6 H locs hH => ?_)
    exact x_retiw (φ := fun _ => True) (f := fun u : Int32 × (Nat → Int32) => u.1) (wf := fun u : Int32 × (Nat → Int32) => [(h0, xO 7 [.int v_laws, .ref h1, .ref h2, .int v_inForce, .int v_depth, .int v_miss, .long v_ring, .int v_size, .int v_people, .ref g0, .int v_seed, .int v_taped, .ref g1, .int v_from, .int v_to, .int v_token, .int v_value, .ref g2, .ref g3, .ref g4, .ref h3, .int v_imaged, .ref g5, .long v_oldRing, .ref g6, .long v_aheadRing, .ref g7]), (h1, xI X 6 v_kind), (h2, xI X 6 v_own), (h3, xI X 7 u.2)]) hC hr hlk trivial hf hH rfl rfl dX7_plan_14
def f_X7_fill_J59 (v_laws : Int32) (v_inForce : Int32) (v_depth : Int32) (v_kind : (Nat → Int32)) (v_own : (Nat → Int32)) (p1 : Int32) (p2 : Int32) (s34 : Int32 × Int32) : Option ((Int32 × (Nat → Int32)) ⊕ (Int32 × Int32)) :=
  (f_X7_heardBits v_laws v_inForce v_depth v_kind v_own (Int32.toInt64 s34.2) p1).bind fun u6 =>
  if (xcmp u6 (Int32.toInt64 p2)) = (nI 0) then
    some (.inr (s34.2, s34.2 + (nI 1)))
  else
  some (.inr (s34.1, s34.2 + (nI 1)))
def f_X7_fill_L34 (v_laws : Int32) (v_inForce : Int32) (v_depth : Int32) (v_kind : (Nat → Int32)) (v_own : (Nat → Int32)) (v_refusals : (Nat → Int32)) (p1 : Int32) (p2 : Int32) (s34 : Int32 × Int32) : Option ((Int32 × (Nat → Int32)) ⊕ (Int32 × Int32)) :=
  if (xshl (nI 1) p1) ≤ s34.2 then
    some (.inl (s34.1, v_refusals))
  else
  if s34.1 = (-1 : Int32) then
    f_X7_fill_J59 v_laws v_inForce v_depth v_kind v_own p1 p2 s34
  else
  (f_J6_bitCount_0f7a4 s34.2).bind fun u8 =>
  (f_J6_bitCount_0f7a4 s34.1).bind fun u9 =>
  if u9 ≤ u8 then
    some (.inr (s34.1, s34.2 + (nI 1)))
  else
  f_X7_fill_J59 v_laws v_inForce v_depth v_kind v_own p1 p2 s34
def f_X7_fill (v_laws : Int32) (v_inForce : Int32) (v_depth : Int32) (v_kind : (Nat → Int32)) (v_own : (Nat → Int32)) (v_refusals : (Nat → Int32)) (p1 : Int32) (p2 : Int32) : Option (Int32 × (Nat → Int32)) :=
  (f_X7_isPlan p1 p2).bind fun u1 =>
  if u1 = (nI 0) then
    (f_X7_no v_refusals (-2 : Int32)).bind fun u12 =>
    some (u12.1, u12.2)
  else
  if v_laws = (nI 0) then
    (f_X7_no v_refusals (-5 : Int32)).bind fun u11 =>
    some (u11.1, u11.2)
  else
  xloop (f_X7_fill_L34 v_laws v_inForce v_depth v_kind v_own v_refusals p1 p2) xN ((-1 : Int32), (nI 0))
set_option maxHeartbeats 4000000 in
set_option maxRecDepth 100000 in
theorem c_X7_fill {l : Launch} {X : xG} {h0 h1 h2 h3 g0 g1 g2 g3 g4 g5 g6 g7 : Nat} {v_laws : Int32} {v_inForce : Int32} {v_depth : Int32} {v_miss : Int32} {v_ring : Int64} {v_size : Int32} {v_people : Int32} {v_seed : Int32} {v_taped : Int32} {v_from : Int32} {v_to : Int32} {v_token : Int32} {v_value : Int32} {v_imaged : Int32} {v_oldRing : Int64} {v_aheadRing : Int64} {v_kind : (Nat → Int32)} {v_own : (Nat → Int32)} {v_refusals : (Nat → Int32)} {p1 : Int32} {p2 : Int32} {u : Int32 × (Nat → Int32)} (hf : f_X7_fill v_laws v_inForce v_depth v_kind v_own v_refusals p1 p2 = some u) : Met l yX7_fill (xw yX7_fill cX7_fill 5 (some .int)) (xrm 6 146) (xPc [.ref h0, .int p1, .int p2] X [(h0, xO 7 [.int v_laws, .ref h1, .ref h2, .int v_inForce, .int v_depth, .int v_miss, .long v_ring, .int v_size, .int v_people, .ref g0, .int v_seed, .int v_taped, .ref g1, .int v_from, .int v_to, .int v_token, .int v_value, .ref g2, .ref g3, .ref g4, .ref h3, .int v_imaged, .ref g5, .long v_oldRing, .ref g6, .long v_aheadRing, .ref g7]), (h1, xI X 6 v_kind), (h2, xI X 6 v_own), (h3, xI X 7 v_refusals)]) (xQw True (.returned (some (.int u.1))) X [(h0, xO 7 [.int v_laws, .ref h1, .ref h2, .int v_inForce, .int v_depth, .int v_miss, .long v_ring, .int v_size, .int v_people, .ref g0, .int v_seed, .int v_taped, .ref g1, .int v_from, .int v_to, .int v_token, .int v_value, .ref g2, .ref g3, .ref g4, .ref h3, .int v_imaged, .ref g5, .long v_oldRing, .ref g6, .long v_aheadRing, .ref g7]), (h1, xI X 6 v_kind), (h2, xI X 6 v_own), (h3, xI X 7 u.2)] (xAs [(h0, xO 7 [.int v_laws, .ref h1, .ref h2, .int v_inForce, .int v_depth, .int v_miss, .long v_ring, .int v_size, .int v_people, .ref g0, .int v_seed, .int v_taped, .ref g1, .int v_from, .int v_to, .int v_token, .int v_value, .ref g2, .ref g3, .ref g4, .ref h3, .int v_imaged, .ref g5, .long v_oldRing, .ref g6, .long v_aheadRing, .ref g7]), (h1, xI X 6 v_kind), (h2, xI X 6 v_own), (h3, xI X 7 v_refusals)])) 0 0 (xAs [(h0, xO 7 [.int v_laws, .ref h1, .ref h2, .int v_inForce, .int v_depth, .int v_miss, .long v_ring, .int v_size, .int v_people, .ref g0, .int v_seed, .int v_taped, .ref g1, .int v_from, .int v_to, .int v_token, .int v_value, .ref g2, .ref g3, .ref g4, .ref h3, .int v_imaged, .ref g5, .long v_oldRing, .ref g6, .long v_aheadRing, .ref g7]), (h1, xI X 6 v_kind), (h2, xI X 6 v_own), (h3, xI X 7 v_refusals)]) := by
  refine xMetw (Qc := fun A => xQw True (.returned (some (.int u.1))) X [(h0, xO 7 [.int v_laws, .ref h1, .ref h2, .int v_inForce, .int v_depth, .int v_miss, .long v_ring, .int v_size, .int v_people, .ref g0, .int v_seed, .int v_taped, .ref g1, .int v_from, .int v_to, .int v_token, .int v_value, .ref g2, .ref g3, .ref g4, .ref h3, .int v_imaged, .ref g5, .long v_oldRing, .ref g6, .long v_aheadRing, .ref g7]), (h1, xI X 6 v_kind), (h2, xI X 6 v_own), (h3, xI X 7 u.2)] A) (n := 2) md_X7_fill.1 (Nat.le_of_ble_eq_true rfl) ?_
  intro p e s m args below meth c ls A hC hr hlk hH hl
  have hl : lv_has ls 5 [(0, .ref h0), (1, .int p1), (2, .int p2)] := hl
  have hx := hC.1
  have hb := hC.2.1
  have L34 : ∀ (n : Nat) (s34 : Int32 × Int32), xloop (f_X7_fill_L34 v_laws v_inForce v_depth v_kind v_own v_refusals p1 p2) n s34 = some u → ∀ (H : Heap) (locs : List Loc), xH X A [(h0, xO 7 [.int v_laws, .ref h1, .ref h2, .int v_inForce, .int v_depth, .int v_miss, .long v_ring, .int v_size, .int v_people, .ref g0, .int v_seed, .int v_taped, .ref g1, .int v_from, .int v_to, .int v_token, .int v_value, .ref g2, .ref g3, .ref g4, .ref h3, .int v_imaged, .ref g5, .long v_oldRing, .ref g6, .long v_aheadRing, .ref g7]), (h1, xI X 6 v_kind), (h2, xI X 6 v_own), (h3, xI X 7 v_refusals)] s.heap H locs → ∀ (ls : Array Slot), lv_has ls 5 [(0, .ref h0), (1, .int p1), (2, .int p2), (3, .int s34.1), (4, .int s34.2)] → W p l e (xrm 6 146) s m args below meth c H locs 0 0 (MQ below (xQw True (.returned (some (.int u.1))) X [(h0, xO 7 [.int v_laws, .ref h1, .ref h2, .int v_inForce, .int v_depth, .int v_miss, .long v_ring, .int v_size, .int v_people, .ref g0, .int v_seed, .int v_taped, .ref g1, .int v_from, .int v_to, .int v_token, .int v_value, .ref g2, .ref g3, .ref g4, .ref h3, .int v_imaged, .ref g5, .long v_oldRing, .ref g6, .long v_aheadRing, .ref g7]), (h1, xI X 6 v_kind), (h2, xI X 6 v_own), (h3, xI X 7 u.2)] A) args s 0 0 A) (F0 m 34 ls []) := by
    intro  n
    induction n with
    | zero => intro s34 hf; exact xloop_0 hf
    | succ n ih34 =>
      intro s34 hf H locs hH ls hl
      obtain ⟨o34, hf, ho34⟩ := xloop_s hf
      have J59 : ∀ (_ : True), f_X7_fill_J59 v_laws v_inForce v_depth v_kind v_own p1 p2 s34 = some o34 → ∀ (H : Heap) (locs : List Loc), xH X A [(h0, xO 7 [.int v_laws, .ref h1, .ref h2, .int v_inForce, .int v_depth, .int v_miss, .long v_ring, .int v_size, .int v_people, .ref g0, .int v_seed, .int v_taped, .ref g1, .int v_from, .int v_to, .int v_token, .int v_value, .ref g2, .ref g3, .ref g4, .ref h3, .int v_imaged, .ref g5, .long v_oldRing, .ref g6, .long v_aheadRing, .ref g7]), (h1, xI X 6 v_kind), (h2, xI X 6 v_own), (h3, xI X 7 v_refusals)] s.heap H locs → ∀ (ls : Array Slot), lv_has ls 5 [(0, .ref h0), (1, .int p1), (2, .int p2), (3, .int s34.1), (4, .int s34.2)] → W p l e (xrm 6 146) s m args below meth c H locs 0 0 (MQ below (xQw True (.returned (some (.int u.1))) X [(h0, xO 7 [.int v_laws, .ref h1, .ref h2, .int v_inForce, .int v_depth, .int v_miss, .long v_ring, .int v_size, .int v_people, .ref g0, .int v_seed, .int v_taped, .ref g1, .int v_from, .int v_to, .int v_token, .int v_value, .ref g2, .ref g3, .ref g4, .ref h3, .int v_imaged, .ref g5, .long v_oldRing, .ref g6, .long v_aheadRing, .ref g7]), (h1, xI X 6 v_kind), (h2, xI X 6 v_own), (h3, xI X 7 u.2)] A) args s 0 0 A) (F0 m 59 ls []) := by
        intro _ hf H locs hH ls hl
        refine lv_aload_n hx hb dX7_fill_59 rfl (lv_at hl 0 rfl) ?_
        refine lv_iload hx hb dX7_fill_60 (lv_at hl 4 rfl) ?_
        refine lv_i2l hx hb dX7_fill_62 rfl ?_
        refine lv_iload_n hx hb dX7_fill_63 rfl (lv_at hl 1 rfl) ?_
        obtain ⟨u6, hf6, hf⟩ := xb hf
        refine x_ran (x_runV (q0 := 0) (rest := []) (As := [.long (Int32.toInt64 s34.2), .int p1]) hC mw_1095 md_X7_heardBits (c_X7_heardBits (X := X) hf6) hH [0, 1, 2] rfl (by decide) rfl rfl rfl hl.1 rfl rfl (Nat.le_of_ble_eq_true rfl) dX7_fill_64 ⟨Nat.le_of_ble_eq_true rfl, Nat.le_of_ble_eq_true rfl⟩ ⟨rfl, rfl⟩ ⟨Nat.le_refl _, Nat.le_refl _⟩) rfl (fun hz6 => ?_)
        refine lv_iload_n hx hb dX7_fill_67 rfl (lv_at hl 2 rfl) ?_
        refine lv_i2l hx hb dX7_fill_68 rfl ?_
        refine x_lcmp hx hb dX7_fill_69 ?_
        refine lv_if_ne (tgt := 76) hx hb dX7_fill_70 (by decide) (fun c7 => ?_) (fun c7 => ?_)
        · have hf := xe c7 hf
          refine lv_iinc (v := s34.2 + (nI 1)) (lv' := [(4, .int (s34.2 + (nI 1))), (0, .ref h0), (1, .int p1), (2, .int p2), (3, .int s34.1)]) hx hb dX7_fill_76 hl (k := 4) rfl rfl (by decide) rfl (fun ls hl => ?_)
          refine lv_goto (tgt := 34) hx hb dX7_fill_79 (by decide) ?_
          have hf := xo_go hf ho34
          exact ih34 (s34.1, s34.2 + (nI 1)) hf _ _ hH ls (lv_sub hl [1, 2, 3, 4, 0] rfl)
        · have hf := xt c7 hf
          refine lv_iload hx hb dX7_fill_73 (lv_at hl 4 rfl) ?_
          refine lv_istore_n (lv' := [(3, .int s34.2), (0, .ref h0), (1, .int p1), (2, .int p2), (4, .int s34.2)]) hx hb dX7_fill_75 rfl hl (by decide) rfl (fun ls hl => ?_)
          refine lv_iinc (v := s34.2 + (nI 1)) (lv' := [(4, .int (s34.2 + (nI 1))), (3, .int s34.2), (0, .ref h0), (1, .int p1), (2, .int p2)]) hx hb dX7_fill_76 hl (k := 4) rfl rfl (by decide) rfl (fun ls hl => ?_)
          refine lv_goto (tgt := 34) hx hb dX7_fill_79 (by decide) ?_
          have hf := xo_go hf ho34
          exact ih34 (s34.2, s34.2 + (nI 1)) hf _ _ hH ls (lv_sub hl [2, 3, 4, 1, 0] rfl)
      refine lv_iload hx hb dX7_fill_34 (lv_at hl 4 rfl) ?_
      refine lv_iconst (v := (nI 1)) hx hb dX7_fill_36 (by decide) ?_
      refine lv_iload_n hx hb dX7_fill_37 rfl (lv_at hl 1 rfl) ?_
      refine x_ishl hx hb dX7_fill_38 ?_
      refine lv_icmp_ge (tgt := 82) hx hb dX7_fill_39 (by decide) (fun c4 => ?_) (fun c4 => ?_)
      · have hf := xt c4 hf
        refine lv_iload_n hx hb dX7_fill_82 rfl (lv_at hl 3 rfl) ?_
        have hf := xo_ret hf ho34
        exact x_retiw (φ := fun _ => True) (f := fun u : Int32 × (Nat → Int32) => u.1) (wf := fun u : Int32 × (Nat → Int32) => [(h0, xO 7 [.int v_laws, .ref h1, .ref h2, .int v_inForce, .int v_depth, .int v_miss, .long v_ring, .int v_size, .int v_people, .ref g0, .int v_seed, .int v_taped, .ref g1, .int v_from, .int v_to, .int v_token, .int v_value, .ref g2, .ref g3, .ref g4, .ref h3, .int v_imaged, .ref g5, .long v_oldRing, .ref g6, .long v_aheadRing, .ref g7]), (h1, xI X 6 v_kind), (h2, xI X 6 v_own), (h3, xI X 7 u.2)]) hC hr hlk trivial hf hH rfl rfl dX7_fill_83
      · have hf := xe c4 hf
        refine lv_iload_n hx hb dX7_fill_42 rfl (lv_at hl 3 rfl) ?_
        refine lv_iconst (v := (-1 : Int32)) hx hb dX7_fill_43 (by decide) ?_
        refine lv_icmp_eq (tgt := 59) hx hb dX7_fill_44 (by decide) (fun c5 => ?_) (fun c5 => ?_)
        · have hf := xt c5 hf
          exact J59 trivial hf _ _ hH ls (lv_sub hl [0, 1, 2, 3, 4] rfl)
        · have hf := xe c5 hf
          refine lv_iload hx hb dX7_fill_47 (lv_at hl 4 rfl) ?_
          obtain ⟨u8, hf8, hf⟩ := xb hf
          refine x_ran (x_runS (rest := []) (As := [.int s34.2]) hC mw_971 md_J6_bitCount_0f7a4 (c_J6_bitCount_0f7a4 (X := X) hf8) hH [] rfl (by decide) hl.1 rfl rfl (Nat.le_of_ble_eq_true rfl) dX7_fill_49 ⟨Nat.le_of_ble_eq_true rfl, Nat.le_of_ble_eq_true rfl⟩ ⟨rfl, rfl⟩ ⟨Nat.le_refl _, Nat.le_refl _⟩) rfl (fun hz8 => ?_)
          refine lv_iload_n hx hb dX7_fill_52 rfl (lv_at hl 3 rfl) ?_
          obtain ⟨u9, hf9, hf⟩ := xb hf
          refine x_ran (x_runS (rest := [.int u8]) (As := [.int s34.1]) hC mw_971 md_J6_bitCount_0f7a4 (c_J6_bitCount_0f7a4 (X := X) hf9) hH [] rfl (by decide) hl.1 rfl rfl (Nat.le_of_ble_eq_true rfl) dX7_fill_53 ⟨Nat.le_of_ble_eq_true rfl, Nat.le_of_ble_eq_true rfl⟩ ⟨rfl, rfl⟩ ⟨Nat.le_refl _, Nat.le_refl _⟩) rfl (fun hz9 => ?_)
          refine lv_icmp_ge (tgt := 76) hx hb dX7_fill_56 (by decide) (fun c10 => ?_) (fun c10 => ?_)
          · have hf := xt c10 hf
            refine lv_iinc (v := s34.2 + (nI 1)) (lv' := [(4, .int (s34.2 + (nI 1))), (0, .ref h0), (1, .int p1), (2, .int p2), (3, .int s34.1)]) hx hb dX7_fill_76 hl (k := 4) rfl rfl (by decide) rfl (fun ls hl => ?_)
            refine lv_goto (tgt := 34) hx hb dX7_fill_79 (by decide) ?_
            have hf := xo_go hf ho34
            exact ih34 (s34.1, s34.2 + (nI 1)) hf _ _ hH ls (lv_sub hl [1, 2, 3, 4, 0] rfl)
          · have hf := xe c10 hf
            exact J59 trivial hf _ _ hH ls (lv_sub hl [0, 1, 2, 3, 4] rfl)
  refine lv_iload_n hx hb dX7_fill_0 rfl (lv_at hl 1 rfl) ?_
  refine lv_iload_n hx hb dX7_fill_1 rfl (lv_at hl 2 rfl) ?_
  obtain ⟨u1, hf1, hf⟩ := xb hf
  refine x_ran (x_runS (rest := []) (As := [.int p1, .int p2]) hC mw_964 md_X7_isPlan (c_X7_isPlan (X := X) hf1) hH [] rfl (by decide) hl.1 rfl rfl (Nat.le_of_ble_eq_true rfl) dX7_fill_2 ⟨Nat.le_of_ble_eq_true rfl, Nat.le_of_ble_eq_true rfl⟩ ⟨rfl, rfl⟩ ⟨Nat.le_refl _, Nat.le_refl _⟩) rfl (fun hz1 => ?_)
  refine lv_if_ne (tgt := 15) hx hb dX7_fill_5 (by decide) (fun c2 => ?_) (fun c2 => ?_)
  · have hf := xe c2 hf
    refine lv_aload_n hx hb dX7_fill_15 rfl (lv_at hl 0 rfl) ?_
    refine x_get hC fd_RX7_52 hH.1 0 rfl rfl dX7_fill_16 ?_
    refine lv_if_ne (tgt := 29) hx hb dX7_fill_19 (by decide) (fun c3 => ?_) (fun c3 => ?_)
    · have hf := xe c3 hf
      refine lv_iconst (v := (-1 : Int32)) hx hb dX7_fill_29 (by decide) ?_
      refine lv_istore_n (lv' := [(3, .int (-1 : Int32)), (0, .ref h0), (1, .int p1), (2, .int p2)]) hx hb dX7_fill_30 rfl hl (by decide) rfl (fun ls hl => ?_)
      refine lv_iconst (v := (nI 0)) hx hb dX7_fill_31 (by decide) ?_
      refine lv_istore (lv' := [(4, .int (nI 0)), (3, .int (-1 : Int32)), (0, .ref h0), (1, .int p1), (2, .int p2)]) hx hb dX7_fill_32 hl (by decide) rfl (fun ls hl => ?_)
      exact L34 xN ((-1 : Int32), (nI 0)) hf _ _ hH ls (lv_sub hl [2, 3, 4, 1, 0] rfl)
    · have hf := xt c3 hf
      refine lv_aload_n hx hb dX7_fill_22 rfl (lv_at hl 0 rfl) ?_
      refine lv_bipush (v := (-5 : Int32)) hx hb dX7_fill_23 (by decide) ?_
      obtain ⟨u11, hf11, hf⟩ := xb hf
      refine x_ranw (ws' := [(h0, xO 7 [.int v_laws, .ref h1, .ref h2, .int v_inForce, .int v_depth, .int v_miss, .long v_ring, .int v_size, .int v_people, .ref g0, .int v_seed, .int v_taped, .ref g1, .int v_from, .int v_to, .int v_token, .int v_value, .ref g2, .ref g3, .ref g4, .ref h3, .int v_imaged, .ref g5, .long v_oldRing, .ref g6, .long v_aheadRing, .ref g7]), (h1, xI X 6 v_kind), (h2, xI X 6 v_own), (h3, xI X 7 u11.2)]) (x_runV (q0 := 0) (rest := []) (As := [.int (-5 : Int32)]) hC mw_143 md_X7_no (c_X7_no (X := X) hf11) hH [0, 3] rfl (by decide) rfl rfl rfl hl.1 rfl rfl (Nat.le_of_ble_eq_true rfl) dX7_fill_25 ⟨Nat.le_of_ble_eq_true rfl, Nat.le_of_ble_eq_true rfl⟩ ⟨rfl, rfl⟩ ⟨Nat.le_refl _, Nat.le_refl _⟩) hH [0, 3] rfl rfl rfl rfl rfl (fun hz11 H locs hH => ?_)
      exact x_retiw (φ := fun _ => True) (f := fun u : Int32 × (Nat → Int32) => u.1) (wf := fun u : Int32 × (Nat → Int32) => [(h0, xO 7 [.int v_laws, .ref h1, .ref h2, .int v_inForce, .int v_depth, .int v_miss, .long v_ring, .int v_size, .int v_people, .ref g0, .int v_seed, .int v_taped, .ref g1, .int v_from, .int v_to, .int v_token, .int v_value, .ref g2, .ref g3, .ref g4, .ref h3, .int v_imaged, .ref g5, .long v_oldRing, .ref g6, .long v_aheadRing, .ref g7]), (h1, xI X 6 v_kind), (h2, xI X 6 v_own), (h3, xI X 7 u.2)]) hC hr hlk trivial hf hH rfl rfl dX7_fill_28
  · have hf := xt c2 hf
    refine lv_aload_n hx hb dX7_fill_8 rfl (lv_at hl 0 rfl) ?_
    refine lv_bipush (v := (-2 : Int32)) hx hb dX7_fill_9 (by decide) ?_
    obtain ⟨u12, hf12, hf⟩ := xb hf
    refine x_ranw (ws' := [(h0, xO 7 [.int v_laws, .ref h1, .ref h2, .int v_inForce, .int v_depth, .int v_miss, .long v_ring, .int v_size, .int v_people, .ref g0, .int v_seed, .int v_taped, .ref g1, .int v_from, .int v_to, .int v_token, .int v_value, .ref g2, .ref g3, .ref g4, .ref h3, .int v_imaged, .ref g5, .long v_oldRing, .ref g6, .long v_aheadRing, .ref g7]), (h1, xI X 6 v_kind), (h2, xI X 6 v_own), (h3, xI X 7 u12.2)]) (x_runV (q0 := 0) (rest := []) (As := [.int (-2 : Int32)]) hC mw_143 md_X7_no (c_X7_no (X := X) hf12) hH [0, 3] rfl (by decide) rfl rfl rfl hl.1 rfl rfl (Nat.le_of_ble_eq_true rfl) dX7_fill_11 ⟨Nat.le_of_ble_eq_true rfl, Nat.le_of_ble_eq_true rfl⟩ ⟨rfl, rfl⟩ ⟨Nat.le_refl _, Nat.le_refl _⟩) hH [0, 3] rfl rfl rfl rfl rfl (fun hz12 H locs hH => ?_)
    exact x_retiw (φ := fun _ => True) (f := fun u : Int32 × (Nat → Int32) => u.1) (wf := fun u : Int32 × (Nat → Int32) => [(h0, xO 7 [.int v_laws, .ref h1, .ref h2, .int v_inForce, .int v_depth, .int v_miss, .long v_ring, .int v_size, .int v_people, .ref g0, .int v_seed, .int v_taped, .ref g1, .int v_from, .int v_to, .int v_token, .int v_value, .ref g2, .ref g3, .ref g4, .ref h3, .int v_imaged, .ref g5, .long v_oldRing, .ref g6, .long v_aheadRing, .ref g7]), (h1, xI X 6 v_kind), (h2, xI X 6 v_own), (h3, xI X 7 u.2)]) hC hr hlk trivial hf hH rfl rfl dX7_fill_14
def f_X7_loudest_L48 (v_laws : Int32) (v_inForce : Int32) (v_depth : Int32) (v_kind : (Nat → Int32)) (v_own : (Nat → Int32)) (v_refusals : (Nat → Int32)) (p1 : Int32) (p2 : Int32) (s48 : Int32 × Int32 × Int32) : Option ((Int32 × (Nat → Int32)) ⊕ (Int32 × Int32 × Int32)) :=
  if (xshl (nI 1) p1) ≤ s48.2.2 then
    some (.inl (s48.1, v_refusals))
  else
  (f_J6_bitCount_0f7a4 s48.2.2).bind fun u8 =>
  if u8 = p2 then
    (f_X7_many v_laws v_inForce v_depth v_kind v_own (Int32.toInt64 s48.2.2) p1 (nI 0)).bind fun u10 =>
    if s48.2.1 < u10 then
      some (.inr (s48.2.2, u10, s48.2.2 + (nI 1)))
    else
    some (.inr (s48.1, s48.2.1, s48.2.2 + (nI 1)))
  else
  some (.inr (s48.1, s48.2.1, s48.2.2 + (nI 1)))
def f_X7_loudest (v_laws : Int32) (v_inForce : Int32) (v_depth : Int32) (v_kind : (Nat → Int32)) (v_own : (Nat → Int32)) (v_refusals : (Nat → Int32)) (p1 : Int32) (p2 : Int32) : Option (Int32 × (Nat → Int32)) :=
  (f_X7_within p1 (nI 1) (nI 12)).bind fun u1 =>
  if u1 = (nI 0) then
    (f_X7_no v_refusals (-2 : Int32)).bind fun u3 =>
    some (u3.1, u3.2)
  else
  (f_X7_within p2 (nI 0) p1).bind fun u4 =>
  if u4 = (nI 0) then
    (f_X7_no v_refusals (-2 : Int32)).bind fun u13 =>
    some (u13.1, u13.2)
  else
  if v_laws = (nI 0) then
    (f_X7_no v_refusals (-5 : Int32)).bind fun u12 =>
    some (u12.1, u12.2)
  else
  xloop (f_X7_loudest_L48 v_laws v_inForce v_depth v_kind v_own v_refusals p1 p2) xN ((-1 : Int32), (-1 : Int32), (nI 0))
set_option maxHeartbeats 4000000 in
set_option maxRecDepth 100000 in
theorem c_X7_loudest {l : Launch} {X : xG} {h0 h1 h2 h3 g0 g1 g2 g3 g4 g5 g6 g7 : Nat} {v_laws : Int32} {v_inForce : Int32} {v_depth : Int32} {v_miss : Int32} {v_ring : Int64} {v_size : Int32} {v_people : Int32} {v_seed : Int32} {v_taped : Int32} {v_from : Int32} {v_to : Int32} {v_token : Int32} {v_value : Int32} {v_imaged : Int32} {v_oldRing : Int64} {v_aheadRing : Int64} {v_kind : (Nat → Int32)} {v_own : (Nat → Int32)} {v_refusals : (Nat → Int32)} {p1 : Int32} {p2 : Int32} {u : Int32 × (Nat → Int32)} (hf : f_X7_loudest v_laws v_inForce v_depth v_kind v_own v_refusals p1 p2 = some u) : Met l yX7_loudest (xw yX7_loudest cX7_loudest 7 (some .int)) (xrm 7 171) (xPc [.ref h0, .int p1, .int p2] X [(h0, xO 7 [.int v_laws, .ref h1, .ref h2, .int v_inForce, .int v_depth, .int v_miss, .long v_ring, .int v_size, .int v_people, .ref g0, .int v_seed, .int v_taped, .ref g1, .int v_from, .int v_to, .int v_token, .int v_value, .ref g2, .ref g3, .ref g4, .ref h3, .int v_imaged, .ref g5, .long v_oldRing, .ref g6, .long v_aheadRing, .ref g7]), (h1, xI X 6 v_kind), (h2, xI X 6 v_own), (h3, xI X 7 v_refusals)]) (xQw True (.returned (some (.int u.1))) X [(h0, xO 7 [.int v_laws, .ref h1, .ref h2, .int v_inForce, .int v_depth, .int v_miss, .long v_ring, .int v_size, .int v_people, .ref g0, .int v_seed, .int v_taped, .ref g1, .int v_from, .int v_to, .int v_token, .int v_value, .ref g2, .ref g3, .ref g4, .ref h3, .int v_imaged, .ref g5, .long v_oldRing, .ref g6, .long v_aheadRing, .ref g7]), (h1, xI X 6 v_kind), (h2, xI X 6 v_own), (h3, xI X 7 u.2)] (xAs [(h0, xO 7 [.int v_laws, .ref h1, .ref h2, .int v_inForce, .int v_depth, .int v_miss, .long v_ring, .int v_size, .int v_people, .ref g0, .int v_seed, .int v_taped, .ref g1, .int v_from, .int v_to, .int v_token, .int v_value, .ref g2, .ref g3, .ref g4, .ref h3, .int v_imaged, .ref g5, .long v_oldRing, .ref g6, .long v_aheadRing, .ref g7]), (h1, xI X 6 v_kind), (h2, xI X 6 v_own), (h3, xI X 7 v_refusals)])) 0 0 (xAs [(h0, xO 7 [.int v_laws, .ref h1, .ref h2, .int v_inForce, .int v_depth, .int v_miss, .long v_ring, .int v_size, .int v_people, .ref g0, .int v_seed, .int v_taped, .ref g1, .int v_from, .int v_to, .int v_token, .int v_value, .ref g2, .ref g3, .ref g4, .ref h3, .int v_imaged, .ref g5, .long v_oldRing, .ref g6, .long v_aheadRing, .ref g7]), (h1, xI X 6 v_kind), (h2, xI X 6 v_own), (h3, xI X 7 v_refusals)]) := by
  refine xMetw (Qc := fun A => xQw True (.returned (some (.int u.1))) X [(h0, xO 7 [.int v_laws, .ref h1, .ref h2, .int v_inForce, .int v_depth, .int v_miss, .long v_ring, .int v_size, .int v_people, .ref g0, .int v_seed, .int v_taped, .ref g1, .int v_from, .int v_to, .int v_token, .int v_value, .ref g2, .ref g3, .ref g4, .ref h3, .int v_imaged, .ref g5, .long v_oldRing, .ref g6, .long v_aheadRing, .ref g7]), (h1, xI X 6 v_kind), (h2, xI X 6 v_own), (h3, xI X 7 u.2)] A) (n := 2) md_X7_loudest.1 (Nat.le_of_ble_eq_true rfl) ?_
  intro p e s m args below meth c ls A hC hr hlk hH hl
  have hl : lv_has ls 7 [(0, .ref h0), (1, .int p1), (2, .int p2)] := hl
  have hx := hC.1
  have hb := hC.2.1
  have L48 : ∀ (n : Nat) (s48 : Int32 × Int32 × Int32), xloop (f_X7_loudest_L48 v_laws v_inForce v_depth v_kind v_own v_refusals p1 p2) n s48 = some u → ∀ (H : Heap) (locs : List Loc), xH X A [(h0, xO 7 [.int v_laws, .ref h1, .ref h2, .int v_inForce, .int v_depth, .int v_miss, .long v_ring, .int v_size, .int v_people, .ref g0, .int v_seed, .int v_taped, .ref g1, .int v_from, .int v_to, .int v_token, .int v_value, .ref g2, .ref g3, .ref g4, .ref h3, .int v_imaged, .ref g5, .long v_oldRing, .ref g6, .long v_aheadRing, .ref g7]), (h1, xI X 6 v_kind), (h2, xI X 6 v_own), (h3, xI X 7 v_refusals)] s.heap H locs → ∀ (ls : Array Slot), lv_has ls 7 [(0, .ref h0), (1, .int p1), (2, .int p2), (3, .int s48.1), (4, .int s48.2.1), (5, .int s48.2.2)] → W p l e (xrm 7 171) s m args below meth c H locs 0 0 (MQ below (xQw True (.returned (some (.int u.1))) X [(h0, xO 7 [.int v_laws, .ref h1, .ref h2, .int v_inForce, .int v_depth, .int v_miss, .long v_ring, .int v_size, .int v_people, .ref g0, .int v_seed, .int v_taped, .ref g1, .int v_from, .int v_to, .int v_token, .int v_value, .ref g2, .ref g3, .ref g4, .ref h3, .int v_imaged, .ref g5, .long v_oldRing, .ref g6, .long v_aheadRing, .ref g7]), (h1, xI X 6 v_kind), (h2, xI X 6 v_own), (h3, xI X 7 u.2)] A) args s 0 0 A) (F0 m 48 ls []) := by
    intro  n
    induction n with
    | zero => intro s48 hf; exact xloop_0 hf
    | succ n ih48 =>
      intro s48 hf H locs hH ls hl
      obtain ⟨o48, hf, ho48⟩ := xloop_s hf
      refine lv_iload hx hb dX7_loudest_48 (lv_at hl 5 rfl) ?_
      refine lv_iconst (v := (nI 1)) hx hb dX7_loudest_50 (by decide) ?_
      refine lv_iload_n hx hb dX7_loudest_51 rfl (lv_at hl 1 rfl) ?_
      refine x_ishl hx hb dX7_loudest_52 ?_
      refine lv_icmp_ge (tgt := 102) hx hb dX7_loudest_53 (by decide) (fun c7 => ?_) (fun c7 => ?_)
      · have hf := xt c7 hf
        refine lv_iload_n hx hb dX7_loudest_102 rfl (lv_at hl 3 rfl) ?_
        have hf := xo_ret hf ho48
        exact x_retiw (φ := fun _ => True) (f := fun u : Int32 × (Nat → Int32) => u.1) (wf := fun u : Int32 × (Nat → Int32) => [(h0, xO 7 [.int v_laws, .ref h1, .ref h2, .int v_inForce, .int v_depth, .int v_miss, .long v_ring, .int v_size, .int v_people, .ref g0, .int v_seed, .int v_taped, .ref g1, .int v_from, .int v_to, .int v_token, .int v_value, .ref g2, .ref g3, .ref g4, .ref h3, .int v_imaged, .ref g5, .long v_oldRing, .ref g6, .long v_aheadRing, .ref g7]), (h1, xI X 6 v_kind), (h2, xI X 6 v_own), (h3, xI X 7 u.2)]) hC hr hlk trivial hf hH rfl rfl dX7_loudest_103
      · have hf := xe c7 hf
        refine lv_iload hx hb dX7_loudest_56 (lv_at hl 5 rfl) ?_
        obtain ⟨u8, hf8, hf⟩ := xb hf
        refine x_ran (x_runS (rest := []) (As := [.int s48.2.2]) hC mw_971 md_J6_bitCount_0f7a4 (c_J6_bitCount_0f7a4 (X := X) hf8) hH [] rfl (by decide) hl.1 rfl rfl (Nat.le_of_ble_eq_true rfl) dX7_loudest_58 ⟨Nat.le_of_ble_eq_true rfl, Nat.le_of_ble_eq_true rfl⟩ ⟨rfl, rfl⟩ ⟨Nat.le_refl _, Nat.le_refl _⟩) rfl (fun hz8 => ?_)
        refine lv_iload_n hx hb dX7_loudest_61 rfl (lv_at hl 2 rfl) ?_
        refine lv_icmp_eq (tgt := 68) hx hb dX7_loudest_62 (by decide) (fun c9 => ?_) (fun c9 => ?_)
        · have hf := xt c9 hf
          refine lv_aload_n hx hb dX7_loudest_68 rfl (lv_at hl 0 rfl) ?_
          refine lv_iload hx hb dX7_loudest_69 (lv_at hl 5 rfl) ?_
          refine lv_i2l hx hb dX7_loudest_71 rfl ?_
          refine lv_iload_n hx hb dX7_loudest_72 rfl (lv_at hl 1 rfl) ?_
          refine lv_iconst (v := (nI 0)) hx hb dX7_loudest_73 (by decide) ?_
          obtain ⟨u10, hf10, hf⟩ := xb hf
          refine x_ran (x_runV (q0 := 0) (rest := []) (As := [.long (Int32.toInt64 s48.2.2), .int p1, .int (nI 0)]) hC mw_749 md_X7_many (c_X7_many (X := X) hf10) hH [0, 1, 2] rfl (by decide) rfl rfl rfl hl.1 rfl rfl (Nat.le_of_ble_eq_true rfl) dX7_loudest_74 ⟨Nat.le_of_ble_eq_true rfl, Nat.le_of_ble_eq_true rfl⟩ ⟨rfl, rfl⟩ ⟨Nat.le_refl _, Nat.le_refl _⟩) rfl (fun hz10 => ?_)
          refine lv_istore (lv' := [(6, .int u10), (0, .ref h0), (1, .int p1), (2, .int p2), (3, .int s48.1), (4, .int s48.2.1), (5, .int s48.2.2)]) hx hb dX7_loudest_77 hl (by decide) rfl (fun ls hl => ?_)
          refine lv_iload hx hb dX7_loudest_79 (lv_at hl 0 rfl) ?_
          refine lv_iload hx hb dX7_loudest_81 (lv_at hl 5 rfl) ?_
          refine lv_icmp_gt (tgt := 89) hx hb dX7_loudest_83 (by decide) (fun c11 => ?_) (fun c11 => ?_)
          · have hf := xt c11 hf
            refine lv_iload hx hb dX7_loudest_89 (lv_at hl 0 rfl) ?_
            refine lv_istore (lv' := [(4, .int u10), (6, .int u10), (0, .ref h0), (1, .int p1), (2, .int p2), (3, .int s48.1), (5, .int s48.2.2)]) hx hb dX7_loudest_91 hl (by decide) rfl (fun ls hl => ?_)
            refine lv_iload hx hb dX7_loudest_93 (lv_at hl 6 rfl) ?_
            refine lv_istore_n (lv' := [(3, .int s48.2.2), (4, .int u10), (6, .int u10), (0, .ref h0), (1, .int p1), (2, .int p2), (5, .int s48.2.2)]) hx hb dX7_loudest_95 rfl hl (by decide) rfl (fun ls hl => ?_)
            refine lv_iinc (v := s48.2.2 + (nI 1)) (lv' := [(5, .int (s48.2.2 + (nI 1))), (3, .int s48.2.2), (4, .int u10), (6, .int u10), (0, .ref h0), (1, .int p1), (2, .int p2)]) hx hb dX7_loudest_96 hl (k := 6) rfl rfl (by decide) rfl (fun ls hl => ?_)
            refine lv_goto (tgt := 48) hx hb dX7_loudest_99 (by decide) ?_
            have hf := xo_go hf ho48
            exact ih48 (s48.2.2, u10, s48.2.2 + (nI 1)) hf _ _ hH ls (lv_sub hl [4, 5, 6, 1, 2, 0] rfl)
          · have hf := xe c11 hf
            refine lv_goto (tgt := 96) hx hb dX7_loudest_86 (by decide) ?_
            refine lv_iinc (v := s48.2.2 + (nI 1)) (lv' := [(5, .int (s48.2.2 + (nI 1))), (6, .int u10), (0, .ref h0), (1, .int p1), (2, .int p2), (3, .int s48.1), (4, .int s48.2.1)]) hx hb dX7_loudest_96 hl (k := 6) rfl rfl (by decide) rfl (fun ls hl => ?_)
            refine lv_goto (tgt := 48) hx hb dX7_loudest_99 (by decide) ?_
            have hf := xo_go hf ho48
            exact ih48 (s48.1, s48.2.1, s48.2.2 + (nI 1)) hf _ _ hH ls (lv_sub hl [2, 3, 4, 5, 6, 0] rfl)
        · have hf := xe c9 hf
          refine lv_goto (tgt := 96) hx hb dX7_loudest_65 (by decide) ?_
          refine lv_iinc (v := s48.2.2 + (nI 1)) (lv' := [(5, .int (s48.2.2 + (nI 1))), (0, .ref h0), (1, .int p1), (2, .int p2), (3, .int s48.1), (4, .int s48.2.1)]) hx hb dX7_loudest_96 hl (k := 5) rfl rfl (by decide) rfl (fun ls hl => ?_)
          refine lv_goto (tgt := 48) hx hb dX7_loudest_99 (by decide) ?_
          have hf := xo_go hf ho48
          exact ih48 (s48.1, s48.2.1, s48.2.2 + (nI 1)) hf _ _ hH ls (lv_sub hl [1, 2, 3, 4, 5, 0] rfl)
  refine lv_iload_n hx hb dX7_loudest_0 rfl (lv_at hl 1 rfl) ?_
  refine lv_iconst (v := (nI 1)) hx hb dX7_loudest_1 (by decide) ?_
  refine lv_bipush (v := (nI 12)) hx hb dX7_loudest_2 (by decide) ?_
  obtain ⟨u1, hf1, hf⟩ := xb hf
  refine x_ran (x_runS (rest := []) (As := [.int p1, .int (nI 1), .int (nI 12)]) hC mw_140 md_X7_within (c_X7_within (X := X) hf1) hH [] rfl (by decide) hl.1 rfl rfl (Nat.le_of_ble_eq_true rfl) dX7_loudest_4 ⟨Nat.le_of_ble_eq_true rfl, Nat.le_of_ble_eq_true rfl⟩ ⟨rfl, rfl⟩ ⟨Nat.le_refl _, Nat.le_refl _⟩) rfl (fun hz1 => ?_)
  refine lv_if_eq (tgt := 19) hx hb dX7_loudest_7 (by decide) (fun c2 => ?_) (fun c2 => ?_)
  · have hf := xt c2 hf
    refine lv_aload_n hx hb dX7_loudest_19 rfl (lv_at hl 0 rfl) ?_
    refine lv_bipush (v := (-2 : Int32)) hx hb dX7_loudest_20 (by decide) ?_
    obtain ⟨u3, hf3, hf⟩ := xb hf
    refine x_ranw (ws' := [(h0, xO 7 [.int v_laws, .ref h1, .ref h2, .int v_inForce, .int v_depth, .int v_miss, .long v_ring, .int v_size, .int v_people, .ref g0, .int v_seed, .int v_taped, .ref g1, .int v_from, .int v_to, .int v_token, .int v_value, .ref g2, .ref g3, .ref g4, .ref h3, .int v_imaged, .ref g5, .long v_oldRing, .ref g6, .long v_aheadRing, .ref g7]), (h1, xI X 6 v_kind), (h2, xI X 6 v_own), (h3, xI X 7 u3.2)]) (x_runV (q0 := 0) (rest := []) (As := [.int (-2 : Int32)]) hC mw_143 md_X7_no (c_X7_no (X := X) hf3) hH [0, 3] rfl (by decide) rfl rfl rfl hl.1 rfl rfl (Nat.le_of_ble_eq_true rfl) dX7_loudest_22 ⟨Nat.le_of_ble_eq_true rfl, Nat.le_of_ble_eq_true rfl⟩ ⟨rfl, rfl⟩ ⟨Nat.le_refl _, Nat.le_refl _⟩) hH [0, 3] rfl rfl rfl rfl rfl (fun hz3 H locs hH => ?_)
    exact x_retiw (φ := fun _ => True) (f := fun u : Int32 × (Nat → Int32) => u.1) (wf := fun u : Int32 × (Nat → Int32) => [(h0, xO 7 [.int v_laws, .ref h1, .ref h2, .int v_inForce, .int v_depth, .int v_miss, .long v_ring, .int v_size, .int v_people, .ref g0, .int v_seed, .int v_taped, .ref g1, .int v_from, .int v_to, .int v_token, .int v_value, .ref g2, .ref g3, .ref g4, .ref h3, .int v_imaged, .ref g5, .long v_oldRing, .ref g6, .long v_aheadRing, .ref g7]), (h1, xI X 6 v_kind), (h2, xI X 6 v_own), (h3, xI X 7 u.2)]) hC hr hlk trivial hf hH rfl rfl dX7_loudest_25
  · have hf := xe c2 hf
    refine lv_iload_n hx hb dX7_loudest_10 rfl (lv_at hl 2 rfl) ?_
    refine lv_iconst (v := (nI 0)) hx hb dX7_loudest_11 (by decide) ?_
    refine lv_iload_n hx hb dX7_loudest_12 rfl (lv_at hl 1 rfl) ?_
    obtain ⟨u4, hf4, hf⟩ := xb hf
    refine x_ran (x_runS (rest := []) (As := [.int p2, .int (nI 0), .int p1]) hC mw_140 md_X7_within (c_X7_within (X := X) hf4) hH [] rfl (by decide) hl.1 rfl rfl (Nat.le_of_ble_eq_true rfl) dX7_loudest_13 ⟨Nat.le_of_ble_eq_true rfl, Nat.le_of_ble_eq_true rfl⟩ ⟨rfl, rfl⟩ ⟨Nat.le_refl _, Nat.le_refl _⟩) rfl (fun hz4 => ?_)
    refine lv_if_ne (tgt := 26) hx hb dX7_loudest_16 (by decide) (fun c5 => ?_) (fun c5 => ?_)
    · have hf := xe c5 hf
      refine lv_aload_n hx hb dX7_loudest_26 rfl (lv_at hl 0 rfl) ?_
      refine x_get hC fd_RX7_52 hH.1 0 rfl rfl dX7_loudest_27 ?_
      refine lv_if_ne (tgt := 40) hx hb dX7_loudest_30 (by decide) (fun c6 => ?_) (fun c6 => ?_)
      · have hf := xe c6 hf
        refine lv_iconst (v := (-1 : Int32)) hx hb dX7_loudest_40 (by decide) ?_
        refine lv_istore_n (lv' := [(3, .int (-1 : Int32)), (0, .ref h0), (1, .int p1), (2, .int p2)]) hx hb dX7_loudest_41 rfl hl (by decide) rfl (fun ls hl => ?_)
        refine lv_iconst (v := (-1 : Int32)) hx hb dX7_loudest_42 (by decide) ?_
        refine lv_istore (lv' := [(4, .int (-1 : Int32)), (3, .int (-1 : Int32)), (0, .ref h0), (1, .int p1), (2, .int p2)]) hx hb dX7_loudest_43 hl (by decide) rfl (fun ls hl => ?_)
        refine lv_iconst (v := (nI 0)) hx hb dX7_loudest_45 (by decide) ?_
        refine lv_istore (lv' := [(5, .int (nI 0)), (4, .int (-1 : Int32)), (3, .int (-1 : Int32)), (0, .ref h0), (1, .int p1), (2, .int p2)]) hx hb dX7_loudest_46 hl (by decide) rfl (fun ls hl => ?_)
        exact L48 xN ((-1 : Int32), (-1 : Int32), (nI 0)) hf _ _ hH ls (lv_sub hl [3, 4, 5, 2, 1, 0] rfl)
      · have hf := xt c6 hf
        refine lv_aload_n hx hb dX7_loudest_33 rfl (lv_at hl 0 rfl) ?_
        refine lv_bipush (v := (-5 : Int32)) hx hb dX7_loudest_34 (by decide) ?_
        obtain ⟨u12, hf12, hf⟩ := xb hf
        refine x_ranw (ws' := [(h0, xO 7 [.int v_laws, .ref h1, .ref h2, .int v_inForce, .int v_depth, .int v_miss, .long v_ring, .int v_size, .int v_people, .ref g0, .int v_seed, .int v_taped, .ref g1, .int v_from, .int v_to, .int v_token, .int v_value, .ref g2, .ref g3, .ref g4, .ref h3, .int v_imaged, .ref g5, .long v_oldRing, .ref g6, .long v_aheadRing, .ref g7]), (h1, xI X 6 v_kind), (h2, xI X 6 v_own), (h3, xI X 7 u12.2)]) (x_runV (q0 := 0) (rest := []) (As := [.int (-5 : Int32)]) hC mw_143 md_X7_no (c_X7_no (X := X) hf12) hH [0, 3] rfl (by decide) rfl rfl rfl hl.1 rfl rfl (Nat.le_of_ble_eq_true rfl) dX7_loudest_36 ⟨Nat.le_of_ble_eq_true rfl, Nat.le_of_ble_eq_true rfl⟩ ⟨rfl, rfl⟩ ⟨Nat.le_refl _, Nat.le_refl _⟩) hH [0, 3] rfl rfl rfl rfl rfl (fun hz12 H locs hH => ?_)
        exact x_retiw (φ := fun _ => True) (f := fun u : Int32 × (Nat → Int32) => u.1) (wf := fun u : Int32 × (Nat → Int32) => [(h0, xO 7 [.int v_laws, .ref h1, .ref h2, .int v_inForce, .int v_depth, .int v_miss, .long v_ring, .int v_size, .int v_people, .ref g0, .int v_seed, .int v_taped, .ref g1, .int v_from, .int v_to, .int v_token, .int v_value, .ref g2, .ref g3, .ref g4, .ref h3, .int v_imaged, .ref g5, .long v_oldRing, .ref g6, .long v_aheadRing, .ref g7]), (h1, xI X 6 v_kind), (h2, xI X 6 v_own), (h3, xI X 7 u.2)]) hC hr hlk trivial hf hH rfl rfl dX7_loudest_39
    · have hf := xt c5 hf
      refine lv_aload_n hx hb dX7_loudest_19 rfl (lv_at hl 0 rfl) ?_
      refine lv_bipush (v := (-2 : Int32)) hx hb dX7_loudest_20 (by decide) ?_
      obtain ⟨u13, hf13, hf⟩ := xb hf
      refine x_ranw (ws' := [(h0, xO 7 [.int v_laws, .ref h1, .ref h2, .int v_inForce, .int v_depth, .int v_miss, .long v_ring, .int v_size, .int v_people, .ref g0, .int v_seed, .int v_taped, .ref g1, .int v_from, .int v_to, .int v_token, .int v_value, .ref g2, .ref g3, .ref g4, .ref h3, .int v_imaged, .ref g5, .long v_oldRing, .ref g6, .long v_aheadRing, .ref g7]), (h1, xI X 6 v_kind), (h2, xI X 6 v_own), (h3, xI X 7 u13.2)]) (x_runV (q0 := 0) (rest := []) (As := [.int (-2 : Int32)]) hC mw_143 md_X7_no (c_X7_no (X := X) hf13) hH [0, 3] rfl (by decide) rfl rfl rfl hl.1 rfl rfl (Nat.le_of_ble_eq_true rfl) dX7_loudest_22 ⟨Nat.le_of_ble_eq_true rfl, Nat.le_of_ble_eq_true rfl⟩ ⟨rfl, rfl⟩ ⟨Nat.le_refl _, Nat.le_refl _⟩) hH [0, 3] rfl rfl rfl rfl rfl (fun hz13 H locs hH => ?_)
      exact x_retiw (φ := fun _ => True) (f := fun u : Int32 × (Nat → Int32) => u.1) (wf := fun u : Int32 × (Nat → Int32) => [(h0, xO 7 [.int v_laws, .ref h1, .ref h2, .int v_inForce, .int v_depth, .int v_miss, .long v_ring, .int v_size, .int v_people, .ref g0, .int v_seed, .int v_taped, .ref g1, .int v_from, .int v_to, .int v_token, .int v_value, .ref g2, .ref g3, .ref g4, .ref h3, .int v_imaged, .ref g5, .long v_oldRing, .ref g6, .long v_aheadRing, .ref g7]), (h1, xI X 6 v_kind), (h2, xI X 6 v_own), (h3, xI X 7 u.2)]) hC hr hlk trivial hf hH rfl rfl dX7_loudest_25
def f_X7_noHeard (v_size : Int32) (v_holding : (Nat → Int32)) (v_rowLength : (Nat → Int32)) (p1 : Int32) : Option (Int32) :=
  (f_X7_isShelf p1).bind fun u1 =>
  if u1 = (nI 0) then
    some (-2 : Int32)
  else
  (f_X7_isRow v_holding p1).bind fun u3 =>
  if u3 = (nI 0) then
    (f_X7_noRow v_holding p1).bind fun u7 =>
    some u7
  else
  if xout p1 8 then none else
  if v_size ≤ (v_rowLength (xat p1)) then
    some (nI 0)
  else
  some (-2 : Int32)
set_option maxHeartbeats 4000000 in
set_option maxRecDepth 100000 in
theorem c_X7_noHeard {l : Launch} {X : xG} {h0 h1 h2 g0 g1 g2 g3 g4 g5 g6 g7 g8 : Nat} {v_laws : Int32} {v_inForce : Int32} {v_depth : Int32} {v_miss : Int32} {v_ring : Int64} {v_size : Int32} {v_people : Int32} {v_seed : Int32} {v_taped : Int32} {v_from : Int32} {v_to : Int32} {v_token : Int32} {v_value : Int32} {v_imaged : Int32} {v_oldRing : Int64} {v_aheadRing : Int64} {v_holding : (Nat → Int32)} {v_rowLength : (Nat → Int32)} {p1 : Int32} {u : Int32} (hf : f_X7_noHeard v_size v_holding v_rowLength p1 = some u) : Met l yX7_noHeard (xw yX7_noHeard cX7_noHeard 2 (some .int)) (xrm 2 43) (xPc [.ref h0, .int p1] X [(h0, xO 7 [.int v_laws, .ref g0, .ref g1, .int v_inForce, .int v_depth, .int v_miss, .long v_ring, .int v_size, .int v_people, .ref g2, .int v_seed, .int v_taped, .ref g3, .int v_from, .int v_to, .int v_token, .int v_value, .ref h1, .ref h2, .ref g4, .ref g5, .int v_imaged, .ref g6, .long v_oldRing, .ref g7, .long v_aheadRing, .ref g8]), (h1, xI X 8 v_holding), (h2, xI X 8 v_rowLength)]) (xQ True (.returned (some (.int u)))) 0 0 xNo := by
  refine xMet (n := 1) md_X7_noHeard.1 (Nat.le_of_ble_eq_true rfl) ?_
  intro p e s m args below meth c ls A hC hr hlk hH hl
  have hl : lv_has ls 2 [(0, .ref h0), (1, .int p1)] := hl
  have hx := hC.1
  have hb := hC.2.1
  refine lv_iload_n hx hb dX7_noHeard_0 rfl (lv_at hl 1 rfl) ?_
  obtain ⟨u1, hf1, hf⟩ := xb hf
  refine x_ran (x_runS (rest := []) (As := [.int p1]) hC mw_137 md_X7_isShelf (c_X7_isShelf (X := X) hf1) hH [] rfl (by decide) hl.1 rfl rfl (Nat.le_of_ble_eq_true rfl) dX7_noHeard_1 ⟨Nat.le_of_ble_eq_true rfl, Nat.le_of_ble_eq_true rfl⟩ ⟨rfl, rfl⟩ ⟨Nat.le_refl _, Nat.le_refl _⟩) rfl (fun hz1 => ?_)
  refine lv_if_ne (tgt := 10) hx hb dX7_noHeard_4 (by decide) (fun c2 => ?_) (fun c2 => ?_)
  · have hf := xe c2 hf
    refine lv_aload_n hx hb dX7_noHeard_10 rfl (lv_at hl 0 rfl) ?_
    refine lv_iload_n hx hb dX7_noHeard_11 rfl (lv_at hl 1 rfl) ?_
    obtain ⟨u3, hf3, hf⟩ := xb hf
    refine x_ran (x_runV (q0 := 0) (rest := []) (As := [.int p1]) hC mw_169 md_X7_isRow (c_X7_isRow (X := X) hf3) hH [0, 1] rfl (by decide) rfl rfl rfl hl.1 rfl rfl (Nat.le_of_ble_eq_true rfl) dX7_noHeard_12 ⟨Nat.le_of_ble_eq_true rfl, Nat.le_of_ble_eq_true rfl⟩ ⟨rfl, rfl⟩ ⟨Nat.le_refl _, Nat.le_refl _⟩) rfl (fun hz3 => ?_)
    refine lv_if_ne (tgt := 26) hx hb dX7_noHeard_15 (by decide) (fun c4 => ?_) (fun c4 => ?_)
    · have hf := xe c4 hf
      refine lv_aload_n hx hb dX7_noHeard_26 rfl (lv_at hl 0 rfl) ?_
      refine x_get hC fd_RX7_25 hH.1 0 rfl rfl dX7_noHeard_27 ?_
      refine lv_iload_n hx hb dX7_noHeard_30 rfl (lv_at hl 1 rfl) ?_
      obtain ⟨n5, hf⟩ := xok hf
      refine x_iald hC hH.1 2 rfl n5 dX7_noHeard_31 ?_
      refine lv_aload_n hx hb dX7_noHeard_32 rfl (lv_at hl 0 rfl) ?_
      refine x_get hC fd_RX7_62 hH.1 0 rfl rfl dX7_noHeard_33 ?_
      refine lv_icmp_ge (tgt := 44) hx hb dX7_noHeard_36 (by decide) (fun c6 => ?_) (fun c6 => ?_)
      · have hf := xt c6 hf
        refine lv_iconst (v := (nI 0)) hx hb dX7_noHeard_44 (by decide) ?_
        exact x_reti hC hr hlk trivial hf dX7_noHeard_45
      · have hf := xe c6 hf
        refine lv_bipush (v := (-2 : Int32)) hx hb dX7_noHeard_39 (by decide) ?_
        refine lv_goto (tgt := 45) hx hb dX7_noHeard_41 (by decide) ?_
        exact x_reti hC hr hlk trivial hf dX7_noHeard_45
    · have hf := xt c4 hf
      refine lv_aload_n hx hb dX7_noHeard_18 rfl (lv_at hl 0 rfl) ?_
      refine lv_iload_n hx hb dX7_noHeard_19 rfl (lv_at hl 1 rfl) ?_
      obtain ⟨u7, hf7, hf⟩ := xb hf
      refine x_ran (x_runV (q0 := 0) (rest := []) (As := [.int p1]) hC mw_173 md_X7_noRow (c_X7_noRow (X := X) hf7) hH [0, 1] rfl (by decide) rfl rfl rfl hl.1 rfl rfl (Nat.le_of_ble_eq_true rfl) dX7_noHeard_20 ⟨Nat.le_of_ble_eq_true rfl, Nat.le_of_ble_eq_true rfl⟩ ⟨rfl, rfl⟩ ⟨Nat.le_refl _, Nat.le_refl _⟩) rfl (fun hz7 => ?_)
      refine lv_goto (tgt := 45) hx hb dX7_noHeard_23 (by decide) ?_
      exact x_reti hC hr hlk trivial hf dX7_noHeard_45
  · have hf := xt c2 hf
    refine lv_bipush (v := (-2 : Int32)) hx hb dX7_noHeard_7 (by decide) ?_
    exact x_reti hC hr hlk trivial hf dX7_noHeard_9
