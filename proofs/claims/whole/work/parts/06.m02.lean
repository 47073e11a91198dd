def f_X5_tokenBegunBy_J28 (p0 : Int32) : Option (Int32) :=
  if p0 = (nI 59) then
    some (nI 3)
  else
  if p0 = (-1 : Int32) then
    some (nI 0)
  else
  some (nI 4)
def f_X5_tokenBegunBy_J14 (p0 : Int32) : Option (Int32) :=
  if p0 < (nI 48) then
    f_X5_tokenBegunBy_J28 p0
  else
  if (nI 57) < p0 then
    f_X5_tokenBegunBy_J28 p0
  else
  some (nI 2)
def f_X5_tokenBegunBy (p0 : Int32) : Option (Int32) :=
  if p0 < (nI 97) then
    f_X5_tokenBegunBy_J14 p0
  else
  if (nI 122) < p0 then
    f_X5_tokenBegunBy_J14 p0
  else
  some (nI 1)
set_option maxHeartbeats 4000000 in
set_option maxRecDepth 100000 in
theorem c_X5_tokenBegunBy {l : Launch} {X : xG} {p0 : Int32} {u : Int32} (hf : f_X5_tokenBegunBy p0 = some u) : Met l yX5_tokenBegunBy (xw yX5_tokenBegunBy cX5_tokenBegunBy 1 (some .int)) (xrm 0 0) (xPc [.int p0] X []) (xQ True (.returned (some (.int u)))) 0 0 xNo := by
  refine xMet (n := 1) md_X5_tokenBegunBy.1 (Nat.le_of_ble_eq_true rfl) ?_
  intro p e s m args below meth c ls A hC hr hlk hH hl
  have hl : lv_has ls 1 [(0, .int p0)] := hl
  have hx := hC.1
  have hb := hC.2.1
  have J28 : ∀ (_ : True), f_X5_tokenBegunBy_J28 p0 = some u → ∀ (ls : Array Slot), lv_has ls 1 [(0, .int p0)] → W p l e (xrm 0 0) s m args below meth c s.heap [] 0 0 (MQ below (xQ True (.returned (some (.int u)))) args s 0 0 xNo) (F0 m 28 ls []) := by
    intro _ hf ls hl
    refine lv_iload_n hx hb dX5_tokenBegunBy_28 rfl (lv_at hl 0 rfl) ?_
    refine lv_bipush (v := (nI 59)) hx hb dX5_tokenBegunBy_29 (by decide) ?_
    refine lv_icmp_ne (tgt := 36) hx hb dX5_tokenBegunBy_31 (by decide) (fun c3 => ?_) (fun c3 => ?_)
    · have hf := xe c3 hf
      refine lv_iload_n hx hb dX5_tokenBegunBy_36 rfl (lv_at hl 0 rfl) ?_
      refine lv_iconst (v := (-1 : Int32)) hx hb dX5_tokenBegunBy_37 (by decide) ?_
      refine lv_icmp_ne (tgt := 45) hx hb dX5_tokenBegunBy_38 (by decide) (fun c4 => ?_) (fun c4 => ?_)
      · have hf := xe c4 hf
        refine lv_iconst (v := (nI 4)) hx hb dX5_tokenBegunBy_45 (by decide) ?_
        exact x_reti hC hr hlk trivial hf dX5_tokenBegunBy_46
      · have hf := xt c4 hf
        refine lv_iconst (v := (nI 0)) hx hb dX5_tokenBegunBy_41 (by decide) ?_
        refine lv_goto (tgt := 46) hx hb dX5_tokenBegunBy_42 (by decide) ?_
        exact x_reti hC hr hlk trivial hf dX5_tokenBegunBy_46
    · have hf := xt c3 hf
      refine lv_iconst (v := (nI 3)) hx hb dX5_tokenBegunBy_34 (by decide) ?_
      exact x_reti hC hr hlk trivial hf dX5_tokenBegunBy_35
  have J14 : ∀ (_ : True), f_X5_tokenBegunBy_J14 p0 = some u → ∀ (ls : Array Slot), lv_has ls 1 [(0, .int p0)] → W p l e (xrm 0 0) s m args below meth c s.heap [] 0 0 (MQ below (xQ True (.returned (some (.int u)))) args s 0 0 xNo) (F0 m 14 ls []) := by
    intro _ hf ls hl
    refine lv_iload_n hx hb dX5_tokenBegunBy_14 rfl (lv_at hl 0 rfl) ?_
    refine lv_bipush (v := (nI 48)) hx hb dX5_tokenBegunBy_15 (by decide) ?_
    refine lv_icmp_lt (tgt := 28) hx hb dX5_tokenBegunBy_17 (by decide) (fun c2 => ?_) (fun c2 => ?_)
    · have hf := xt c2 hf
      exact J28 trivial hf ls (lv_sub hl [0] rfl)
    · have hf := xe c2 hf
      refine lv_iload_n hx hb dX5_tokenBegunBy_20 rfl (lv_at hl 0 rfl) ?_
      refine lv_bipush (v := (nI 57)) hx hb dX5_tokenBegunBy_21 (by decide) ?_
      refine lv_icmp_gt (tgt := 28) hx hb dX5_tokenBegunBy_23 (by decide) (fun c5 => ?_) (fun c5 => ?_)
      · have hf := xt c5 hf
        exact J28 trivial hf ls (lv_sub hl [0] rfl)
      · have hf := xe c5 hf
        refine lv_iconst (v := (nI 2)) hx hb dX5_tokenBegunBy_26 (by decide) ?_
        exact x_reti hC hr hlk trivial hf dX5_tokenBegunBy_27
  refine lv_iload_n hx hb dX5_tokenBegunBy_0 rfl (lv_at hl 0 rfl) ?_
  refine lv_bipush (v := (nI 97)) hx hb dX5_tokenBegunBy_1 (by decide) ?_
  refine lv_icmp_lt (tgt := 14) hx hb dX5_tokenBegunBy_3 (by decide) (fun c1 => ?_) (fun c1 => ?_)
  · have hf := xt c1 hf
    exact J14 trivial hf ls (lv_sub hl [0] rfl)
  · have hf := xe c1 hf
    refine lv_iload_n hx hb dX5_tokenBegunBy_6 rfl (lv_at hl 0 rfl) ?_
    refine lv_bipush (v := (nI 122)) hx hb dX5_tokenBegunBy_7 (by decide) ?_
    refine lv_icmp_gt (tgt := 14) hx hb dX5_tokenBegunBy_9 (by decide) (fun c6 => ?_) (fun c6 => ?_)
    · have hf := xt c6 hf
      exact J14 trivial hf ls (lv_sub hl [0] rfl)
    · have hf := xe c6 hf
      refine lv_iconst (v := (nI 1)) hx hb dX5_tokenBegunBy_12 (by decide) ?_
      exact x_reti hC hr hlk trivial hf dX5_tokenBegunBy_13
def f_X5_nextToken_L93 (v_size : Int32) (v_bytes : (Nat → Int32)) (s8 : Int32) (x93_v_token : Int32) (s93 : Int32) : Option (((Int32 × Int32 × Int32) ⊕ (Int32)) ⊕ (Int32)) :=
  if v_size ≤ s93 then
    some (.inl (.inl (x93_v_token, s8, s93)))
  else
  (f_X5_byteAt v_size v_bytes s93).bind fun u6 =>
  (f_X5_tokenBegunBy u6).bind fun u7 =>
  if u7 = x93_v_token then
    some (.inr (s93 + (nI 1)))
  else
  some (.inl (.inl (x93_v_token, s8, s93)))
def f_X5_nextToken_J45 (v_size : Int32) (v_bytes : (Nat → Int32)) (s8 : Int32) : Option ((Int32 × Int32 × Int32) ⊕ (Int32)) :=
  (f_X5_byteAt v_size v_bytes s8).bind fun u2 =>
  (f_X5_tokenBegunBy u2).bind fun u3 =>
  if u3 = (nI 1) then
    xloop (f_X5_nextToken_L93 v_size v_bytes s8 u3) xN (xmin (s8 + (nI 1)) v_size)
  else
  if u3 = (nI 2) then
    xloop (f_X5_nextToken_L93 v_size v_bytes s8 u3) xN (xmin (s8 + (nI 1)) v_size)
  else
  some (.inl (u3, s8, xmin (s8 + (nI 1)) v_size))
def f_X5_nextToken_L8 (v_size : Int32) (v_bytes : (Nat → Int32)) (s8 : Int32) : Option ((Int32 × Int32 × Int32) ⊕ (Int32)) :=
  if v_size ≤ s8 then
    f_X5_nextToken_J45 v_size v_bytes s8
  else
  (f_X5_byteAt v_size v_bytes s8).bind fun u10 =>
  if u10 = (nI 32) then
    some (.inr (s8 + (nI 1)))
  else
  f_X5_nextToken_J45 v_size v_bytes s8
def f_X5_nextToken (v_size : Int32) (v_token : Int32) (v_tokenStart : Int32) (v_tokenEnd : Int32) (v_bytes : (Nat → Int32)) : Option (Int32 × Int32 × Int32) :=
  xloop (f_X5_nextToken_L8 v_size v_bytes) xN v_tokenEnd
set_option maxHeartbeats 4000000 in
set_option maxRecDepth 100000 in
theorem c_X5_nextToken {l : Launch} {X : xG} {h0 h1 : Nat} {v_size : Int32} {v_token : Int32} {v_tokenStart : Int32} {v_tokenEnd : Int32} {v_bytes : (Nat → Int32)} {u : Int32 × Int32 × Int32} (hf : f_X5_nextToken v_size v_token v_tokenStart v_tokenEnd v_bytes = some u) : Met l yX5_nextToken (xw yX5_nextToken cX5_nextToken 1 none) (xrm 1 21) (xPc [.ref h0] X [(h0, xO 5 [.ref h1, .int v_size, .int v_token, .int v_tokenStart, .int v_tokenEnd]), (h1, xI X 250 v_bytes)]) (xQw True (.returned none) X [(h0, xO 5 [.ref h1, .int v_size, .int u.1, .int u.2.1, .int u.2.2]), (h1, xI X 250 v_bytes)] (xAs [(h0, xO 5 [.ref h1, .int v_size, .int v_token, .int v_tokenStart, .int v_tokenEnd]), (h1, xI X 250 v_bytes)])) 0 0 (xAs [(h0, xO 5 [.ref h1, .int v_size, .int v_token, .int v_tokenStart, .int v_tokenEnd]), (h1, xI X 250 v_bytes)]) := by
  refine xMetw (Qc := fun A => xQw True (.returned none) X [(h0, xO 5 [.ref h1, .int v_size, .int u.1, .int u.2.1, .int u.2.2]), (h1, xI X 250 v_bytes)] A) (n := 0) md_X5_nextToken.1 (Nat.le_of_ble_eq_true rfl) ?_
  intro p e s m args below meth c ls A hC hr hlk hH hl
  have hl : lv_has ls 1 [(0, .ref h0)] := hl
  have hx := hC.1
  have hb := hC.2.1
  have L8 : ∀ (n : Nat) (s8 : Int32), xloop (f_X5_nextToken_L8 v_size v_bytes) n s8 = some u → ∀ (H : Heap) (locs : List Loc), xH X A [(h0, xO 5 [.ref h1, .int v_size, .int v_token, .int s8, .int v_tokenEnd]), (h1, xI X 250 v_bytes)] s.heap H locs → ∀ (ls : Array Slot), lv_has ls 1 [(0, .ref h0)] → W p l e (xrm 1 21) s m args below meth c H locs 0 0 (MQ below (xQw True (.returned none) X [(h0, xO 5 [.ref h1, .int v_size, .int u.1, .int u.2.1, .int u.2.2]), (h1, xI X 250 v_bytes)] A) args s 0 0 A) (F0 m 8 ls []) := by
    intro  n
    induction n with
    | zero => intro s8 hf; exact xloop_0 hf
    | succ n ih8 =>
      intro s8 hf H locs hH ls hl
      obtain ⟨o8, hf, ho8⟩ := xloop_s hf
      have L93 : ∀ (x93_v_token : Int32) (n : Nat) (s93 : Int32), xloop (f_X5_nextToken_L93 v_size v_bytes s8 x93_v_token) n s93 = some o8 → ∀ (H : Heap) (locs : List Loc), xH X A [(h0, xO 5 [.ref h1, .int v_size, .int x93_v_token, .int s8, .int s93]), (h1, xI X 250 v_bytes)] s.heap H locs → ∀ (ls : Array Slot), lv_has ls 1 [(0, .ref h0)] → W p l e (xrm 1 21) s m args below meth c H locs 0 0 (MQ below (xQw True (.returned none) X [(h0, xO 5 [.ref h1, .int v_size, .int u.1, .int u.2.1, .int u.2.2]), (h1, xI X 250 v_bytes)] A) args s 0 0 A) (F0 m 93 ls []) := by
        intro x93_v_token n
        induction n with
        | zero => intro s93 hf; exact xloop_0 hf
        | succ n ih93 =>
          intro s93 hf H locs hH ls hl
          obtain ⟨o93, hf, ho93⟩ := xloop_s hf
          refine lv_aload_n hx hb dX5_nextToken_93 rfl (lv_at hl 0 rfl) ?_
          refine x_get hC fd_RX5_19 hH.1 0 rfl rfl dX5_nextToken_94 ?_
          refine lv_aload_n hx hb dX5_nextToken_97 rfl (lv_at hl 0 rfl) ?_
          refine x_get hC fd_RX5_15 hH.1 0 rfl rfl dX5_nextToken_98 ?_
          refine lv_icmp_ge (tgt := 135) hx hb dX5_nextToken_101 (by decide) (fun c5 => ?_) (fun c5 => ?_)
          · have hf := xt c5 hf
            have hf := xo_ret hf ho93
            have hf := xo_ret hf ho8
            exact x_retvw (φ := fun _ => True) (wf := fun u : Int32 × Int32 × Int32 => [(h0, xO 5 [.ref h1, .int v_size, .int u.1, .int u.2.1, .int u.2.2]), (h1, xI X 250 v_bytes)]) hC hr hlk trivial hf hH rfl dX5_nextToken_135
          · have hf := xe c5 hf
            refine lv_aload_n hx hb dX5_nextToken_104 rfl (lv_at hl 0 rfl) ?_
            refine lv_aload_n hx hb dX5_nextToken_105 rfl (lv_at hl 0 rfl) ?_
            refine x_get hC fd_RX5_19 hH.1 0 rfl rfl dX5_nextToken_106 ?_
            obtain ⟨u6, hf6, hf⟩ := xb hf
            refine x_ran (x_runV (q0 := 0) (rest := []) (As := [.int s93]) hC mw_479 md_X5_byteAt (c_X5_byteAt (X := X) hf6) hH [0, 1] rfl (by decide) rfl rfl rfl hl.1 rfl rfl (Nat.le_of_ble_eq_true rfl) dX5_nextToken_109 ⟨Nat.le_of_ble_eq_true rfl, Nat.le_of_ble_eq_true rfl⟩ ⟨rfl, rfl⟩ ⟨Nat.le_refl _, Nat.le_refl _⟩) rfl (fun hz6 => ?_)
            obtain ⟨u7, hf7, hf⟩ := xb hf
            refine x_ran (x_runS (rest := []) (As := [.int u6]) hC mw_483 md_X5_tokenBegunBy (c_X5_tokenBegunBy (X := X) hf7) hH [] rfl (by decide) hl.1 rfl rfl (Nat.le_of_ble_eq_true rfl) dX5_nextToken_112 ⟨Nat.le_of_ble_eq_true rfl, Nat.le_of_ble_eq_true rfl⟩ ⟨rfl, rfl⟩ ⟨Nat.le_refl _, Nat.le_refl _⟩) rfl (fun hz7 => ?_)
            refine lv_aload_n hx hb dX5_nextToken_115 rfl (lv_at hl 0 rfl) ?_
            refine x_get hC fd_RX5_32 hH.1 0 rfl rfl dX5_nextToken_116 ?_
            refine lv_icmp_ne (tgt := 135) hx hb dX5_nextToken_119 (by decide) (fun c8 => ?_) (fun c8 => ?_)
            · have hf := xe c8 hf
              have hf := xo_ret hf ho93
              have hf := xo_ret hf ho8
              exact x_retvw (φ := fun _ => True) (wf := fun u : Int32 × Int32 × Int32 => [(h0, xO 5 [.ref h1, .int v_size, .int u.1, .int u.2.1, .int u.2.2]), (h1, xI X 250 v_bytes)]) hC hr hlk trivial hf hH rfl dX5_nextToken_135
            · have hf := xt c8 hf
              refine lv_aload_n hx hb dX5_nextToken_122 rfl (lv_at hl 0 rfl) ?_
              refine lv_dup hx hb dX5_nextToken_123 rfl ?_
              refine x_get hC fd_RX5_19 hH.1 0 rfl rfl dX5_nextToken_124 ?_
              refine lv_iconst (v := (nI 1)) hx hb dX5_nextToken_127 (by decide) ?_
              refine lv_iadd hx hb dX5_nextToken_128 ?_
              refine x_put (ws' := [(h0, xO 5 [.ref h1, .int v_size, .int x93_v_token, .int s8, .int (s93 + (nI 1))]), (h1, xI X 250 v_bytes)]) hC fd_RX5_19 hH 0 rfl (Nat.le_of_ble_eq_true rfl) rfl rfl dX5_nextToken_129 rfl (fun H locs hH => ?_)
              refine lv_goto (tgt := 93) hx hb dX5_nextToken_132 (by decide) ?_
              have hf := xo_go hf ho93
              exact ih93 (s93 + (nI 1)) hf _ _ hH ls (lv_sub hl [0] rfl)
      have J45 : ∀ (_ : True), f_X5_nextToken_J45 v_size v_bytes s8 = some o8 → ∀ (H : Heap) (locs : List Loc), xH X A [(h0, xO 5 [.ref h1, .int v_size, .int v_token, .int s8, .int v_tokenEnd]), (h1, xI X 250 v_bytes)] s.heap H locs → ∀ (ls : Array Slot), lv_has ls 1 [(0, .ref h0)] → W p l e (xrm 1 21) s m args below meth c H locs 0 0 (MQ below (xQw True (.returned none) X [(h0, xO 5 [.ref h1, .int v_size, .int u.1, .int u.2.1, .int u.2.2]), (h1, xI X 250 v_bytes)] A) args s 0 0 A) (F0 m 45 ls []) := by
        intro _ hf H locs hH ls hl
        refine lv_aload_n hx hb dX5_nextToken_45 rfl (lv_at hl 0 rfl) ?_
        refine lv_aload_n hx hb dX5_nextToken_46 rfl (lv_at hl 0 rfl) ?_
        refine lv_aload_n hx hb dX5_nextToken_47 rfl (lv_at hl 0 rfl) ?_
        refine x_get hC fd_RX5_22 hH.1 0 rfl rfl dX5_nextToken_48 ?_
        obtain ⟨u2, hf2, hf⟩ := xb hf
        refine x_ran (x_runV (q0 := 0) (rest := [.ref h0]) (As := [.int s8]) hC mw_479 md_X5_byteAt (c_X5_byteAt (X := X) hf2) hH [0, 1] rfl (by decide) rfl rfl rfl hl.1 rfl rfl (Nat.le_of_ble_eq_true rfl) dX5_nextToken_51 ⟨Nat.le_of_ble_eq_true rfl, Nat.le_of_ble_eq_true rfl⟩ ⟨rfl, rfl⟩ ⟨Nat.le_refl _, Nat.le_refl _⟩) rfl (fun hz2 => ?_)
        obtain ⟨u3, hf3, hf⟩ := xb hf
        refine x_ran (x_runS (rest := [.ref h0]) (As := [.int u2]) hC mw_483 md_X5_tokenBegunBy (c_X5_tokenBegunBy (X := X) hf3) hH [] rfl (by decide) hl.1 rfl rfl (Nat.le_of_ble_eq_true rfl) dX5_nextToken_54 ⟨Nat.le_of_ble_eq_true rfl, Nat.le_of_ble_eq_true rfl⟩ ⟨rfl, rfl⟩ ⟨Nat.le_refl _, Nat.le_refl _⟩) rfl (fun hz3 => ?_)
        refine x_put (ws' := [(h0, xO 5 [.ref h1, .int v_size, .int u3, .int s8, .int v_tokenEnd]), (h1, xI X 250 v_bytes)]) hC fd_RX5_32 hH 0 rfl (Nat.le_of_ble_eq_true rfl) rfl rfl dX5_nextToken_57 rfl (fun H locs hH => ?_)
        refine lv_aload_n hx hb dX5_nextToken_60 rfl (lv_at hl 0 rfl) ?_
        refine lv_aload_n hx hb dX5_nextToken_61 rfl (lv_at hl 0 rfl) ?_
        refine x_get hC fd_RX5_22 hH.1 0 rfl rfl dX5_nextToken_62 ?_
        refine lv_iconst (v := (nI 1)) hx hb dX5_nextToken_65 (by decide) ?_
        refine lv_iadd hx hb dX5_nextToken_66 ?_
        refine lv_aload_n hx hb dX5_nextToken_67 rfl (lv_at hl 0 rfl) ?_
        refine x_get hC fd_RX5_15 hH.1 0 rfl rfl dX5_nextToken_68 ?_
        refine x_min hC hl.1 mw_475 mw_476 mw_477 mw_478 (Nat.le_of_ble_eq_true rfl) (Nat.le_of_ble_eq_true rfl) (Nat.le_refl _) (Nat.le_refl _) dX5_nextToken_71 ?_
        refine x_put (ws' := [(h0, xO 5 [.ref h1, .int v_size, .int u3, .int s8, .int (xmin (s8 + (nI 1)) v_size)]), (h1, xI X 250 v_bytes)]) hC fd_RX5_19 hH 0 rfl (Nat.le_of_ble_eq_true rfl) rfl rfl dX5_nextToken_74 rfl (fun H locs hH => ?_)
        refine lv_aload_n hx hb dX5_nextToken_77 rfl (lv_at hl 0 rfl) ?_
        refine x_get hC fd_RX5_32 hH.1 0 rfl rfl dX5_nextToken_78 ?_
        refine lv_iconst (v := (nI 1)) hx hb dX5_nextToken_81 (by decide) ?_
        refine lv_icmp_eq (tgt := 93) hx hb dX5_nextToken_82 (by decide) (fun c4 => ?_) (fun c4 => ?_)
        · have hf := xt c4 hf
          exact L93 u3 xN (xmin (s8 + (nI 1)) v_size) hf _ _ hH ls (lv_sub hl [0] rfl)
        · have hf := xe c4 hf
          refine lv_aload_n hx hb dX5_nextToken_85 rfl (lv_at hl 0 rfl) ?_
          refine x_get hC fd_RX5_32 hH.1 0 rfl rfl dX5_nextToken_86 ?_
          refine lv_iconst (v := (nI 2)) hx hb dX5_nextToken_89 (by decide) ?_
          refine lv_icmp_ne (tgt := 135) hx hb dX5_nextToken_90 (by decide) (fun c9 => ?_) (fun c9 => ?_)
          · have hf := xe c9 hf
            have hf := xo_ret hf ho8
            exact x_retvw (φ := fun _ => True) (wf := fun u : Int32 × Int32 × Int32 => [(h0, xO 5 [.ref h1, .int v_size, .int u.1, .int u.2.1, .int u.2.2]), (h1, xI X 250 v_bytes)]) hC hr hlk trivial hf hH rfl dX5_nextToken_135
          · have hf := xt c9 hf
            exact L93 u3 xN (xmin (s8 + (nI 1)) v_size) hf _ _ hH ls (lv_sub hl [0] rfl)
      refine lv_aload_n hx hb dX5_nextToken_8 rfl (lv_at hl 0 rfl) ?_
      refine x_get hC fd_RX5_22 hH.1 0 rfl rfl dX5_nextToken_9 ?_
      refine lv_aload_n hx hb dX5_nextToken_12 rfl (lv_at hl 0 rfl) ?_
      refine x_get hC fd_RX5_15 hH.1 0 rfl rfl dX5_nextToken_13 ?_
      refine lv_icmp_ge (tgt := 45) hx hb dX5_nextToken_16 (by decide) (fun c1 => ?_) (fun c1 => ?_)
      · have hf := xt c1 hf
        exact J45 trivial hf _ _ hH ls (lv_sub hl [0] rfl)
      · have hf := xe c1 hf
        refine lv_aload_n hx hb dX5_nextToken_19 rfl (lv_at hl 0 rfl) ?_
        refine lv_aload_n hx hb dX5_nextToken_20 rfl (lv_at hl 0 rfl) ?_
        refine x_get hC fd_RX5_22 hH.1 0 rfl rfl dX5_nextToken_21 ?_
        obtain ⟨u10, hf10, hf⟩ := xb hf
        refine x_ran (x_runV (q0 := 0) (rest := []) (As := [.int s8]) hC mw_479 md_X5_byteAt (c_X5_byteAt (X := X) hf10) hH [0, 1] rfl (by decide) rfl rfl rfl hl.1 rfl rfl (Nat.le_of_ble_eq_true rfl) dX5_nextToken_24 ⟨Nat.le_of_ble_eq_true rfl, Nat.le_of_ble_eq_true rfl⟩ ⟨rfl, rfl⟩ ⟨Nat.le_refl _, Nat.le_refl _⟩) rfl (fun hz10 => ?_)
        refine lv_bipush (v := (nI 32)) hx hb dX5_nextToken_27 (by decide) ?_
        refine lv_icmp_ne (tgt := 45) hx hb dX5_nextToken_29 (by decide) (fun c11 => ?_) (fun c11 => ?_)
        · have hf := xe c11 hf
          exact J45 trivial hf _ _ hH ls (lv_sub hl [0] rfl)
        · have hf := xt c11 hf
          refine lv_aload_n hx hb dX5_nextToken_32 rfl (lv_at hl 0 rfl) ?_
          refine lv_dup hx hb dX5_nextToken_33 rfl ?_
          refine x_get hC fd_RX5_22 hH.1 0 rfl rfl dX5_nextToken_34 ?_
          refine lv_iconst (v := (nI 1)) hx hb dX5_nextToken_37 (by decide) ?_
          refine lv_iadd hx hb dX5_nextToken_38 ?_
          refine x_put (ws' := [(h0, xO 5 [.ref h1, .int v_size, .int v_token, .int (s8 + (nI 1)), .int v_tokenEnd]), (h1, xI X 250 v_bytes)]) hC fd_RX5_22 hH 0 rfl (Nat.le_of_ble_eq_true rfl) rfl rfl dX5_nextToken_39 rfl (fun H locs hH => ?_)
          refine lv_goto (tgt := 8) hx hb dX5_nextToken_42 (by decide) ?_
          have hf := xo_go hf ho8
          exact ih8 (s8 + (nI 1)) hf _ _ hH ls (lv_sub hl [0] rfl)
  refine lv_aload_n hx hb dX5_nextToken_0 rfl (lv_at hl 0 rfl) ?_
  refine lv_aload_n hx hb dX5_nextToken_1 rfl (lv_at hl 0 rfl) ?_
  refine x_get hC fd_RX5_19 hH.1 0 rfl rfl dX5_nextToken_2 ?_
  refine x_put (ws' := [(h0, xO 5 [.ref h1, .int v_size, .int v_token, .int v_tokenEnd, .int v_tokenEnd]), (h1, xI X 250 v_bytes)]) hC fd_RX5_22 hH 0 rfl (Nat.le_of_ble_eq_true rfl) rfl rfl dX5_nextToken_5 rfl (fun H locs hH => ?_)
  exact L8 xN v_tokenEnd hf _ _ hH ls (lv_sub hl [0] rfl)
def f_X5_tokenLength (v_tokenStart : Int32) (v_tokenEnd : Int32) : Option (Int32) :=
  some (v_tokenEnd - v_tokenStart)
set_option maxHeartbeats 4000000 in
set_option maxRecDepth 100000 in
theorem c_X5_tokenLength {l : Launch} {X : xG} {h0 g0 : Nat} {v_size : Int32} {v_token : Int32} {v_tokenStart : Int32} {v_tokenEnd : Int32} {u : Int32} (hf : f_X5_tokenLength v_tokenStart v_tokenEnd = some u) : Met l yX5_tokenLength (xw yX5_tokenLength cX5_tokenLength 1 (some .int)) (xrm 0 0) (xPc [.ref h0] X [(h0, xO 5 [.ref g0, .int v_size, .int v_token, .int v_tokenStart, .int v_tokenEnd])]) (xQ True (.returned (some (.int u)))) 0 0 xNo := by
  refine xMet (n := 0) md_X5_tokenLength.1 (Nat.le_of_ble_eq_true rfl) ?_
  intro p e s m args below meth c ls A hC hr hlk hH hl
  have hl : lv_has ls 1 [(0, .ref h0)] := hl
  have hx := hC.1
  have hb := hC.2.1
  refine lv_aload_n hx hb dX5_tokenLength_0 rfl (lv_at hl 0 rfl) ?_
  refine x_get hC fd_RX5_19 hH.1 0 rfl rfl dX5_tokenLength_1 ?_
  refine lv_aload_n hx hb dX5_tokenLength_4 rfl (lv_at hl 0 rfl) ?_
  refine x_get hC fd_RX5_22 hH.1 0 rfl rfl dX5_tokenLength_5 ?_
  refine lv_isub hx hb dX5_tokenLength_8 ?_
  exact x_reti hC hr hlk trivial hf dX5_tokenLength_9
def f_X5_isWord_L23 (v_size : Int32) (v_tokenStart : Int32) (v_bytes : (Nat → Int32)) (p1 : Nat) (s23 : Int32) : Option ((Int32) ⊕ (Int32)) :=
  (f_J0_length_8abf5 p1).bind fun u5 =>
  if u5 ≤ s23 then
    some (.inl (nI 1))
  else
  (f_X5_byteAt v_size v_bytes (v_tokenStart + s23)).bind fun u7 =>
  (f_J0_charAt_5068e p1 s23).bind fun u8 =>
  if u7 = u8 then
    some (.inr (s23 + (nI 1)))
  else
  some (.inl (nI 0))
def f_X5_isWord (v_size : Int32) (v_token : Int32) (v_tokenStart : Int32) (v_tokenEnd : Int32) (v_bytes : (Nat → Int32)) (p1 : Nat) : Option (Int32) :=
  if v_token = (nI 1) then
    (f_X5_tokenLength v_tokenStart v_tokenEnd).bind fun u2 =>
    (f_J0_length_8abf5 p1).bind fun u3 =>
    if u2 = u3 then
      xloop (f_X5_isWord_L23 v_size v_tokenStart v_bytes p1) xN (nI 0)
    else
    some (nI 0)
  else
  some (nI 0)
set_option maxHeartbeats 4000000 in
set_option maxRecDepth 100000 in
theorem c_X5_isWord {l : Launch} {X : xG} {h0 h1 : Nat} {v_size : Int32} {v_token : Int32} {v_tokenStart : Int32} {v_tokenEnd : Int32} {v_bytes : (Nat → Int32)} {p1 : Nat} {u : Int32} (hf : f_X5_isWord v_size v_token v_tokenStart v_tokenEnd v_bytes p1 = some u) : Met l yX5_isWord (xw yX5_isWord cX5_isWord 3 (some .boolean)) (xrm 4 85) (xPc [.ref h0, .ref (X.2.2.2.2.1 p1)] X [(h0, xO 5 [.ref h1, .int v_size, .int v_token, .int v_tokenStart, .int v_tokenEnd]), (h1, xI X 250 v_bytes)]) (xQ (u = 0 ∨ u = 1) (.returned (some (.int u)))) 0 0 xNo := by
  refine xMet (n := 1) md_X5_isWord.1 (Nat.le_of_ble_eq_true rfl) ?_
  intro p e s m args below meth c ls A hC hr hlk hH hl
  have hl : lv_has ls 3 [(0, .ref h0), (1, .ref (X.2.2.2.2.1 p1))] := hl
  have hx := hC.1
  have hb := hC.2.1
  have L23 : ∀ (n : Nat) (s23 : Int32), xloop (f_X5_isWord_L23 v_size v_tokenStart v_bytes p1) n s23 = some u → ∀ (ls : Array Slot), lv_has ls 3 [(0, .ref h0), (1, .ref (X.2.2.2.2.1 p1)), (2, .int s23)] → W p l e (xrm 4 85) s m args below meth c s.heap [] 0 0 (MQ below (xQ (u = 0 ∨ u = 1) (.returned (some (.int u)))) args s 0 0 xNo) (F0 m 23 ls []) := by
    intro  n
    induction n with
    | zero => intro s23 hf; exact xloop_0 hf
    | succ n ih23 =>
      intro s23 hf ls hl
      obtain ⟨o23, hf, ho23⟩ := xloop_s hf
      refine lv_iload_n hx hb dX5_isWord_23 rfl (lv_at hl 2 rfl) ?_
      refine lv_aload_n hx hb dX5_isWord_24 rfl (lv_at hl 1 rfl) ?_
      obtain ⟨u5, hf5, hf⟩ := xb hf
      refine x_ran (x_runVs (rest := [.int s23]) (As := []) hC mw_498 md_J0_length_8abf5 (c_J0_length_8abf5 (X := X) hf5) (x7_J0_length_8abf5 hf5) hH rfl hl.1 rfl rfl (Nat.le_of_ble_eq_true rfl) dX5_isWord_25 ⟨Nat.le_of_ble_eq_true rfl, Nat.le_of_ble_eq_true rfl⟩ ⟨rfl, rfl⟩ ⟨Nat.le_refl _, Nat.le_refl _⟩) rfl (fun hz5 => ?_)
      refine lv_icmp_ge (tgt := 57) hx hb dX5_isWord_28 (by decide) (fun c6 => ?_) (fun c6 => ?_)
      · have hf := xt c6 hf
        refine lv_iconst (v := (nI 1)) hx hb dX5_isWord_57 (by decide) ?_
        have hf := xo_ret hf ho23
        exact x_retz hC hr hlk (Or.inr rfl) hf dX5_isWord_58
      · have hf := xe c6 hf
        refine lv_aload_n hx hb dX5_isWord_31 rfl (lv_at hl 0 rfl) ?_
        refine lv_aload_n hx hb dX5_isWord_32 rfl (lv_at hl 0 rfl) ?_
        refine x_get hC fd_RX5_22 hH.1 0 rfl rfl dX5_isWord_33 ?_
        refine lv_iload_n hx hb dX5_isWord_36 rfl (lv_at hl 2 rfl) ?_
        refine lv_iadd hx hb dX5_isWord_37 ?_
        obtain ⟨u7, hf7, hf⟩ := xb hf
        refine x_ran (x_runV (q0 := 0) (rest := []) (As := [.int (v_tokenStart + s23)]) hC mw_479 md_X5_byteAt (c_X5_byteAt (X := X) hf7) hH [0, 1] rfl (by decide) rfl rfl rfl hl.1 rfl rfl (Nat.le_of_ble_eq_true rfl) dX5_isWord_38 ⟨Nat.le_of_ble_eq_true rfl, Nat.le_of_ble_eq_true rfl⟩ ⟨rfl, rfl⟩ ⟨Nat.le_refl _, Nat.le_refl _⟩) rfl (fun hz7 => ?_)
        refine lv_aload_n hx hb dX5_isWord_41 rfl (lv_at hl 1 rfl) ?_
        refine lv_iload_n hx hb dX5_isWord_42 rfl (lv_at hl 2 rfl) ?_
        obtain ⟨u8, hf8, hf⟩ := xb hf
        refine x_ran (x_runVs (rest := [.int u7]) (As := [.int s23]) hC mw_510 md_J0_charAt_5068e (c_J0_charAt_5068e (X := X) hf8) (x7_J0_charAt_5068e hf8) hH rfl hl.1 rfl rfl (Nat.le_of_ble_eq_true rfl) dX5_isWord_43 ⟨Nat.le_of_ble_eq_true rfl, Nat.le_of_ble_eq_true rfl⟩ ⟨rfl, rfl⟩ ⟨Nat.le_refl _, Nat.le_refl _⟩) rfl (fun hz8 => ?_)
        refine lv_icmp_eq (tgt := 51) hx hb dX5_isWord_46 (by decide) (fun c9 => ?_) (fun c9 => ?_)
        · have hf := xt c9 hf
          refine lv_iinc (v := s23 + (nI 1)) (lv' := [(2, .int (s23 + (nI 1))), (0, .ref h0), (1, .ref (X.2.2.2.2.1 p1))]) hx hb dX5_isWord_51 hl (k := 2) rfl rfl (by decide) rfl (fun ls hl => ?_)
          refine lv_goto (tgt := 23) hx hb dX5_isWord_54 (by decide) ?_
          have hf := xo_go hf ho23
          exact ih23 (s23 + (nI 1)) hf ls (lv_sub hl [1, 2, 0] rfl)
        · have hf := xe c9 hf
          refine lv_iconst (v := (nI 0)) hx hb dX5_isWord_49 (by decide) ?_
          have hf := xo_ret hf ho23
          exact x_retz hC hr hlk (Or.inl rfl) hf dX5_isWord_50
  refine lv_aload_n hx hb dX5_isWord_0 rfl (lv_at hl 0 rfl) ?_
  refine x_get hC fd_RX5_32 hH.1 0 rfl rfl dX5_isWord_1 ?_
  refine lv_iconst (v := (nI 1)) hx hb dX5_isWord_4 (by decide) ?_
  refine lv_icmp_ne (tgt := 19) hx hb dX5_isWord_5 (by decide) (fun c1 => ?_) (fun c1 => ?_)
  · have hf := xe c1 hf
    refine lv_iconst (v := (nI 0)) hx hb dX5_isWord_19 (by decide) ?_
    exact x_retz hC hr hlk (Or.inl rfl) hf dX5_isWord_20
  · have hf := xt c1 hf
    refine lv_aload_n hx hb dX5_isWord_8 rfl (lv_at hl 0 rfl) ?_
    obtain ⟨u2, hf2, hf⟩ := xb hf
    refine x_ran (x_runV (q0 := 0) (rest := []) (As := []) hC mw_494 md_X5_tokenLength (c_X5_tokenLength (X := X) hf2) hH [0] rfl (by decide) rfl rfl rfl hl.1 rfl rfl (Nat.le_of_ble_eq_true rfl) dX5_isWord_9 ⟨Nat.le_of_ble_eq_true rfl, Nat.le_of_ble_eq_true rfl⟩ ⟨rfl, rfl⟩ ⟨Nat.le_refl _, Nat.le_refl _⟩) rfl (fun hz2 => ?_)
    refine lv_aload_n hx hb dX5_isWord_12 rfl (lv_at hl 1 rfl) ?_
    obtain ⟨u3, hf3, hf⟩ := xb hf
    refine x_ran (x_runVs (rest := [.int u2]) (As := []) hC mw_498 md_J0_length_8abf5 (c_J0_length_8abf5 (X := X) hf3) (x7_J0_length_8abf5 hf3) hH rfl hl.1 rfl rfl (Nat.le_of_ble_eq_true rfl) dX5_isWord_13 ⟨Nat.le_of_ble_eq_true rfl, Nat.le_of_ble_eq_true rfl⟩ ⟨rfl, rfl⟩ ⟨Nat.le_refl _, Nat.le_refl _⟩) rfl (fun hz3 => ?_)
    refine lv_icmp_eq (tgt := 21) hx hb dX5_isWord_16 (by decide) (fun c4 => ?_) (fun c4 => ?_)
    · have hf := xt c4 hf
      refine lv_iconst (v := (nI 0)) hx hb dX5_isWord_21 (by decide) ?_
      refine lv_istore_n (lv' := [(2, .int (nI 0)), (0, .ref h0), (1, .ref (X.2.2.2.2.1 p1))]) hx hb dX5_isWord_22 rfl hl (by decide) rfl (fun ls hl => ?_)
      exact L23 xN (nI 0) hf ls (lv_sub hl [1, 2, 0] rfl)
    · have hf := xe c4 hf
      refine lv_iconst (v := (nI 0)) hx hb dX5_isWord_19 (by decide) ?_
      exact x_retz hC hr hlk (Or.inl rfl) hf dX5_isWord_20
def f_X2_hasRoom (v_count : Int32) : Option (Int32) :=
  if (nI 6) ≤ v_count then
    some (nI 0)
  else
  some (nI 1)
set_option maxHeartbeats 4000000 in
set_option maxRecDepth 100000 in
theorem c_X2_hasRoom {l : Launch} {X : xG} {h0 g0 g1 : Nat} {v_count : Int32} {u : Int32} (hf : f_X2_hasRoom v_count = some u) : Met l yX2_hasRoom (xw yX2_hasRoom cX2_hasRoom 1 (some .boolean)) (xrm 0 0) (xPc [.ref h0] X [(h0, xO 2 [.ref g0, .ref g1, .int v_count])]) (xQ (u = 0 ∨ u = 1) (.returned (some (.int u)))) 0 0 xNo := by
  refine xMet (n := 0) md_X2_hasRoom.1 (Nat.le_of_ble_eq_true rfl) ?_
  intro p e s m args below meth c ls A hC hr hlk hH hl
  have hl : lv_has ls 1 [(0, .ref h0)] := hl
  have hx := hC.1
  have hb := hC.2.1
  refine lv_aload_n hx hb dX2_hasRoom_0 rfl (lv_at hl 0 rfl) ?_
  refine x_get hC fd_RX2_22 hH.1 0 rfl rfl dX2_hasRoom_1 ?_
  refine lv_bipush (v := (nI 6)) hx hb dX2_hasRoom_4 (by decide) ?_
  refine lv_icmp_ge (tgt := 13) hx hb dX2_hasRoom_6 (by decide) (fun c1 => ?_) (fun c1 => ?_)
  · have hf := xt c1 hf
    refine lv_iconst (v := (nI 0)) hx hb dX2_hasRoom_13 (by decide) ?_
    exact x_retz hC hr hlk (Or.inl rfl) hf dX2_hasRoom_14
  · have hf := xe c1 hf
    refine lv_iconst (v := (nI 1)) hx hb dX2_hasRoom_9 (by decide) ?_
    refine lv_goto (tgt := 14) hx hb dX2_hasRoom_10 (by decide) ?_
    exact x_retz hC hr hlk (Or.inr rfl) hf dX2_hasRoom_14
def f_X1_readNumber_L44 (v_tape_size : Int32) (v_tape_bytes : (Nat → Int32)) (p1 : Int32) (p2 : Int32) (x44_v_tape_token : Int32) (x44_v_tape_tokenStart : Int32) (x44_v_tape_tokenEnd : Int32) (s44 : Int32 × Int32) : Option ((Int32 × Int32 × Int32 × Int32 × Int32) ⊕ (Int32 × Int32)) :=
  if x44_v_tape_tokenEnd ≤ s44.1 then
    (f_X6_isWithin s44.2 p1 p2).bind fun u6 =>
    some (.inl (u6, s44.2, x44_v_tape_token, x44_v_tape_tokenStart, x44_v_tape_tokenEnd))
  else
  (f_X5_byteAt v_tape_size v_tape_bytes s44.1).bind fun u7 =>
  some (.inr (s44.1 + (nI 1), (((nI 10) * s44.2) + u7) - (nI 48)))
def f_X1_readNumber (v_number : Int32) (v_tape_size : Int32) (v_tape_token : Int32) (v_tape_tokenStart : Int32) (v_tape_tokenEnd : Int32) (v_tape_bytes : (Nat → Int32)) (p1 : Int32) (p2 : Int32) : Option (Int32 × Int32 × Int32 × Int32 × Int32) :=
  (f_X5_nextToken v_tape_size v_tape_token v_tape_tokenStart v_tape_tokenEnd v_tape_bytes).bind fun u1 =>
  if u1.1 = (nI 2) then
    (f_X5_tokenLength u1.2.1 u1.2.2).bind fun u3 =>
    if u3 ≤ (nI 3) then
      xloop (f_X1_readNumber_L44 v_tape_size v_tape_bytes p1 p2 u1.1 u1.2.1 u1.2.2) xN (u1.2.1, (nI 0))
    else
    some ((nI 0), v_number, u1.1, u1.2.1, u1.2.2)
  else
  some ((nI 0), v_number, u1.1, u1.2.1, u1.2.2)
set_option maxHeartbeats 4000000 in
set_option maxRecDepth 100000 in
theorem c_X1_readNumber {l : Launch} {X : xG} {h0 h1 h2 g0 : Nat} {v_number : Int32} {v_tape_size : Int32} {v_tape_token : Int32} {v_tape_tokenStart : Int32} {v_tape_tokenEnd : Int32} {v_tape_bytes : (Nat → Int32)} {p1 : Int32} {p2 : Int32} {u : Int32 × Int32 × Int32 × Int32 × Int32} (hf : f_X1_readNumber v_number v_tape_size v_tape_token v_tape_tokenStart v_tape_tokenEnd v_tape_bytes p1 p2 = some u) : Met l yX1_readNumber (xw yX1_readNumber cX1_readNumber 4 (some .boolean)) (xrm 2 41) (xPc [.ref h0, .int p1, .int p2] X [(h0, xO 1 [.ref h1, .ref g0, .int v_number]), (h1, xO 5 [.ref h2, .int v_tape_size, .int v_tape_token, .int v_tape_tokenStart, .int v_tape_tokenEnd]), (h2, xI X 250 v_tape_bytes)]) (xQw (u.1 = 0 ∨ u.1 = 1) (.returned (some (.int u.1))) X [(h0, xO 1 [.ref h1, .ref g0, .int u.2.1]), (h1, xO 5 [.ref h2, .int v_tape_size, .int u.2.2.1, .int u.2.2.2.1, .int u.2.2.2.2]), (h2, xI X 250 v_tape_bytes)] (xAs [(h0, xO 1 [.ref h1, .ref g0, .int v_number]), (h1, xO 5 [.ref h2, .int v_tape_size, .int v_tape_token, .int v_tape_tokenStart, .int v_tape_tokenEnd]), (h2, xI X 250 v_tape_bytes)])) 0 0 (xAs [(h0, xO 1 [.ref h1, .ref g0, .int v_number]), (h1, xO 5 [.ref h2, .int v_tape_size, .int v_tape_token, .int v_tape_tokenStart, .int v_tape_tokenEnd]), (h2, xI X 250 v_tape_bytes)]) := by
  refine xMetw (Qc := fun A => xQw (u.1 = 0 ∨ u.1 = 1) (.returned (some (.int u.1))) X [(h0, xO 1 [.ref h1, .ref g0, .int u.2.1]), (h1, xO 5 [.ref h2, .int v_tape_size, .int u.2.2.1, .int u.2.2.2.1, .int u.2.2.2.2]), (h2, xI X 250 v_tape_bytes)] A) (n := 2) md_X1_readNumber.1 (Nat.le_of_ble_eq_true rfl) ?_
  intro p e s m args below meth c ls A hC hr hlk hH hl
  have hl : lv_has ls 4 [(0, .ref h0), (1, .int p1), (2, .int p2)] := hl
  have hx := hC.1
  have hb := hC.2.1
  have L44 : ∀ (x44_v_tape_token : Int32) (x44_v_tape_tokenStart : Int32) (x44_v_tape_tokenEnd : Int32) (n : Nat) (s44 : Int32 × Int32), xloop (f_X1_readNumber_L44 v_tape_size v_tape_bytes p1 p2 x44_v_tape_token x44_v_tape_tokenStart x44_v_tape_tokenEnd) n s44 = some u → ∀ (H : Heap) (locs : List Loc), xH X A [(h0, xO 1 [.ref h1, .ref g0, .int s44.2]), (h1, xO 5 [.ref h2, .int v_tape_size, .int x44_v_tape_token, .int x44_v_tape_tokenStart, .int x44_v_tape_tokenEnd]), (h2, xI X 250 v_tape_bytes)] s.heap H locs → ∀ (ls : Array Slot), lv_has ls 4 [(0, .ref h0), (1, .int p1), (2, .int p2), (3, .int s44.1)] → W p l e (xrm 2 41) s m args below meth c H locs 0 0 (MQ below (xQw (u.1 = 0 ∨ u.1 = 1) (.returned (some (.int u.1))) X [(h0, xO 1 [.ref h1, .ref g0, .int u.2.1]), (h1, xO 5 [.ref h2, .int v_tape_size, .int u.2.2.1, .int u.2.2.2.1, .int u.2.2.2.2]), (h2, xI X 250 v_tape_bytes)] A) args s 0 0 A) (F0 m 44 ls []) := by
    intro x44_v_tape_token x44_v_tape_tokenStart x44_v_tape_tokenEnd n
    induction n with
    | zero => intro s44 hf; exact xloop_0 hf
    | succ n ih44 =>
      intro s44 hf H locs hH ls hl
      obtain ⟨o44, hf, ho44⟩ := xloop_s hf
      refine lv_iload_n hx hb dX1_readNumber_44 rfl (lv_at hl 3 rfl) ?_
      refine lv_aload_n hx hb dX1_readNumber_45 rfl (lv_at hl 0 rfl) ?_
      refine x_get hC fd_RX1_12 hH.1 0 rfl rfl dX1_readNumber_46 ?_
      refine x_getN hC fd_RX1_129 hH.1 1 rfl rfl dX1_readNumber_49 ?_
      refine lv_icmp_ge (tgt := 84) hx hb dX1_readNumber_52 (by decide) (fun c5 => ?_) (fun c5 => ?_)
      · have hf := xt c5 hf
        refine lv_aload_n hx hb dX1_readNumber_84 rfl (lv_at hl 0 rfl) ?_
        refine x_get hC fd_RX1_91 hH.1 0 rfl rfl dX1_readNumber_85 ?_
        refine lv_iload_n hx hb dX1_readNumber_88 rfl (lv_at hl 1 rfl) ?_
        refine lv_iload_n hx hb dX1_readNumber_89 rfl (lv_at hl 2 rfl) ?_
        obtain ⟨u6, hf6, hf⟩ := xb hf
        refine x_ran (x_runSN (rest := []) (As := [.int s44.2, .int p1, .int p2]) hC mn_RX1_139 md_X6_isWithin (c_X6_isWithin (X := X) hf6) hH [] rfl (by decide) hl.1 rfl rfl (Nat.le_of_ble_eq_true rfl) dX1_readNumber_90 ⟨Nat.le_of_ble_eq_true rfl, Nat.le_of_ble_eq_true rfl⟩ ⟨rfl, rfl⟩ ⟨Nat.le_refl _, Nat.le_refl _⟩) rfl (fun hz6 => ?_)
        have hf := xo_ret hf ho44
        exact x_retzw (f := fun u : Int32 × Int32 × Int32 × Int32 × Int32 => u.1) (wf := fun u : Int32 × Int32 × Int32 × Int32 × Int32 => [(h0, xO 1 [.ref h1, .ref g0, .int u.2.1]), (h1, xO 5 [.ref h2, .int v_tape_size, .int u.2.2.1, .int u.2.2.2.1, .int u.2.2.2.2]), (h2, xI X 250 v_tape_bytes)]) hC hr hlk hz6 hf hH rfl rfl dX1_readNumber_93
      · have hf := xe c5 hf
        refine lv_aload_n hx hb dX1_readNumber_55 rfl (lv_at hl 0 rfl) ?_
        refine lv_bipush (v := (nI 10)) hx hb dX1_readNumber_56 (by decide) ?_
        refine lv_aload_n hx hb dX1_readNumber_58 rfl (lv_at hl 0 rfl) ?_
        refine x_get hC fd_RX1_91 hH.1 0 rfl rfl dX1_readNumber_59 ?_
        refine lv_imul hx hb dX1_readNumber_62 ?_
        refine lv_aload_n hx hb dX1_readNumber_63 rfl (lv_at hl 0 rfl) ?_
        refine x_get hC fd_RX1_12 hH.1 0 rfl rfl dX1_readNumber_64 ?_
        refine lv_iload_n hx hb dX1_readNumber_67 rfl (lv_at hl 3 rfl) ?_
        obtain ⟨u7, hf7, hf⟩ := xb hf
        refine x_ran (x_runV (q0 := 0) (rest := [.int ((nI 10) * s44.2), .ref h0]) (As := [.int s44.1]) hC mw_558 md_X5_byteAt (c_X5_byteAt (X := X) hf7) hH [1, 2] rfl (by decide) rfl rfl rfl hl.1 rfl rfl (Nat.le_of_ble_eq_true rfl) dX1_readNumber_68 ⟨Nat.le_of_ble_eq_true rfl, Nat.le_of_ble_eq_true rfl⟩ ⟨rfl, rfl⟩ ⟨Nat.le_refl _, Nat.le_refl _⟩) rfl (fun hz7 => ?_)
        refine lv_iadd hx hb dX1_readNumber_71 ?_
        refine lv_bipush (v := (nI 48)) hx hb dX1_readNumber_72 (by decide) ?_
        refine lv_isub hx hb dX1_readNumber_74 ?_
        refine x_put (ws' := [(h0, xO 1 [.ref h1, .ref g0, .int ((((nI 10) * s44.2) + u7) - (nI 48))]), (h1, xO 5 [.ref h2, .int v_tape_size, .int x44_v_tape_token, .int x44_v_tape_tokenStart, .int x44_v_tape_tokenEnd]), (h2, xI X 250 v_tape_bytes)]) hC fd_RX1_91 hH 0 rfl (Nat.le_of_ble_eq_true rfl) rfl rfl dX1_readNumber_75 rfl (fun H locs hH => ?_)
        refine lv_iinc (v := s44.1 + (nI 1)) (lv' := [(3, .int (s44.1 + (nI 1))), (0, .ref h0), (1, .int p1), (2, .int p2)]) hx hb dX1_readNumber_78 hl (k := 3) rfl rfl (by decide) rfl (fun ls hl => ?_)
        refine lv_goto (tgt := 44) hx hb dX1_readNumber_81 (by decide) ?_
        have hf := xo_go hf ho44
        exact ih44 (s44.1 + (nI 1), (((nI 10) * s44.2) + u7) - (nI 48)) hf _ _ hH ls (lv_sub hl [1, 2, 3, 0] rfl)
  refine lv_aload_n hx hb dX1_readNumber_0 rfl (lv_at hl 0 rfl) ?_
  refine x_get hC fd_RX1_12 hH.1 0 rfl rfl dX1_readNumber_1 ?_
  obtain ⟨u1, hf1, hf⟩ := xb hf
  refine x_ranw (ws' := [(h0, xO 1 [.ref h1, .ref g0, .int v_number]), (h1, xO 5 [.ref h2, .int v_tape_size, .int u1.1, .int u1.2.1, .int u1.2.2]), (h2, xI X 250 v_tape_bytes)]) (x_runV (q0 := 0) (rest := []) (As := []) hC mw_469 md_X5_nextToken (c_X5_nextToken (X := X) hf1) hH [1, 2] rfl (by decide) rfl rfl rfl hl.1 rfl rfl (Nat.le_of_ble_eq_true rfl) dX1_readNumber_4 ⟨Nat.le_of_ble_eq_true rfl, Nat.le_of_ble_eq_true rfl⟩ ⟨rfl, rfl⟩ ⟨Nat.le_refl _, Nat.le_refl _⟩) hH [1, 2] rfl rfl rfl rfl rfl (fun hz1 H locs hH => ?_)
  refine lv_aload_n hx hb dX1_readNumber_7 rfl (lv_at hl 0 rfl) ?_
  refine x_get hC fd_RX1_12 hH.1 0 rfl rfl dX1_readNumber_8 ?_
  refine x_getN hC fd_RX1_35 hH.1 1 rfl rfl dX1_readNumber_11 ?_
  refine lv_iconst (v := (nI 2)) hx hb dX1_readNumber_14 (by decide) ?_
  refine lv_icmp_ne (tgt := 29) hx hb dX1_readNumber_15 (by decide) (fun c2 => ?_) (fun c2 => ?_)
  · have hf := xe c2 hf
    refine lv_iconst (v := (nI 0)) hx hb dX1_readNumber_29 (by decide) ?_
    exact x_retzw (f := fun u : Int32 × Int32 × Int32 × Int32 × Int32 => u.1) (wf := fun u : Int32 × Int32 × Int32 × Int32 × Int32 => [(h0, xO 1 [.ref h1, .ref g0, .int u.2.1]), (h1, xO 5 [.ref h2, .int v_tape_size, .int u.2.2.1, .int u.2.2.2.1, .int u.2.2.2.2]), (h2, xI X 250 v_tape_bytes)]) hC hr hlk (Or.inl rfl) hf hH rfl rfl dX1_readNumber_30
  · have hf := xt c2 hf
    refine lv_aload_n hx hb dX1_readNumber_18 rfl (lv_at hl 0 rfl) ?_
    refine x_get hC fd_RX1_12 hH.1 0 rfl rfl dX1_readNumber_19 ?_
    obtain ⟨u3, hf3, hf⟩ := xb hf
    refine x_ran (x_runV (q0 := 0) (rest := []) (As := []) hC mw_557 md_X5_tokenLength (c_X5_tokenLength (X := X) hf3) hH [1] rfl (by decide) rfl rfl rfl hl.1 rfl rfl (Nat.le_of_ble_eq_true rfl) dX1_readNumber_22 ⟨Nat.le_of_ble_eq_true rfl, Nat.le_of_ble_eq_true rfl⟩ ⟨rfl, rfl⟩ ⟨Nat.le_refl _, Nat.le_refl _⟩) rfl (fun hz3 => ?_)
    refine lv_iconst (v := (nI 3)) hx hb dX1_readNumber_25 (by decide) ?_
    refine lv_icmp_le (tgt := 31) hx hb dX1_readNumber_26 (by decide) (fun c4 => ?_) (fun c4 => ?_)
    · have hf := xt c4 hf
      refine lv_aload_n hx hb dX1_readNumber_31 rfl (lv_at hl 0 rfl) ?_
      refine lv_iconst (v := (nI 0)) hx hb dX1_readNumber_32 (by decide) ?_
      refine x_put (ws' := [(h0, xO 1 [.ref h1, .ref g0, .int (nI 0)]), (h1, xO 5 [.ref h2, .int v_tape_size, .int u1.1, .int u1.2.1, .int u1.2.2]), (h2, xI X 250 v_tape_bytes)]) hC fd_RX1_91 hH 0 rfl (Nat.le_of_ble_eq_true rfl) rfl rfl dX1_readNumber_33 rfl (fun H locs hH => ?_)
      refine lv_aload_n hx hb dX1_readNumber_36 rfl (lv_at hl 0 rfl) ?_
      refine x_get hC fd_RX1_12 hH.1 0 rfl rfl dX1_readNumber_37 ?_
      refine x_getN hC fd_RX1_126 hH.1 1 rfl rfl dX1_readNumber_40 ?_
      refine lv_istore_n (lv' := [(3, .int u1.2.1), (0, .ref h0), (1, .int p1), (2, .int p2)]) hx hb dX1_readNumber_43 rfl hl (by decide) rfl (fun ls hl => ?_)
      exact L44 u1.1 u1.2.1 u1.2.2 xN (u1.2.1, (nI 0)) hf _ _ hH ls (lv_sub hl [1, 2, 3, 0] rfl)
    · have hf := xe c4 hf
      refine lv_iconst (v := (nI 0)) hx hb dX1_readNumber_29 (by decide) ?_
      exact x_retzw (f := fun u : Int32 × Int32 × Int32 × Int32 × Int32 => u.1) (wf := fun u : Int32 × Int32 × Int32 × Int32 × Int32 => [(h0, xO 1 [.ref h1, .ref g0, .int u.2.1]), (h1, xO 5 [.ref h2, .int v_tape_size, .int u.2.2.1, .int u.2.2.2.1, .int u.2.2.2.2]), (h2, xI X 250 v_tape_bytes)]) hC hr hlk (Or.inl rfl) hf hH rfl rfl dX1_readNumber_30
def f_X2_add (v_count : Int32) (v_kinds : (Nat → Int32)) (v_tunes : (Nat → Int32)) (p1 : Int32) (p2 : Int32) : Option (Int32 × Int32 × (Nat → Int32) × (Nat → Int32)) :=
  (f_X2_write v_kinds v_tunes v_count p1 p2).bind fun u1 =>
  some ((v_count + (nI 1)) - (nI 1), v_count + (nI 1), u1.1, u1.2)
set_option maxHeartbeats 4000000 in
set_option maxRecDepth 100000 in
theorem c_X2_add {l : Launch} {X : xG} {h0 h1 h2 : Nat} {v_count : Int32} {v_kinds : (Nat → Int32)} {v_tunes : (Nat → Int32)} {p1 : Int32} {p2 : Int32} {u : Int32 × Int32 × (Nat → Int32) × (Nat → Int32)} (hf : f_X2_add v_count v_kinds v_tunes p1 p2 = some u) : Met l yX2_add (xw yX2_add cX2_add 3 (some .int)) (xrm 1 23) (xPc [.ref h0, .int p1, .int p2] X [(h0, xO 2 [.ref h1, .ref h2, .int v_count]), (h1, xI X 6 v_kinds), (h2, xI X 6 v_tunes)]) (xQw True (.returned (some (.int u.1))) X [(h0, xO 2 [.ref h1, .ref h2, .int u.2.1]), (h1, xI X 6 u.2.2.1), (h2, xI X 6 u.2.2.2)] (xAs [(h0, xO 2 [.ref h1, .ref h2, .int v_count]), (h1, xI X 6 v_kinds), (h2, xI X 6 v_tunes)])) 0 0 (xAs [(h0, xO 2 [.ref h1, .ref h2, .int v_count]), (h1, xI X 6 v_kinds), (h2, xI X 6 v_tunes)]) := by
  refine xMetw (Qc := fun A => xQw True (.returned (some (.int u.1))) X [(h0, xO 2 [.ref h1, .ref h2, .int u.2.1]), (h1, xI X 6 u.2.2.1), (h2, xI X 6 u.2.2.2)] A) (n := 2) md_X2_add.1 (Nat.le_of_ble_eq_true rfl) ?_
  intro p e s m args below meth c ls A hC hr hlk hH hl
  have hl : lv_has ls 3 [(0, .ref h0), (1, .int p1), (2, .int p2)] := hl
  have hx := hC.1
  have hb := hC.2.1
  refine lv_aload_n hx hb dX2_add_0 rfl (lv_at hl 0 rfl) ?_
  refine lv_aload_n hx hb dX2_add_1 rfl (lv_at hl 0 rfl) ?_
  refine x_get hC fd_RX2_22 hH.1 0 rfl rfl dX2_add_2 ?_
  refine lv_iload_n hx hb dX2_add_5 rfl (lv_at hl 1 rfl) ?_
  refine lv_iload_n hx hb dX2_add_6 rfl (lv_at hl 2 rfl) ?_
  obtain ⟨u1, hf1, hf⟩ := xb hf
  refine x_ranw (ws' := [(h0, xO 2 [.ref h1, .ref h2, .int v_count]), (h1, xI X 6 u1.1), (h2, xI X 6 u1.2)]) (x_runV (q0 := 0) (rest := []) (As := [.int v_count, .int p1, .int p2]) hC mw_355 md_X2_write (c_X2_write (X := X) hf1) hH [0, 1, 2] rfl (by decide) rfl rfl rfl hl.1 rfl rfl (Nat.le_of_ble_eq_true rfl) dX2_add_7 ⟨Nat.le_of_ble_eq_true rfl, Nat.le_of_ble_eq_true rfl⟩ ⟨rfl, rfl⟩ ⟨Nat.le_refl _, Nat.le_refl _⟩) hH [0, 1, 2] rfl rfl rfl rfl rfl (fun hz1 H locs hH => ?_)
  refine lv_aload_n hx hb dX2_add_10 rfl (lv_at hl 0 rfl) ?_
  refine lv_dup hx hb dX2_add_11 rfl ?_
  refine x_get hC fd_RX2_22 hH.1 0 rfl rfl dX2_add_12 ?_
  refine lv_iconst (v := (nI 1)) hx hb dX2_add_15 (by decide) ?_
  refine lv_iadd hx hb dX2_add_16 ?_
  refine x_put (ws' := [(h0, xO 2 [.ref h1, .ref h2, .int (v_count + (nI 1))]), (h1, xI X 6 u1.1), (h2, xI X 6 u1.2)]) hC fd_RX2_22 hH 0 rfl (Nat.le_of_ble_eq_true rfl) rfl rfl dX2_add_17 rfl (fun H locs hH => ?_)
  refine lv_aload_n hx hb dX2_add_20 rfl (lv_at hl 0 rfl) ?_
  refine x_get hC fd_RX2_22 hH.1 0 rfl rfl dX2_add_21 ?_
  refine lv_iconst (v := (nI 1)) hx hb dX2_add_24 (by decide) ?_
  refine lv_isub hx hb dX2_add_25 ?_
  exact x_retiw (φ := fun _ => True) (f := fun u : Int32 × Int32 × (Nat → Int32) × (Nat → Int32) => u.1) (wf := fun u : Int32 × Int32 × (Nat → Int32) × (Nat → Int32) => [(h0, xO 2 [.ref h1, .ref h2, .int u.2.1]), (h1, xI X 6 u.2.2.1), (h2, xI X 6 u.2.2.2)]) hC hr hlk trivial hf hH rfl rfl dX2_add_26
def f_X1_readLaw (v_number : Int32) (v_draft_laws_count : Int32) (v_draft_laws_kinds : (Nat → Int32)) (v_draft_laws_tunes : (Nat → Int32)) (v_tape_size : Int32) (v_tape_token : Int32) (v_tape_tokenStart : Int32) (v_tape_tokenEnd : Int32) (v_tape_bytes : (Nat → Int32)) : Option (Int32 × Int32 × Int32 × (Nat → Int32) × (Nat → Int32) × Int32 × Int32 × Int32) :=
  (f_X2_hasRoom v_draft_laws_count).bind fun u1 =>
  if u1 = (nI 0) then
    some ((nI 0), v_number, v_draft_laws_count, v_draft_laws_kinds, v_draft_laws_tunes, v_tape_token, v_tape_tokenStart, v_tape_tokenEnd)
  else
  (f_X1_readNumber v_number v_tape_size v_tape_token v_tape_tokenStart v_tape_tokenEnd v_tape_bytes (nI 0) (nI 5)).bind fun u3 =>
  if u3.1 = (nI 0) then
    some ((nI 0), u3.2.1, v_draft_laws_count, v_draft_laws_kinds, v_draft_laws_tunes, u3.2.2.1, u3.2.2.2.1, u3.2.2.2.2)
  else
  (f_X1_readNumber u3.2.1 v_tape_size u3.2.2.1 u3.2.2.2.1 u3.2.2.2.2 v_tape_bytes (nI 0) (nI 9)).bind fun u5 =>
  if u5.1 = (nI 0) then
    some ((nI 0), u5.2.1, v_draft_laws_count, v_draft_laws_kinds, v_draft_laws_tunes, u5.2.2.1, u5.2.2.2.1, u5.2.2.2.2)
  else
  (f_X2_add v_draft_laws_count v_draft_laws_kinds v_draft_laws_tunes u3.2.1 u5.2.1).bind fun u7 =>
  some ((nI 1), u5.2.1, u7.2.1, u7.2.2.1, u7.2.2.2, u5.2.2.1, u5.2.2.2.1, u5.2.2.2.2)
set_option maxHeartbeats 4000000 in
set_option maxRecDepth 100000 in
theorem c_X1_readLaw {l : Launch} {X : xG} {h0 h1 h2 h3 h4 h5 h6 g0 : Nat} {v_number : Int32} {v_draft_inForce : Int32} {v_draft_depth : Int32} {v_draft_miss : Int32} {v_draft_ring : Int64} {v_draft_steps : Int32} {v_draft_seed : Int32} {v_draft_laws_count : Int32} {v_draft_laws_kinds : (Nat → Int32)} {v_draft_laws_tunes : (Nat → Int32)} {v_tape_size : Int32} {v_tape_token : Int32} {v_tape_tokenStart : Int32} {v_tape_tokenEnd : Int32} {v_tape_bytes : (Nat → Int32)} {u : Int32 × Int32 × Int32 × (Nat → Int32) × (Nat → Int32) × Int32 × Int32 × Int32} (hf : f_X1_readLaw v_number v_draft_laws_count v_draft_laws_kinds v_draft_laws_tunes v_tape_size v_tape_token v_tape_tokenStart v_tape_tokenEnd v_tape_bytes = some u) : Met l yX1_readLaw (xw yX1_readLaw cX1_readLaw 2 (some .boolean)) (xrm 3 64) (xPc [.ref h0] X [(h0, xO 1 [.ref h5, .ref h1, .int v_number]), (h1, xO 0 [.ref h2, .ref g0, .int v_draft_inForce, .int v_draft_depth, .int v_draft_miss, .long v_draft_ring, .int v_draft_steps, .int v_draft_seed]), (h2, xO 2 [.ref h3, .ref h4, .int v_draft_laws_count]), (h3, xI X 6 v_draft_laws_kinds), (h4, xI X 6 v_draft_laws_tunes), (h5, xO 5 [.ref h6, .int v_tape_size, .int v_tape_token, .int v_tape_tokenStart, .int v_tape_tokenEnd]), (h6, xI X 250 v_tape_bytes)]) (xQw (u.1 = 0 ∨ u.1 = 1) (.returned (some (.int u.1))) X [(h0, xO 1 [.ref h5, .ref h1, .int u.2.1]), (h1, xO 0 [.ref h2, .ref g0, .int v_draft_inForce, .int v_draft_depth, .int v_draft_miss, .long v_draft_ring, .int v_draft_steps, .int v_draft_seed]), (h2, xO 2 [.ref h3, .ref h4, .int u.2.2.1]), (h3, xI X 6 u.2.2.2.1), (h4, xI X 6 u.2.2.2.2.1), (h5, xO 5 [.ref h6, .int v_tape_size, .int u.2.2.2.2.2.1, .int u.2.2.2.2.2.2.1, .int u.2.2.2.2.2.2.2]), (h6, xI X 250 v_tape_bytes)] (xAs [(h0, xO 1 [.ref h5, .ref h1, .int v_number]), (h1, xO 0 [.ref h2, .ref g0, .int v_draft_inForce, .int v_draft_depth, .int v_draft_miss, .long v_draft_ring, .int v_draft_steps, .int v_draft_seed]), (h2, xO 2 [.ref h3, .ref h4, .int v_draft_laws_count]), (h3, xI X 6 v_draft_laws_kinds), (h4, xI X 6 v_draft_laws_tunes), (h5, xO 5 [.ref h6, .int v_tape_size, .int v_tape_token, .int v_tape_tokenStart, .int v_tape_tokenEnd]), (h6, xI X 250 v_tape_bytes)])) 0 0 (xAs [(h0, xO 1 [.ref h5, .ref h1, .int v_number]), (h1, xO 0 [.ref h2, .ref g0, .int v_draft_inForce, .int v_draft_depth, .int v_draft_miss, .long v_draft_ring, .int v_draft_steps, .int v_draft_seed]), (h2, xO 2 [.ref h3, .ref h4, .int v_draft_laws_count]), (h3, xI X 6 v_draft_laws_kinds), (h4, xI X 6 v_draft_laws_tunes), (h5, xO 5 [.ref h6, .int v_tape_size, .int v_tape_token, .int v_tape_tokenStart, .int v_tape_tokenEnd]), (h6, xI X 250 v_tape_bytes)]) := by
  refine xMetw (Qc := fun A => xQw (u.1 = 0 ∨ u.1 = 1) (.returned (some (.int u.1))) X [(h0, xO 1 [.ref h5, .ref h1, .int u.2.1]), (h1, xO 0 [.ref h2, .ref g0, .int v_draft_inForce, .int v_draft_depth, .int v_draft_miss, .long v_draft_ring, .int v_draft_steps, .int v_draft_seed]), (h2, xO 2 [.ref h3, .ref h4, .int u.2.2.1]), (h3, xI X 6 u.2.2.2.1), (h4, xI X 6 u.2.2.2.2.1), (h5, xO 5 [.ref h6, .int v_tape_size, .int u.2.2.2.2.2.1, .int u.2.2.2.2.2.2.1, .int u.2.2.2.2.2.2.2]), (h6, xI X 250 v_tape_bytes)] A) (n := 0) md_X1_readLaw.1 (Nat.le_of_ble_eq_true rfl) ?_
  intro p e s m args below meth c ls A hC hr hlk hH hl
  have hl : lv_has ls 2 [(0, .ref h0)] := hl
  have hx := hC.1
  have hb := hC.2.1
  refine lv_aload_n hx hb dX1_readLaw_0 rfl (lv_at hl 0 rfl) ?_
  refine x_get hC fd_RX1_21 hH.1 0 rfl rfl dX1_readLaw_1 ?_
  refine x_getN hC fd_RX1_78 hH.1 1 rfl rfl dX1_readLaw_4 ?_
  obtain ⟨u1, hf1, hf⟩ := xb hf
  refine x_ran (x_runV (q0 := 0) (rest := []) (As := []) hC mw_552 md_X2_hasRoom (c_X2_hasRoom (X := X) hf1) hH [2] rfl (by decide) rfl rfl rfl hl.1 rfl rfl (Nat.le_of_ble_eq_true rfl) dX1_readLaw_7 ⟨Nat.le_of_ble_eq_true rfl, Nat.le_of_ble_eq_true rfl⟩ ⟨rfl, rfl⟩ ⟨Nat.le_refl _, Nat.le_refl _⟩) rfl (fun hz1 => ?_)
  refine lv_if_eq (tgt := 22) hx hb dX1_readLaw_10 (by decide) (fun c2 => ?_) (fun c2 => ?_)
  · have hf := xt c2 hf
    refine lv_iconst (v := (nI 0)) hx hb dX1_readLaw_22 (by decide) ?_
    exact x_retzw (f := fun u : Int32 × Int32 × Int32 × (Nat → Int32) × (Nat → Int32) × Int32 × Int32 × Int32 => u.1) (wf := fun u : Int32 × Int32 × Int32 × (Nat → Int32) × (Nat → Int32) × Int32 × Int32 × Int32 => [(h0, xO 1 [.ref h5, .ref h1, .int u.2.1]), (h1, xO 0 [.ref h2, .ref g0, .int v_draft_inForce, .int v_draft_depth, .int v_draft_miss, .long v_draft_ring, .int v_draft_steps, .int v_draft_seed]), (h2, xO 2 [.ref h3, .ref h4, .int u.2.2.1]), (h3, xI X 6 u.2.2.2.1), (h4, xI X 6 u.2.2.2.2.1), (h5, xO 5 [.ref h6, .int v_tape_size, .int u.2.2.2.2.2.1, .int u.2.2.2.2.2.2.1, .int u.2.2.2.2.2.2.2]), (h6, xI X 250 v_tape_bytes)]) hC hr hlk (Or.inl rfl) hf hH rfl rfl dX1_readLaw_23
  · have hf := xe c2 hf
    refine lv_aload_n hx hb dX1_readLaw_13 rfl (lv_at hl 0 rfl) ?_
    refine lv_iconst (v := (nI 0)) hx hb dX1_readLaw_14 (by decide) ?_
    refine lv_iconst (v := (nI 5)) hx hb dX1_readLaw_15 (by decide) ?_
    obtain ⟨u3, hf3, hf⟩ := xb hf
    refine x_ranw (ws' := [(h0, xO 1 [.ref h5, .ref h1, .int u3.2.1]), (h1, xO 0 [.ref h2, .ref g0, .int v_draft_inForce, .int v_draft_depth, .int v_draft_miss, .long v_draft_ring, .int v_draft_steps, .int v_draft_seed]), (h2, xO 2 [.ref h3, .ref h4, .int v_draft_laws_count]), (h3, xI X 6 v_draft_laws_kinds), (h4, xI X 6 v_draft_laws_tunes), (h5, xO 5 [.ref h6, .int v_tape_size, .int u3.2.2.1, .int u3.2.2.2.1, .int u3.2.2.2.2]), (h6, xI X 250 v_tape_bytes)]) (x_runV (q0 := 0) (rest := []) (As := [.int (nI 0), .int (nI 5)]) hC mw_553 md_X1_readNumber (c_X1_readNumber (X := X) hf3) hH [0, 5, 6] rfl (by decide) rfl rfl rfl hl.1 rfl rfl (Nat.le_of_ble_eq_true rfl) dX1_readLaw_16 ⟨Nat.le_of_ble_eq_true rfl, Nat.le_of_ble_eq_true rfl⟩ ⟨rfl, rfl⟩ ⟨Nat.le_refl _, Nat.le_refl _⟩) hH [0, 5, 6] rfl rfl rfl rfl rfl (fun hz3 H locs hH => ?_)
    refine lv_if_ne (tgt := 24) hx hb dX1_readLaw_19 (by decide) (fun c4 => ?_) (fun c4 => ?_)
    · have hf := xe c4 hf
      refine lv_aload_n hx hb dX1_readLaw_24 rfl (lv_at hl 0 rfl) ?_
      refine x_get hC fd_RX1_91 hH.1 0 rfl rfl dX1_readLaw_25 ?_
      refine lv_istore_n (lv' := [(1, .int u3.2.1), (0, .ref h0)]) hx hb dX1_readLaw_28 rfl hl (by decide) rfl (fun ls hl => ?_)
      refine lv_aload_n hx hb dX1_readLaw_29 rfl (lv_at hl 1 rfl) ?_
      refine lv_iconst (v := (nI 0)) hx hb dX1_readLaw_30 (by decide) ?_
      refine lv_bipush (v := (nI 9)) hx hb dX1_readLaw_31 (by decide) ?_
      obtain ⟨u5, hf5, hf⟩ := xb hf
      refine x_ranw (ws' := [(h0, xO 1 [.ref h5, .ref h1, .int u5.2.1]), (h1, xO 0 [.ref h2, .ref g0, .int v_draft_inForce, .int v_draft_depth, .int v_draft_miss, .long v_draft_ring, .int v_draft_steps, .int v_draft_seed]), (h2, xO 2 [.ref h3, .ref h4, .int v_draft_laws_count]), (h3, xI X 6 v_draft_laws_kinds), (h4, xI X 6 v_draft_laws_tunes), (h5, xO 5 [.ref h6, .int v_tape_size, .int u5.2.2.1, .int u5.2.2.2.1, .int u5.2.2.2.2]), (h6, xI X 250 v_tape_bytes)]) (x_runV (q0 := 0) (rest := []) (As := [.int (nI 0), .int (nI 9)]) hC mw_553 md_X1_readNumber (c_X1_readNumber (X := X) hf5) hH [0, 5, 6] rfl (by decide) rfl rfl rfl hl.1 rfl rfl (Nat.le_of_ble_eq_true rfl) dX1_readLaw_33 ⟨Nat.le_of_ble_eq_true rfl, Nat.le_of_ble_eq_true rfl⟩ ⟨rfl, rfl⟩ ⟨Nat.le_refl _, Nat.le_refl _⟩) hH [0, 5, 6] rfl rfl rfl rfl rfl (fun hz5 H locs hH => ?_)
      refine lv_if_ne (tgt := 41) hx hb dX1_readLaw_36 (by decide) (fun c6 => ?_) (fun c6 => ?_)
      · have hf := xe c6 hf
        refine lv_aload_n hx hb dX1_readLaw_41 rfl (lv_at hl 1 rfl) ?_
        refine x_get hC fd_RX1_21 hH.1 0 rfl rfl dX1_readLaw_42 ?_
        refine x_getN hC fd_RX1_78 hH.1 1 rfl rfl dX1_readLaw_45 ?_
        refine lv_iload_n hx hb dX1_readLaw_48 rfl (lv_at hl 0 rfl) ?_
        refine lv_aload_n hx hb dX1_readLaw_49 rfl (lv_at hl 1 rfl) ?_
        refine x_get hC fd_RX1_91 hH.1 0 rfl rfl dX1_readLaw_50 ?_
        obtain ⟨u7, hf7, hf⟩ := xb hf
        refine x_ranw (ws' := [(h0, xO 1 [.ref h5, .ref h1, .int u5.2.1]), (h1, xO 0 [.ref h2, .ref g0, .int v_draft_inForce, .int v_draft_depth, .int v_draft_miss, .long v_draft_ring, .int v_draft_steps, .int v_draft_seed]), (h2, xO 2 [.ref h3, .ref h4, .int u7.2.1]), (h3, xI X 6 u7.2.2.1), (h4, xI X 6 u7.2.2.2), (h5, xO 5 [.ref h6, .int v_tape_size, .int u5.2.2.1, .int u5.2.2.2.1, .int u5.2.2.2.2]), (h6, xI X 250 v_tape_bytes)]) (x_runV (q0 := 0) (rest := []) (As := [.int u3.2.1, .int u5.2.1]) hC mw_559 md_X2_add (c_X2_add (X := X) hf7) hH [2, 3, 4] rfl (by decide) rfl rfl rfl hl.1 rfl rfl (Nat.le_of_ble_eq_true rfl) dX1_readLaw_53 ⟨Nat.le_of_ble_eq_true rfl, Nat.le_of_ble_eq_true rfl⟩ ⟨rfl, rfl⟩ ⟨Nat.le_refl _, Nat.le_refl _⟩) hH [2, 3, 4] rfl rfl rfl rfl rfl (fun hz7 H locs hH => ?_)
        refine lv_pop hx hb dX1_readLaw_56 rfl ?_
        refine lv_iconst (v := (nI 1)) hx hb dX1_readLaw_57 (by decide) ?_
        exact x_retzw (f := fun u : Int32 × Int32 × Int32 × (Nat → Int32) × (Nat → Int32) × Int32 × Int32 × Int32 => u.1) (wf := fun u : Int32 × Int32 × Int32 × (Nat → Int32) × (Nat → Int32) × Int32 × Int32 × Int32 => [(h0, xO 1 [.ref h5, .ref h1, .int u.2.1]), (h1, xO 0 [.ref h2, .ref g0, .int v_draft_inForce, .int v_draft_depth, .int v_draft_miss, .long v_draft_ring, .int v_draft_steps, .int v_draft_seed]), (h2, xO 2 [.ref h3, .ref h4, .int u.2.2.1]), (h3, xI X 6 u.2.2.2.1), (h4, xI X 6 u.2.2.2.2.1), (h5, xO 5 [.ref h6, .int v_tape_size, .int u.2.2.2.2.2.1, .int u.2.2.2.2.2.2.1, .int u.2.2.2.2.2.2.2]), (h6, xI X 250 v_tape_bytes)]) hC hr hlk (Or.inr rfl) hf hH rfl rfl dX1_readLaw_58
      · have hf := xt c6 hf
        refine lv_iconst (v := (nI 0)) hx hb dX1_readLaw_39 (by decide) ?_
        exact x_retzw (f := fun u : Int32 × Int32 × Int32 × (Nat → Int32) × (Nat → Int32) × Int32 × Int32 × Int32 => u.1) (wf := fun u : Int32 × Int32 × Int32 × (Nat → Int32) × (Nat → Int32) × Int32 × Int32 × Int32 => [(h0, xO 1 [.ref h5, .ref h1, .int u.2.1]), (h1, xO 0 [.ref h2, .ref g0, .int v_draft_inForce, .int v_draft_depth, .int v_draft_miss, .long v_draft_ring, .int v_draft_steps, .int v_draft_seed]), (h2, xO 2 [.ref h3, .ref h4, .int u.2.2.1]), (h3, xI X 6 u.2.2.2.1), (h4, xI X 6 u.2.2.2.2.1), (h5, xO 5 [.ref h6, .int v_tape_size, .int u.2.2.2.2.2.1, .int u.2.2.2.2.2.2.1, .int u.2.2.2.2.2.2.2]), (h6, xI X 250 v_tape_bytes)]) hC hr hlk (Or.inl rfl) hf hH rfl rfl dX1_readLaw_40
    · have hf := xt c4 hf
      refine lv_iconst (v := (nI 0)) hx hb dX1_readLaw_22 (by decide) ?_
      exact x_retzw (f := fun u : Int32 × Int32 × Int32 × (Nat → Int32) × (Nat → Int32) × Int32 × Int32 × Int32 => u.1) (wf := fun u : Int32 × Int32 × Int32 × (Nat → Int32) × (Nat → Int32) × Int32 × Int32 × Int32 => [(h0, xO 1 [.ref h5, .ref h1, .int u.2.1]), (h1, xO 0 [.ref h2, .ref g0, .int v_draft_inForce, .int v_draft_depth, .int v_draft_miss, .long v_draft_ring, .int v_draft_steps, .int v_draft_seed]), (h2, xO 2 [.ref h3, .ref h4, .int u.2.2.1]), (h3, xI X 6 u.2.2.2.1), (h4, xI X 6 u.2.2.2.2.1), (h5, xO 5 [.ref h6, .int v_tape_size, .int u.2.2.2.2.2.1, .int u.2.2.2.2.2.2.1, .int u.2.2.2.2.2.2.2]), (h6, xI X 250 v_tape_bytes)]) hC hr hlk (Or.inl rfl) hf hH rfl rfl dX1_readLaw_23
def f_X1_readUse (v_number : Int32) (v_draft_inForce : Int32) (v_draft_laws_count : Int32) (v_tape_size : Int32) (v_tape_token : Int32) (v_tape_tokenStart : Int32) (v_tape_tokenEnd : Int32) (v_tape_bytes : (Nat → Int32)) : Option (Int32 × Int32 × Int32 × Int32 × Int32 × Int32) :=
  (f_X1_readNumber v_number v_tape_size v_tape_token v_tape_tokenStart v_tape_tokenEnd v_tape_bytes (nI 0) (v_draft_laws_count - (nI 1))).bind fun u1 =>
  if u1.1 = (nI 0) then
    some ((nI 0), u1.2.1, v_draft_inForce, u1.2.2.1, u1.2.2.2.1, u1.2.2.2.2)
  else
  some ((nI 1), u1.2.1, u1.2.1, u1.2.2.1, u1.2.2.2.1, u1.2.2.2.2)
set_option maxHeartbeats 4000000 in
set_option maxRecDepth 100000 in
theorem c_X1_readUse {l : Launch} {X : xG} {h0 h1 h2 h3 h4 g0 g1 g2 : Nat} {v_number : Int32} {v_draft_inForce : Int32} {v_draft_depth : Int32} {v_draft_miss : Int32} {v_draft_ring : Int64} {v_draft_steps : Int32} {v_draft_seed : Int32} {v_draft_laws_count : Int32} {v_tape_size : Int32} {v_tape_token : Int32} {v_tape_tokenStart : Int32} {v_tape_tokenEnd : Int32} {v_tape_bytes : (Nat → Int32)} {u : Int32 × Int32 × Int32 × Int32 × Int32 × Int32} (hf : f_X1_readUse v_number v_draft_inForce v_draft_laws_count v_tape_size v_tape_token v_tape_tokenStart v_tape_tokenEnd v_tape_bytes = some u) : Met l yX1_readUse (xw yX1_readUse cX1_readUse 1 (some .boolean)) (xrm 3 64) (xPc [.ref h0] X [(h0, xO 1 [.ref h3, .ref h1, .int v_number]), (h1, xO 0 [.ref h2, .ref g0, .int v_draft_inForce, .int v_draft_depth, .int v_draft_miss, .long v_draft_ring, .int v_draft_steps, .int v_draft_seed]), (h2, xO 2 [.ref g1, .ref g2, .int v_draft_laws_count]), (h3, xO 5 [.ref h4, .int v_tape_size, .int v_tape_token, .int v_tape_tokenStart, .int v_tape_tokenEnd]), (h4, xI X 250 v_tape_bytes)]) (xQw (u.1 = 0 ∨ u.1 = 1) (.returned (some (.int u.1))) X [(h0, xO 1 [.ref h3, .ref h1, .int u.2.1]), (h1, xO 0 [.ref h2, .ref g0, .int u.2.2.1, .int v_draft_depth, .int v_draft_miss, .long v_draft_ring, .int v_draft_steps, .int v_draft_seed]), (h2, xO 2 [.ref g1, .ref g2, .int v_draft_laws_count]), (h3, xO 5 [.ref h4, .int v_tape_size, .int u.2.2.2.1, .int u.2.2.2.2.1, .int u.2.2.2.2.2]), (h4, xI X 250 v_tape_bytes)] (xAs [(h0, xO 1 [.ref h3, .ref h1, .int v_number]), (h1, xO 0 [.ref h2, .ref g0, .int v_draft_inForce, .int v_draft_depth, .int v_draft_miss, .long v_draft_ring, .int v_draft_steps, .int v_draft_seed]), (h2, xO 2 [.ref g1, .ref g2, .int v_draft_laws_count]), (h3, xO 5 [.ref h4, .int v_tape_size, .int v_tape_token, .int v_tape_tokenStart, .int v_tape_tokenEnd]), (h4, xI X 250 v_tape_bytes)])) 0 0 (xAs [(h0, xO 1 [.ref h3, .ref h1, .int v_number]), (h1, xO 0 [.ref h2, .ref g0, .int v_draft_inForce, .int v_draft_depth, .int v_draft_miss, .long v_draft_ring, .int v_draft_steps, .int v_draft_seed]), (h2, xO 2 [.ref g1, .ref g2, .int v_draft_laws_count]), (h3, xO 5 [.ref h4, .int v_tape_size, .int v_tape_token, .int v_tape_tokenStart, .int v_tape_tokenEnd]), (h4, xI X 250 v_tape_bytes)]) := by
  refine xMetw (Qc := fun A => xQw (u.1 = 0 ∨ u.1 = 1) (.returned (some (.int u.1))) X [(h0, xO 1 [.ref h3, .ref h1, .int u.2.1]), (h1, xO 0 [.ref h2, .ref g0, .int u.2.2.1, .int v_draft_depth, .int v_draft_miss, .long v_draft_ring, .int v_draft_steps, .int v_draft_seed]), (h2, xO 2 [.ref g1, .ref g2, .int v_draft_laws_count]), (h3, xO 5 [.ref h4, .int v_tape_size, .int u.2.2.2.1, .int u.2.2.2.2.1, .int u.2.2.2.2.2]), (h4, xI X 250 v_tape_bytes)] A) (n := 0) md_X1_readUse.1 (Nat.le_of_ble_eq_true rfl) ?_
  intro p e s m args below meth c ls A hC hr hlk hH hl
  have hl : lv_has ls 1 [(0, .ref h0)] := hl
  have hx := hC.1
  have hb := hC.2.1
  refine lv_aload_n hx hb dX1_readUse_0 rfl (lv_at hl 0 rfl) ?_
  refine lv_iconst (v := (nI 0)) hx hb dX1_readUse_1 (by decide) ?_
  refine lv_aload_n hx hb dX1_readUse_2 rfl (lv_at hl 0 rfl) ?_
  refine x_get hC fd_RX1_21 hH.1 0 rfl rfl dX1_readUse_3 ?_
  refine x_getN hC fd_RX1_78 hH.1 1 rfl rfl dX1_readUse_6 ?_
  refine x_getN hC fd_RX1_98 hH.1 2 rfl rfl dX1_readUse_9 ?_
  refine lv_iconst (v := (nI 1)) hx hb dX1_readUse_12 (by decide) ?_
  refine lv_isub hx hb dX1_readUse_13 ?_
  obtain ⟨u1, hf1, hf⟩ := xb hf
  refine x_ranw (ws' := [(h0, xO 1 [.ref h3, .ref h1, .int u1.2.1]), (h1, xO 0 [.ref h2, .ref g0, .int v_draft_inForce, .int v_draft_depth, .int v_draft_miss, .long v_draft_ring, .int v_draft_steps, .int v_draft_seed]), (h2, xO 2 [.ref g1, .ref g2, .int v_draft_laws_count]), (h3, xO 5 [.ref h4, .int v_tape_size, .int u1.2.2.1, .int u1.2.2.2.1, .int u1.2.2.2.2]), (h4, xI X 250 v_tape_bytes)]) (x_runV (q0 := 0) (rest := []) (As := [.int (nI 0), .int (v_draft_laws_count - (nI 1))]) hC mw_553 md_X1_readNumber (c_X1_readNumber (X := X) hf1) hH [0, 3, 4] rfl (by decide) rfl rfl rfl hl.1 rfl rfl (Nat.le_of_ble_eq_true rfl) dX1_readUse_14 ⟨Nat.le_of_ble_eq_true rfl, Nat.le_of_ble_eq_true rfl⟩ ⟨rfl, rfl⟩ ⟨Nat.le_refl _, Nat.le_refl _⟩) hH [0, 3, 4] rfl rfl rfl rfl rfl (fun hz1 H locs hH => ?_)
  refine lv_if_ne (tgt := 22) hx hb dX1_readUse_17 (by decide) (fun c2 => ?_) (fun c2 => ?_)
  · have hf := xe c2 hf
    refine lv_aload_n hx hb dX1_readUse_22 rfl (lv_at hl 0 rfl) ?_
    refine x_get hC fd_RX1_21 hH.1 0 rfl rfl dX1_readUse_23 ?_
    refine lv_aload_n hx hb dX1_readUse_26 rfl (lv_at hl 0 rfl) ?_
    refine x_get hC fd_RX1_91 hH.1 0 rfl rfl dX1_readUse_27 ?_
    refine x_putN (ws' := [(h0, xO 1 [.ref h3, .ref h1, .int u1.2.1]), (h1, xO 0 [.ref h2, .ref g0, .int u1.2.1, .int v_draft_depth, .int v_draft_miss, .long v_draft_ring, .int v_draft_steps, .int v_draft_seed]), (h2, xO 2 [.ref g1, .ref g2, .int v_draft_laws_count]), (h3, xO 5 [.ref h4, .int v_tape_size, .int u1.2.2.1, .int u1.2.2.2.1, .int u1.2.2.2.2]), (h4, xI X 250 v_tape_bytes)]) hC fd_RX1_101 hH 1 rfl (Nat.le_of_ble_eq_true rfl) rfl rfl dX1_readUse_30 rfl (fun H locs hH => ?_)
    refine lv_iconst (v := (nI 1)) hx hb dX1_readUse_33 (by decide) ?_
    exact x_retzw (f := fun u : Int32 × Int32 × Int32 × Int32 × Int32 × Int32 => u.1) (wf := fun u : Int32 × Int32 × Int32 × Int32 × Int32 × Int32 => [(h0, xO 1 [.ref h3, .ref h1, .int u.2.1]), (h1, xO 0 [.ref h2, .ref g0, .int u.2.2.1, .int v_draft_depth, .int v_draft_miss, .long v_draft_ring, .int v_draft_steps, .int v_draft_seed]), (h2, xO 2 [.ref g1, .ref g2, .int v_draft_laws_count]), (h3, xO 5 [.ref h4, .int v_tape_size, .int u.2.2.2.1, .int u.2.2.2.2.1, .int u.2.2.2.2.2]), (h4, xI X 250 v_tape_bytes)]) hC hr hlk (Or.inr rfl) hf hH rfl rfl dX1_readUse_34
  · have hf := xt c2 hf
    refine lv_iconst (v := (nI 0)) hx hb dX1_readUse_20 (by decide) ?_
    exact x_retzw (f := fun u : Int32 × Int32 × Int32 × Int32 × Int32 × Int32 => u.1) (wf := fun u : Int32 × Int32 × Int32 × Int32 × Int32 × Int32 => [(h0, xO 1 [.ref h3, .ref h1, .int u.2.1]), (h1, xO 0 [.ref h2, .ref g0, .int u.2.2.1, .int v_draft_depth, .int v_draft_miss, .long v_draft_ring, .int v_draft_steps, .int v_draft_seed]), (h2, xO 2 [.ref g1, .ref g2, .int v_draft_laws_count]), (h3, xO 5 [.ref h4, .int v_tape_size, .int u.2.2.2.1, .int u.2.2.2.2.1, .int u.2.2.2.2.2]), (h4, xI X 250 v_tape_bytes)]) hC hr hlk (Or.inl rfl) hf hH rfl rfl dX1_readUse_21
def f_X1_readDepth (v_number : Int32) (v_draft_depth : Int32) (v_tape_size : Int32) (v_tape_token : Int32) (v_tape_tokenStart : Int32) (v_tape_tokenEnd : Int32) (v_tape_bytes : (Nat → Int32)) : Option (Int32 × Int32 × Int32 × Int32 × Int32 × Int32) :=
  (f_X1_readNumber v_number v_tape_size v_tape_token v_tape_tokenStart v_tape_tokenEnd v_tape_bytes (nI 0) (nI 9)).bind fun u1 =>
  if u1.1 = (nI 0) then
    some ((nI 0), u1.2.1, v_draft_depth, u1.2.2.1, u1.2.2.2.1, u1.2.2.2.2)
  else
  some ((nI 1), u1.2.1, u1.2.1, u1.2.2.1, u1.2.2.2.1, u1.2.2.2.2)
set_option maxHeartbeats 4000000 in
set_option maxRecDepth 100000 in
theorem c_X1_readDepth {l : Launch} {X : xG} {h0 h1 h2 h3 g0 g1 : Nat} {v_number : Int32} {v_draft_inForce : Int32} {v_draft_depth : Int32} {v_draft_miss : Int32} {v_draft_ring : Int64} {v_draft_steps : Int32} {v_draft_seed : Int32} {v_tape_size : Int32} {v_tape_token : Int32} {v_tape_tokenStart : Int32} {v_tape_tokenEnd : Int32} {v_tape_bytes : (Nat → Int32)} {u : Int32 × Int32 × Int32 × Int32 × Int32 × Int32} (hf : f_X1_readDepth v_number v_draft_depth v_tape_size v_tape_token v_tape_tokenStart v_tape_tokenEnd v_tape_bytes = some u) : Met l yX1_readDepth (xw yX1_readDepth cX1_readDepth 1 (some .boolean)) (xrm 3 64) (xPc [.ref h0] X [(h0, xO 1 [.ref h2, .ref h1, .int v_number]), (h1, xO 0 [.ref g0, .ref g1, .int v_draft_inForce, .int v_draft_depth, .int v_draft_miss, .long v_draft_ring, .int v_draft_steps, .int v_draft_seed]), (h2, xO 5 [.ref h3, .int v_tape_size, .int v_tape_token, .int v_tape_tokenStart, .int v_tape_tokenEnd]), (h3, xI X 250 v_tape_bytes)]) (xQw (u.1 = 0 ∨ u.1 = 1) (.returned (some (.int u.1))) X [(h0, xO 1 [.ref h2, .ref h1, .int u.2.1]), (h1, xO 0 [.ref g0, .ref g1, .int v_draft_inForce, .int u.2.2.1, .int v_draft_miss, .long v_draft_ring, .int v_draft_steps, .int v_draft_seed]), (h2, xO 5 [.ref h3, .int v_tape_size, .int u.2.2.2.1, .int u.2.2.2.2.1, .int u.2.2.2.2.2]), (h3, xI X 250 v_tape_bytes)] (xAs [(h0, xO 1 [.ref h2, .ref h1, .int v_number]), (h1, xO 0 [.ref g0, .ref g1, .int v_draft_inForce, .int v_draft_depth, .int v_draft_miss, .long v_draft_ring, .int v_draft_steps, .int v_draft_seed]), (h2, xO 5 [.ref h3, .int v_tape_size, .int v_tape_token, .int v_tape_tokenStart, .int v_tape_tokenEnd]), (h3, xI X 250 v_tape_bytes)])) 0 0 (xAs [(h0, xO 1 [.ref h2, .ref h1, .int v_number]), (h1, xO 0 [.ref g0, .ref g1, .int v_draft_inForce, .int v_draft_depth, .int v_draft_miss, .long v_draft_ring, .int v_draft_steps, .int v_draft_seed]), (h2, xO 5 [.ref h3, .int v_tape_size, .int v_tape_token, .int v_tape_tokenStart, .int v_tape_tokenEnd]), (h3, xI X 250 v_tape_bytes)]) := by
  refine xMetw (Qc := fun A => xQw (u.1 = 0 ∨ u.1 = 1) (.returned (some (.int u.1))) X [(h0, xO 1 [.ref h2, .ref h1, .int u.2.1]), (h1, xO 0 [.ref g0, .ref g1, .int v_draft_inForce, .int u.2.2.1, .int v_draft_miss, .long v_draft_ring, .int v_draft_steps, .int v_draft_seed]), (h2, xO 5 [.ref h3, .int v_tape_size, .int u.2.2.2.1, .int u.2.2.2.2.1, .int u.2.2.2.2.2]), (h3, xI X 250 v_tape_bytes)] A) (n := 0) md_X1_readDepth.1 (Nat.le_of_ble_eq_true rfl) ?_
  intro p e s m args below meth c ls A hC hr hlk hH hl
  have hl : lv_has ls 1 [(0, .ref h0)] := hl
  have hx := hC.1
  have hb := hC.2.1
  refine lv_aload_n hx hb dX1_readDepth_0 rfl (lv_at hl 0 rfl) ?_
  refine lv_iconst (v := (nI 0)) hx hb dX1_readDepth_1 (by decide) ?_
  refine lv_bipush (v := (nI 9)) hx hb dX1_readDepth_2 (by decide) ?_
  obtain ⟨u1, hf1, hf⟩ := xb hf
  refine x_ranw (ws' := [(h0, xO 1 [.ref h2, .ref h1, .int u1.2.1]), (h1, xO 0 [.ref g0, .ref g1, .int v_draft_inForce, .int v_draft_depth, .int v_draft_miss, .long v_draft_ring, .int v_draft_steps, .int v_draft_seed]), (h2, xO 5 [.ref h3, .int v_tape_size, .int u1.2.2.1, .int u1.2.2.2.1, .int u1.2.2.2.2]), (h3, xI X 250 v_tape_bytes)]) (x_runV (q0 := 0) (rest := []) (As := [.int (nI 0), .int (nI 9)]) hC mw_553 md_X1_readNumber (c_X1_readNumber (X := X) hf1) hH [0, 2, 3] rfl (by decide) rfl rfl rfl hl.1 rfl rfl (Nat.le_of_ble_eq_true rfl) dX1_readDepth_4 ⟨Nat.le_of_ble_eq_true rfl, Nat.le_of_ble_eq_true rfl⟩ ⟨rfl, rfl⟩ ⟨Nat.le_refl _, Nat.le_refl _⟩) hH [0, 2, 3] rfl rfl rfl rfl rfl (fun hz1 H locs hH => ?_)
  refine lv_if_ne (tgt := 12) hx hb dX1_readDepth_7 (by decide) (fun c2 => ?_) (fun c2 => ?_)
  · have hf := xe c2 hf
    refine lv_aload_n hx hb dX1_readDepth_12 rfl (lv_at hl 0 rfl) ?_
    refine x_get hC fd_RX1_21 hH.1 0 rfl rfl dX1_readDepth_13 ?_
    refine lv_aload_n hx hb dX1_readDepth_16 rfl (lv_at hl 0 rfl) ?_
    refine x_get hC fd_RX1_91 hH.1 0 rfl rfl dX1_readDepth_17 ?_
    refine x_putN (ws' := [(h0, xO 1 [.ref h2, .ref h1, .int u1.2.1]), (h1, xO 0 [.ref g0, .ref g1, .int v_draft_inForce, .int u1.2.1, .int v_draft_miss, .long v_draft_ring, .int v_draft_steps, .int v_draft_seed]), (h2, xO 5 [.ref h3, .int v_tape_size, .int u1.2.2.1, .int u1.2.2.2.1, .int u1.2.2.2.2]), (h3, xI X 250 v_tape_bytes)]) hC fd_RX1_104 hH 1 rfl (Nat.le_of_ble_eq_true rfl) rfl rfl dX1_readDepth_20 rfl (fun H locs hH => ?_)
    refine lv_iconst (v := (nI 1)) hx hb dX1_readDepth_23 (by decide) ?_
    exact x_retzw (f := fun u : Int32 × Int32 × Int32 × Int32 × Int32 × Int32 => u.1) (wf := fun u : Int32 × Int32 × Int32 × Int32 × Int32 × Int32 => [(h0, xO 1 [.ref h2, .ref h1, .int u.2.1]), (h1, xO 0 [.ref g0, .ref g1, .int v_draft_inForce, .int u.2.2.1, .int v_draft_miss, .long v_draft_ring, .int v_draft_steps, .int v_draft_seed]), (h2, xO 5 [.ref h3, .int v_tape_size, .int u.2.2.2.1, .int u.2.2.2.2.1, .int u.2.2.2.2.2]), (h3, xI X 250 v_tape_bytes)]) hC hr hlk (Or.inr rfl) hf hH rfl rfl dX1_readDepth_24
  · have hf := xt c2 hf
    refine lv_iconst (v := (nI 0)) hx hb dX1_readDepth_10 (by decide) ?_
    exact x_retzw (f := fun u : Int32 × Int32 × Int32 × Int32 × Int32 × Int32 => u.1) (wf := fun u : Int32 × Int32 × Int32 × Int32 × Int32 × Int32 => [(h0, xO 1 [.ref h2, .ref h1, .int u.2.1]), (h1, xO 0 [.ref g0, .ref g1, .int v_draft_inForce, .int u.2.2.1, .int v_draft_miss, .long v_draft_ring, .int v_draft_steps, .int v_draft_seed]), (h2, xO 5 [.ref h3, .int v_tape_size, .int u.2.2.2.1, .int u.2.2.2.2.1, .int u.2.2.2.2.2]), (h3, xI X 250 v_tape_bytes)]) hC hr hlk (Or.inl rfl) hf hH rfl rfl dX1_readDepth_11
def f_X1_readMiss (v_number : Int32) (v_draft_miss : Int32) (v_tape_size : Int32) (v_tape_token : Int32) (v_tape_tokenStart : Int32) (v_tape_tokenEnd : Int32) (v_tape_bytes : (Nat → Int32)) : Option (Int32 × Int32 × Int32 × Int32 × Int32 × Int32) :=
  (f_X1_readNumber v_number v_tape_size v_tape_token v_tape_tokenStart v_tape_tokenEnd v_tape_bytes (nI 0) (nI 100)).bind fun u1 =>
  if u1.1 = (nI 0) then
    some ((nI 0), u1.2.1, v_draft_miss, u1.2.2.1, u1.2.2.2.1, u1.2.2.2.2)
  else
  some ((nI 1), u1.2.1, u1.2.1, u1.2.2.1, u1.2.2.2.1, u1.2.2.2.2)
set_option maxHeartbeats 4000000 in
set_option maxRecDepth 100000 in
theorem c_X1_readMiss {l : Launch} {X : xG} {h0 h1 h2 h3 g0 g1 : Nat} {v_number : Int32} {v_draft_inForce : Int32} {v_draft_depth : Int32} {v_draft_miss : Int32} {v_draft_ring : Int64} {v_draft_steps : Int32} {v_draft_seed : Int32} {v_tape_size : Int32} {v_tape_token : Int32} {v_tape_tokenStart : Int32} {v_tape_tokenEnd : Int32} {v_tape_bytes : (Nat → Int32)} {u : Int32 × Int32 × Int32 × Int32 × Int32 × Int32} (hf : f_X1_readMiss v_number v_draft_miss v_tape_size v_tape_token v_tape_tokenStart v_tape_tokenEnd v_tape_bytes = some u) : Met l yX1_readMiss (xw yX1_readMiss cX1_readMiss 1 (some .boolean)) (xrm 3 64) (xPc [.ref h0] X [(h0, xO 1 [.ref h2, .ref h1, .int v_number]), (h1, xO 0 [.ref g0, .ref g1, .int v_draft_inForce, .int v_draft_depth, .int v_draft_miss, .long v_draft_ring, .int v_draft_steps, .int v_draft_seed]), (h2, xO 5 [.ref h3, .int v_tape_size, .int v_tape_token, .int v_tape_tokenStart, .int v_tape_tokenEnd]), (h3, xI X 250 v_tape_bytes)]) (xQw (u.1 = 0 ∨ u.1 = 1) (.returned (some (.int u.1))) X [(h0, xO 1 [.ref h2, .ref h1, .int u.2.1]), (h1, xO 0 [.ref g0, .ref g1, .int v_draft_inForce, .int v_draft_depth, .int u.2.2.1, .long v_draft_ring, .int v_draft_steps, .int v_draft_seed]), (h2, xO 5 [.ref h3, .int v_tape_size, .int u.2.2.2.1, .int u.2.2.2.2.1, .int u.2.2.2.2.2]), (h3, xI X 250 v_tape_bytes)] (xAs [(h0, xO 1 [.ref h2, .ref h1, .int v_number]), (h1, xO 0 [.ref g0, .ref g1, .int v_draft_inForce, .int v_draft_depth, .int v_draft_miss, .long v_draft_ring, .int v_draft_steps, .int v_draft_seed]), (h2, xO 5 [.ref h3, .int v_tape_size, .int v_tape_token, .int v_tape_tokenStart, .int v_tape_tokenEnd]), (h3, xI X 250 v_tape_bytes)])) 0 0 (xAs [(h0, xO 1 [.ref h2, .ref h1, .int v_number]), (h1, xO 0 [.ref g0, .ref g1, .int v_draft_inForce, .int v_draft_depth, .int v_draft_miss, .long v_draft_ring, .int v_draft_steps, .int v_draft_seed]), (h2, xO 5 [.ref h3, .int v_tape_size, .int v_tape_token, .int v_tape_tokenStart, .int v_tape_tokenEnd]), (h3, xI X 250 v_tape_bytes)]) := by
  refine xMetw (Qc := fun A => xQw (u.1 = 0 ∨ u.1 = 1) (.returned (some (.int u.1))) X [(h0, xO 1 [.ref h2, .ref h1, .int u.2.1]), (h1, xO 0 [.ref g0, .ref g1, .int v_draft_inForce, .int v_draft_depth, .int u.2.2.1, .long v_draft_ring, .int v_draft_steps, .int v_draft_seed]), (h2, xO 5 [.ref h3, .int v_tape_size, .int u.2.2.2.1, .int u.2.2.2.2.1, .int u.2.2.2.2.2]), (h3, xI X 250 v_tape_bytes)] A) (n := 0) md_X1_readMiss.1 (Nat.le_of_ble_eq_true rfl) ?_
  intro p e s m args below meth c ls A hC hr hlk hH hl
  have hl : lv_has ls 1 [(0, .ref h0)] := hl
  have hx := hC.1
  have hb := hC.2.1
  refine lv_aload_n hx hb dX1_readMiss_0 rfl (lv_at hl 0 rfl) ?_
  refine lv_iconst (v := (nI 0)) hx hb dX1_readMiss_1 (by decide) ?_
  refine lv_bipush (v := (nI 100)) hx hb dX1_readMiss_2 (by decide) ?_
  obtain ⟨u1, hf1, hf⟩ := xb hf
  refine x_ranw (ws' := [(h0, xO 1 [.ref h2, .ref h1, .int u1.2.1]), (h1, xO 0 [.ref g0, .ref g1, .int v_draft_inForce, .int v_draft_depth, .int v_draft_miss, .long v_draft_ring, .int v_draft_steps, .int v_draft_seed]), (h2, xO 5 [.ref h3, .int v_tape_size, .int u1.2.2.1, .int u1.2.2.2.1, .int u1.2.2.2.2]), (h3, xI X 250 v_tape_bytes)]) (x_runV (q0 := 0) (rest := []) (As := [.int (nI 0), .int (nI 100)]) hC mw_553 md_X1_readNumber (c_X1_readNumber (X := X) hf1) hH [0, 2, 3] rfl (by decide) rfl rfl rfl hl.1 rfl rfl (Nat.le_of_ble_eq_true rfl) dX1_readMiss_4 ⟨Nat.le_of_ble_eq_true rfl, Nat.le_of_ble_eq_true rfl⟩ ⟨rfl, rfl⟩ ⟨Nat.le_refl _, Nat.le_refl _⟩) hH [0, 2, 3] rfl rfl rfl rfl rfl (fun hz1 H locs hH => ?_)
  refine lv_if_ne (tgt := 12) hx hb dX1_readMiss_7 (by decide) (fun c2 => ?_) (fun c2 => ?_)
  · have hf := xe c2 hf
    refine lv_aload_n hx hb dX1_readMiss_12 rfl (lv_at hl 0 rfl) ?_
    refine x_get hC fd_RX1_21 hH.1 0 rfl rfl dX1_readMiss_13 ?_
    refine lv_aload_n hx hb dX1_readMiss_16 rfl (lv_at hl 0 rfl) ?_
    refine x_get hC fd_RX1_91 hH.1 0 rfl rfl dX1_readMiss_17 ?_
    refine x_putN (ws' := [(h0, xO 1 [.ref h2, .ref h1, .int u1.2.1]), (h1, xO 0 [.ref g0, .ref g1, .int v_draft_inForce, .int v_draft_depth, .int u1.2.1, .long v_draft_ring, .int v_draft_steps, .int v_draft_seed]), (h2, xO 5 [.ref h3, .int v_tape_size, .int u1.2.2.1, .int u1.2.2.2.1, .int u1.2.2.2.2]), (h3, xI X 250 v_tape_bytes)]) hC fd_RX1_106 hH 1 rfl (Nat.le_of_ble_eq_true rfl) rfl rfl dX1_readMiss_20 rfl (fun H locs hH => ?_)
    refine lv_iconst (v := (nI 1)) hx hb dX1_readMiss_23 (by decide) ?_
    exact x_retzw (f := fun u : Int32 × Int32 × Int32 × Int32 × Int32 × Int32 => u.1) (wf := fun u : Int32 × Int32 × Int32 × Int32 × Int32 × Int32 => [(h0, xO 1 [.ref h2, .ref h1, .int u.2.1]), (h1, xO 0 [.ref g0, .ref g1, .int v_draft_inForce, .int v_draft_depth, .int u.2.2.1, .long v_draft_ring, .int v_draft_steps, .int v_draft_seed]), (h2, xO 5 [.ref h3, .int v_tape_size, .int u.2.2.2.1, .int u.2.2.2.2.1, .int u.2.2.2.2.2]), (h3, xI X 250 v_tape_bytes)]) hC hr hlk (Or.inr rfl) hf hH rfl rfl dX1_readMiss_24
  · have hf := xt c2 hf
    refine lv_iconst (v := (nI 0)) hx hb dX1_readMiss_10 (by decide) ?_
    exact x_retzw (f := fun u : Int32 × Int32 × Int32 × Int32 × Int32 × Int32 => u.1) (wf := fun u : Int32 × Int32 × Int32 × Int32 × Int32 × Int32 => [(h0, xO 1 [.ref h2, .ref h1, .int u.2.1]), (h1, xO 0 [.ref g0, .ref g1, .int v_draft_inForce, .int v_draft_depth, .int u.2.2.1, .long v_draft_ring, .int v_draft_steps, .int v_draft_seed]), (h2, xO 5 [.ref h3, .int v_tape_size, .int u.2.2.2.1, .int u.2.2.2.2.1, .int u.2.2.2.2.2]), (h3, xI X 250 v_tape_bytes)]) hC hr hlk (Or.inl rfl) hf hH rfl rfl dX1_readMiss_11
def f_X1_readSteps_J94 (s60 : Int32 × Int64 × Int32) (j94_2 : Int32) : Option ((Int32 × Int64 × Int32 × Int32 × Int32 × Int32) ⊕ (Int32 × Int64 × Int32)) :=
  if j94_2 = (nI 115) then
    (f_X0_addStep s60.2.1 s60.2.2 (nI 1)).bind fun u12 =>
    some (.inr (s60.1 + (nI 1), u12.1, u12.2))
  else
  (f_X0_addStep s60.2.1 s60.2.2 (nI 0)).bind fun u11 =>
  some (.inr (s60.1 + (nI 1), u11.1, u11.2))
def f_X1_readSteps_L60 (v_tape_size : Int32) (v_tape_bytes : (Nat → Int32)) (x60_v_tape_token : Int32) (x60_v_tape_tokenStart : Int32) (x60_v_tape_tokenEnd : Int32) (s60 : Int32 × Int64 × Int32) : Option ((Int32 × Int64 × Int32 × Int32 × Int32 × Int32) ⊕ (Int32 × Int64 × Int32)) :=
  if x60_v_tape_tokenEnd ≤ s60.1 then
    some (.inl ((nI 1), s60.2.1, s60.2.2, x60_v_tape_token, x60_v_tape_tokenStart, x60_v_tape_tokenEnd))
  else
  (f_X5_byteAt v_tape_size v_tape_bytes s60.1).bind fun u8 =>
  if u8 = (nI 115) then
    f_X1_readSteps_J94 s60 u8
  else
  if u8 = (nI 103) then
    f_X1_readSteps_J94 s60 u8
  else
  some (.inl ((nI 0), s60.2.1, s60.2.2, x60_v_tape_token, x60_v_tape_tokenStart, x60_v_tape_tokenEnd))
def f_X1_readSteps (v_draft_ring : Int64) (v_draft_steps : Int32) (v_tape_size : Int32) (v_tape_token : Int32) (v_tape_tokenStart : Int32) (v_tape_tokenEnd : Int32) (v_tape_bytes : (Nat → Int32)) : Option (Int32 × Int64 × Int32 × Int32 × Int32 × Int32) :=
  (f_X0_hasRoom v_draft_steps).bind fun u1 =>
  if u1 = (nI 0) then
    some ((nI 0), v_draft_ring, v_draft_steps, v_tape_token, v_tape_tokenStart, v_tape_tokenEnd)
  else
  (f_X5_nextToken v_tape_size v_tape_token v_tape_tokenStart v_tape_tokenEnd v_tape_bytes).bind fun u3 =>
  if u3.1 = (nI 1) then
    (f_X5_tokenLength u3.2.1 u3.2.2).bind fun u5 =>
    if u5 ≤ ((nI 40) - v_draft_steps) then
      xloop (f_X1_readSteps_L60 v_tape_size v_tape_bytes u3.1 u3.2.1 u3.2.2) xN (u3.2.1, v_draft_ring, v_draft_steps)
    else
    some ((nI 0), v_draft_ring, v_draft_steps, u3.1, u3.2.1, u3.2.2)
  else
  some ((nI 0), v_draft_ring, v_draft_steps, u3.1, u3.2.1, u3.2.2)
set_option maxHeartbeats 4000000 in
set_option maxRecDepth 100000 in
theorem c_X1_readSteps {l : Launch} {X : xG} {h0 h1 h2 h3 g0 g1 : Nat} {v_number : Int32} {v_draft_inForce : Int32} {v_draft_depth : Int32} {v_draft_miss : Int32} {v_draft_ring : Int64} {v_draft_steps : Int32} {v_draft_seed : Int32} {v_tape_size : Int32} {v_tape_token : Int32} {v_tape_tokenStart : Int32} {v_tape_tokenEnd : Int32} {v_tape_bytes : (Nat → Int32)} {u : Int32 × Int64 × Int32 × Int32 × Int32 × Int32} (hf : f_X1_readSteps v_draft_ring v_draft_steps v_tape_size v_tape_token v_tape_tokenStart v_tape_tokenEnd v_tape_bytes = some u) : Met l yX1_readSteps (xw yX1_readSteps cX1_readSteps 3 (some .boolean)) (xrm 2 41) (xPc [.ref h0] X [(h0, xO 1 [.ref h2, .ref h1, .int v_number]), (h1, xO 0 [.ref g0, .ref g1, .int v_draft_inForce, .int v_draft_depth, .int v_draft_miss, .long v_draft_ring, .int v_draft_steps, .int v_draft_seed]), (h2, xO 5 [.ref h3, .int v_tape_size, .int v_tape_token, .int v_tape_tokenStart, .int v_tape_tokenEnd]), (h3, xI X 250 v_tape_bytes)]) (xQw (u.1 = 0 ∨ u.1 = 1) (.returned (some (.int u.1))) X [(h0, xO 1 [.ref h2, .ref h1, .int v_number]), (h1, xO 0 [.ref g0, .ref g1, .int v_draft_inForce, .int v_draft_depth, .int v_draft_miss, .long u.2.1, .int u.2.2.1, .int v_draft_seed]), (h2, xO 5 [.ref h3, .int v_tape_size, .int u.2.2.2.1, .int u.2.2.2.2.1, .int u.2.2.2.2.2]), (h3, xI X 250 v_tape_bytes)] (xAs [(h0, xO 1 [.ref h2, .ref h1, .int v_number]), (h1, xO 0 [.ref g0, .ref g1, .int v_draft_inForce, .int v_draft_depth, .int v_draft_miss, .long v_draft_ring, .int v_draft_steps, .int v_draft_seed]), (h2, xO 5 [.ref h3, .int v_tape_size, .int v_tape_token, .int v_tape_tokenStart, .int v_tape_tokenEnd]), (h3, xI X 250 v_tape_bytes)])) 0 0 (xAs [(h0, xO 1 [.ref h2, .ref h1, .int v_number]), (h1, xO 0 [.ref g0, .ref g1, .int v_draft_inForce, .int v_draft_depth, .int v_draft_miss, .long v_draft_ring, .int v_draft_steps, .int v_draft_seed]), (h2, xO 5 [.ref h3, .int v_tape_size, .int v_tape_token, .int v_tape_tokenStart, .int v_tape_tokenEnd]), (h3, xI X 250 v_tape_bytes)]) := by
  refine xMetw (Qc := fun A => xQw (u.1 = 0 ∨ u.1 = 1) (.returned (some (.int u.1))) X [(h0, xO 1 [.ref h2, .ref h1, .int v_number]), (h1, xO 0 [.ref g0, .ref g1, .int v_draft_inForce, .int v_draft_depth, .int v_draft_miss, .long u.2.1, .int u.2.2.1, .int v_draft_seed]), (h2, xO 5 [.ref h3, .int v_tape_size, .int u.2.2.2.1, .int u.2.2.2.2.1, .int u.2.2.2.2.2]), (h3, xI X 250 v_tape_bytes)] A) (n := 0) md_X1_readSteps.1 (Nat.le_of_ble_eq_true rfl) ?_
  intro p e s m args below meth c ls A hC hr hlk hH hl
  have hl : lv_has ls 3 [(0, .ref h0)] := hl
  have hx := hC.1
  have hb := hC.2.1
  have L60 : ∀ (x60_v_tape_token : Int32) (x60_v_tape_tokenStart : Int32) (x60_v_tape_tokenEnd : Int32) (n : Nat) (s60 : Int32 × Int64 × Int32), xloop (f_X1_readSteps_L60 v_tape_size v_tape_bytes x60_v_tape_token x60_v_tape_tokenStart x60_v_tape_tokenEnd) n s60 = some u → ∀ (H : Heap) (locs : List Loc), xH X A [(h0, xO 1 [.ref h2, .ref h1, .int v_number]), (h1, xO 0 [.ref g0, .ref g1, .int v_draft_inForce, .int v_draft_depth, .int v_draft_miss, .long s60.2.1, .int s60.2.2, .int v_draft_seed]), (h2, xO 5 [.ref h3, .int v_tape_size, .int x60_v_tape_token, .int x60_v_tape_tokenStart, .int x60_v_tape_tokenEnd]), (h3, xI X 250 v_tape_bytes)] s.heap H locs → ∀ (ls : Array Slot), lv_has ls 3 [(0, .ref h0), (1, .int s60.1)] → W p l e (xrm 2 41) s m args below meth c H locs 0 0 (MQ below (xQw (u.1 = 0 ∨ u.1 = 1) (.returned (some (.int u.1))) X [(h0, xO 1 [.ref h2, .ref h1, .int v_number]), (h1, xO 0 [.ref g0, .ref g1, .int v_draft_inForce, .int v_draft_depth, .int v_draft_miss, .long u.2.1, .int u.2.2.1, .int v_draft_seed]), (h2, xO 5 [.ref h3, .int v_tape_size, .int u.2.2.2.1, .int u.2.2.2.2.1, .int u.2.2.2.2.2]), (h3, xI X 250 v_tape_bytes)] A) args s 0 0 A) (F0 m 60 ls []) := by
    intro x60_v_tape_token x60_v_tape_tokenStart x60_v_tape_tokenEnd n
    induction n with
    | zero => intro s60 hf; exact xloop_0 hf
    | succ n ih60 =>
      intro s60 hf H locs hH ls hl
      obtain ⟨o60, hf, ho60⟩ := xloop_s hf
      have J94 : ∀ (j94_2 : Int32), f_X1_readSteps_J94 s60 j94_2 = some o60 → ∀ (H : Heap) (locs : List Loc), xH X A [(h0, xO 1 [.ref h2, .ref h1, .int v_number]), (h1, xO 0 [.ref g0, .ref g1, .int v_draft_inForce, .int v_draft_depth, .int v_draft_miss, .long s60.2.1, .int s60.2.2, .int v_draft_seed]), (h2, xO 5 [.ref h3, .int v_tape_size, .int x60_v_tape_token, .int x60_v_tape_tokenStart, .int x60_v_tape_tokenEnd]), (h3, xI X 250 v_tape_bytes)] s.heap H locs → ∀ (ls : Array Slot), lv_has ls 3 [(0, .ref h0), (1, .int s60.1), (2, .int j94_2)] → W p l e (xrm 2 41) s m args below meth c H locs 0 0 (MQ below (xQw (u.1 = 0 ∨ u.1 = 1) (.returned (some (.int u.1))) X [(h0, xO 1 [.ref h2, .ref h1, .int v_number]), (h1, xO 0 [.ref g0, .ref g1, .int v_draft_inForce, .int v_draft_depth, .int v_draft_miss, .long u.2.1, .int u.2.2.1, .int v_draft_seed]), (h2, xO 5 [.ref h3, .int v_tape_size, .int u.2.2.2.1, .int u.2.2.2.2.1, .int u.2.2.2.2.2]), (h3, xI X 250 v_tape_bytes)] A) args s 0 0 A) (F0 m 94 ls []) := by
        intro j94_2 hf H locs hH ls hl
        refine lv_aload_n hx hb dX1_readSteps_94 rfl (lv_at hl 0 rfl) ?_
        refine x_get hC fd_RX1_21 hH.1 0 rfl rfl dX1_readSteps_95 ?_
        refine lv_iload_n hx hb dX1_readSteps_98 rfl (lv_at hl 2 rfl) ?_
        refine lv_bipush (v := (nI 115)) hx hb dX1_readSteps_99 (by decide) ?_
        refine lv_icmp_ne (tgt := 108) hx hb dX1_readSteps_101 (by decide) (fun c10 => ?_) (fun c10 => ?_)
        · have hf := xe c10 hf
          refine lv_iconst (v := (nI 0)) hx hb dX1_readSteps_108 (by decide) ?_
          obtain ⟨u11, hf11, hf⟩ := xb hf
          refine x_ranw (ws' := [(h0, xO 1 [.ref h2, .ref h1, .int v_number]), (h1, xO 0 [.ref g0, .ref g1, .int v_draft_inForce, .int v_draft_depth, .int v_draft_miss, .long u11.1, .int u11.2, .int v_draft_seed]), (h2, xO 5 [.ref h3, .int v_tape_size, .int x60_v_tape_token, .int x60_v_tape_tokenStart, .int x60_v_tape_tokenEnd]), (h3, xI X 250 v_tape_bytes)]) (x_runV (q0 := 0) (rest := []) (As := [.int (nI 0)]) hC mw_580 md_X0_addStep (c_X0_addStep (X := X) hf11) hH [1] rfl (by decide) rfl rfl rfl hl.1 rfl rfl (Nat.le_of_ble_eq_true rfl) dX1_readSteps_109 ⟨Nat.le_of_ble_eq_true rfl, Nat.le_of_ble_eq_true rfl⟩ ⟨rfl, rfl⟩ ⟨Nat.le_refl _, Nat.le_refl _⟩) hH [1] rfl rfl rfl rfl rfl (fun hz11 H locs hH => ?_)
          refine lv_iinc (v := s60.1 + (nI 1)) (lv' := [(1, .int (s60.1 + (nI 1))), (0, .ref h0), (2, .int j94_2)]) hx hb dX1_readSteps_112 hl (k := 1) rfl rfl (by decide) rfl (fun ls hl => ?_)
          refine lv_goto (tgt := 60) hx hb dX1_readSteps_115 (by decide) ?_
          have hf := xo_go hf ho60
          exact ih60 (s60.1 + (nI 1), u11.1, u11.2) hf _ _ hH ls (lv_sub hl [1, 0] rfl)
        · have hf := xt c10 hf
          refine lv_iconst (v := (nI 1)) hx hb dX1_readSteps_104 (by decide) ?_
          refine lv_goto (tgt := 109) hx hb dX1_readSteps_105 (by decide) ?_
          obtain ⟨u12, hf12, hf⟩ := xb hf
          refine x_ranw (ws' := [(h0, xO 1 [.ref h2, .ref h1, .int v_number]), (h1, xO 0 [.ref g0, .ref g1, .int v_draft_inForce, .int v_draft_depth, .int v_draft_miss, .long u12.1, .int u12.2, .int v_draft_seed]), (h2, xO 5 [.ref h3, .int v_tape_size, .int x60_v_tape_token, .int x60_v_tape_tokenStart, .int x60_v_tape_tokenEnd]), (h3, xI X 250 v_tape_bytes)]) (x_runV (q0 := 0) (rest := []) (As := [.int (nI 1)]) hC mw_580 md_X0_addStep (c_X0_addStep (X := X) hf12) hH [1] rfl (by decide) rfl rfl rfl hl.1 rfl rfl (Nat.le_of_ble_eq_true rfl) dX1_readSteps_109 ⟨Nat.le_of_ble_eq_true rfl, Nat.le_of_ble_eq_true rfl⟩ ⟨rfl, rfl⟩ ⟨Nat.le_refl _, Nat.le_refl _⟩) hH [1] rfl rfl rfl rfl rfl (fun hz12 H locs hH => ?_)
          refine lv_iinc (v := s60.1 + (nI 1)) (lv' := [(1, .int (s60.1 + (nI 1))), (0, .ref h0), (2, .int j94_2)]) hx hb dX1_readSteps_112 hl (k := 1) rfl rfl (by decide) rfl (fun ls hl => ?_)
          refine lv_goto (tgt := 60) hx hb dX1_readSteps_115 (by decide) ?_
          have hf := xo_go hf ho60
          exact ih60 (s60.1 + (nI 1), u12.1, u12.2) hf _ _ hH ls (lv_sub hl [1, 0] rfl)
      refine lv_iload_n hx hb dX1_readSteps_60 rfl (lv_at hl 1 rfl) ?_
      refine lv_aload_n hx hb dX1_readSteps_61 rfl (lv_at hl 0 rfl) ?_
      refine x_get hC fd_RX1_12 hH.1 0 rfl rfl dX1_readSteps_62 ?_
      refine x_getN hC fd_RX1_129 hH.1 2 rfl rfl dX1_readSteps_65 ?_
      refine lv_icmp_ge (tgt := 118) hx hb dX1_readSteps_68 (by decide) (fun c7 => ?_) (fun c7 => ?_)
      · have hf := xt c7 hf
        refine lv_iconst (v := (nI 1)) hx hb dX1_readSteps_118 (by decide) ?_
        have hf := xo_ret hf ho60
        exact x_retzw (f := fun u : Int32 × Int64 × Int32 × Int32 × Int32 × Int32 => u.1) (wf := fun u : Int32 × Int64 × Int32 × Int32 × Int32 × Int32 => [(h0, xO 1 [.ref h2, .ref h1, .int v_number]), (h1, xO 0 [.ref g0, .ref g1, .int v_draft_inForce, .int v_draft_depth, .int v_draft_miss, .long u.2.1, .int u.2.2.1, .int v_draft_seed]), (h2, xO 5 [.ref h3, .int v_tape_size, .int u.2.2.2.1, .int u.2.2.2.2.1, .int u.2.2.2.2.2]), (h3, xI X 250 v_tape_bytes)]) hC hr hlk (Or.inr rfl) hf hH rfl rfl dX1_readSteps_119
      · have hf := xe c7 hf
        refine lv_aload_n hx hb dX1_readSteps_71 rfl (lv_at hl 0 rfl) ?_
        refine x_get hC fd_RX1_12 hH.1 0 rfl rfl dX1_readSteps_72 ?_
        refine lv_iload_n hx hb dX1_readSteps_75 rfl (lv_at hl 1 rfl) ?_
        obtain ⟨u8, hf8, hf⟩ := xb hf
        refine x_ran (x_runV (q0 := 0) (rest := []) (As := [.int s60.1]) hC mw_558 md_X5_byteAt (c_X5_byteAt (X := X) hf8) hH [2, 3] rfl (by decide) rfl rfl rfl hl.1 rfl rfl (Nat.le_of_ble_eq_true rfl) dX1_readSteps_76 ⟨Nat.le_of_ble_eq_true rfl, Nat.le_of_ble_eq_true rfl⟩ ⟨rfl, rfl⟩ ⟨Nat.le_refl _, Nat.le_refl _⟩) rfl (fun hz8 => ?_)
        refine lv_istore_n (lv' := [(2, .int u8), (0, .ref h0), (1, .int s60.1)]) hx hb dX1_readSteps_79 rfl hl (by decide) rfl (fun ls hl => ?_)
        refine lv_iload_n hx hb dX1_readSteps_80 rfl (lv_at hl 0 rfl) ?_
        refine lv_bipush (v := (nI 115)) hx hb dX1_readSteps_81 (by decide) ?_
        refine lv_icmp_eq (tgt := 94) hx hb dX1_readSteps_83 (by decide) (fun c9 => ?_) (fun c9 => ?_)
        · have hf := xt c9 hf
          exact J94 u8 hf _ _ hH ls (lv_sub hl [1, 2, 0] rfl)
        · have hf := xe c9 hf
          refine lv_iload_n hx hb dX1_readSteps_86 rfl (lv_at hl 0 rfl) ?_
          refine lv_bipush (v := (nI 103)) hx hb dX1_readSteps_87 (by decide) ?_
          refine lv_icmp_eq (tgt := 94) hx hb dX1_readSteps_89 (by decide) (fun c13 => ?_) (fun c13 => ?_)
          · have hf := xt c13 hf
            exact J94 u8 hf _ _ hH ls (lv_sub hl [1, 2, 0] rfl)
          · have hf := xe c13 hf
            refine lv_iconst (v := (nI 0)) hx hb dX1_readSteps_92 (by decide) ?_
            have hf := xo_ret hf ho60
            exact x_retzw (f := fun u : Int32 × Int64 × Int32 × Int32 × Int32 × Int32 => u.1) (wf := fun u : Int32 × Int64 × Int32 × Int32 × Int32 × Int32 => [(h0, xO 1 [.ref h2, .ref h1, .int v_number]), (h1, xO 0 [.ref g0, .ref g1, .int v_draft_inForce, .int v_draft_depth, .int v_draft_miss, .long u.2.1, .int u.2.2.1, .int v_draft_seed]), (h2, xO 5 [.ref h3, .int v_tape_size, .int u.2.2.2.1, .int u.2.2.2.2.1, .int u.2.2.2.2.2]), (h3, xI X 250 v_tape_bytes)]) hC hr hlk (Or.inl rfl) hf hH rfl rfl dX1_readSteps_93
  refine lv_aload_n hx hb dX1_readSteps_0 rfl (lv_at hl 0 rfl) ?_
  refine x_get hC fd_RX1_21 hH.1 0 rfl rfl dX1_readSteps_1 ?_
  obtain ⟨u1, hf1, hf⟩ := xb hf
  refine x_ran (x_runV (q0 := 0) (rest := []) (As := []) hC mw_576 md_X0_hasRoom (c_X0_hasRoom (X := X) hf1) hH [1] rfl (by decide) rfl rfl rfl hl.1 rfl rfl (Nat.le_of_ble_eq_true rfl) dX1_readSteps_4 ⟨Nat.le_of_ble_eq_true rfl, Nat.le_of_ble_eq_true rfl⟩ ⟨rfl, rfl⟩ ⟨Nat.le_refl _, Nat.le_refl _⟩) rfl (fun hz1 => ?_)
  refine lv_if_ne (tgt := 12) hx hb dX1_readSteps_7 (by decide) (fun c2 => ?_) (fun c2 => ?_)
  · have hf := xe c2 hf
    refine lv_aload_n hx hb dX1_readSteps_12 rfl (lv_at hl 0 rfl) ?_
    refine x_get hC fd_RX1_12 hH.1 0 rfl rfl dX1_readSteps_13 ?_
    obtain ⟨u3, hf3, hf⟩ := xb hf
    refine x_ranw (ws' := [(h0, xO 1 [.ref h2, .ref h1, .int v_number]), (h1, xO 0 [.ref g0, .ref g1, .int v_draft_inForce, .int v_draft_depth, .int v_draft_miss, .long v_draft_ring, .int v_draft_steps, .int v_draft_seed]), (h2, xO 5 [.ref h3, .int v_tape_size, .int u3.1, .int u3.2.1, .int u3.2.2]), (h3, xI X 250 v_tape_bytes)]) (x_runV (q0 := 0) (rest := []) (As := []) hC mw_469 md_X5_nextToken (c_X5_nextToken (X := X) hf3) hH [2, 3] rfl (by decide) rfl rfl rfl hl.1 rfl rfl (Nat.le_of_ble_eq_true rfl) dX1_readSteps_16 ⟨Nat.le_of_ble_eq_true rfl, Nat.le_of_ble_eq_true rfl⟩ ⟨rfl, rfl⟩ ⟨Nat.le_refl _, Nat.le_refl _⟩) hH [2, 3] rfl rfl rfl rfl rfl (fun hz3 H locs hH => ?_)
    refine lv_aload_n hx hb dX1_readSteps_19 rfl (lv_at hl 0 rfl) ?_
    refine x_get hC fd_RX1_12 hH.1 0 rfl rfl dX1_readSteps_20 ?_
    refine x_getN hC fd_RX1_35 hH.1 2 rfl rfl dX1_readSteps_23 ?_
    refine lv_iconst (v := (nI 1)) hx hb dX1_readSteps_26 (by decide) ?_
    refine lv_icmp_ne (tgt := 50) hx hb dX1_readSteps_27 (by decide) (fun c4 => ?_) (fun c4 => ?_)
    · have hf := xe c4 hf
      refine lv_iconst (v := (nI 0)) hx hb dX1_readSteps_50 (by decide) ?_
      exact x_retzw (f := fun u : Int32 × Int64 × Int32 × Int32 × Int32 × Int32 => u.1) (wf := fun u : Int32 × Int64 × Int32 × Int32 × Int32 × Int32 => [(h0, xO 1 [.ref h2, .ref h1, .int v_number]), (h1, xO 0 [.ref g0, .ref g1, .int v_draft_inForce, .int v_draft_depth, .int v_draft_miss, .long u.2.1, .int u.2.2.1, .int v_draft_seed]), (h2, xO 5 [.ref h3, .int v_tape_size, .int u.2.2.2.1, .int u.2.2.2.2.1, .int u.2.2.2.2.2]), (h3, xI X 250 v_tape_bytes)]) hC hr hlk (Or.inl rfl) hf hH rfl rfl dX1_readSteps_51
    · have hf := xt c4 hf
      refine lv_aload_n hx hb dX1_readSteps_30 rfl (lv_at hl 0 rfl) ?_
      refine x_get hC fd_RX1_12 hH.1 0 rfl rfl dX1_readSteps_31 ?_
      obtain ⟨u5, hf5, hf⟩ := xb hf
      refine x_ran (x_runV (q0 := 0) (rest := []) (As := []) hC mw_557 md_X5_tokenLength (c_X5_tokenLength (X := X) hf5) hH [2] rfl (by decide) rfl rfl rfl hl.1 rfl rfl (Nat.le_of_ble_eq_true rfl) dX1_readSteps_34 ⟨Nat.le_of_ble_eq_true rfl, Nat.le_of_ble_eq_true rfl⟩ ⟨rfl, rfl⟩ ⟨Nat.le_refl _, Nat.le_refl _⟩) rfl (fun hz5 => ?_)
      refine lv_bipush (v := (nI 40)) hx hb dX1_readSteps_37 (by decide) ?_
      refine lv_aload_n hx hb dX1_readSteps_39 rfl (lv_at hl 0 rfl) ?_
      refine x_get hC fd_RX1_21 hH.1 0 rfl rfl dX1_readSteps_40 ?_
      refine x_getN hC fd_RX1_123 hH.1 1 rfl rfl dX1_readSteps_43 ?_
      refine lv_isub hx hb dX1_readSteps_46 ?_
      refine lv_icmp_le (tgt := 52) hx hb dX1_readSteps_47 (by decide) (fun c6 => ?_) (fun c6 => ?_)
      · have hf := xt c6 hf
        refine lv_aload_n hx hb dX1_readSteps_52 rfl (lv_at hl 0 rfl) ?_
        refine x_get hC fd_RX1_12 hH.1 0 rfl rfl dX1_readSteps_53 ?_
        refine x_getN hC fd_RX1_126 hH.1 2 rfl rfl dX1_readSteps_56 ?_
        refine lv_istore_n (lv' := [(1, .int u3.2.1), (0, .ref h0)]) hx hb dX1_readSteps_59 rfl hl (by decide) rfl (fun ls hl => ?_)
        exact L60 u3.1 u3.2.1 u3.2.2 xN (u3.2.1, v_draft_ring, v_draft_steps) hf _ _ hH ls (lv_sub hl [1, 0] rfl)
      · have hf := xe c6 hf
        refine lv_iconst (v := (nI 0)) hx hb dX1_readSteps_50 (by decide) ?_
        exact x_retzw (f := fun u : Int32 × Int64 × Int32 × Int32 × Int32 × Int32 => u.1) (wf := fun u : Int32 × Int64 × Int32 × Int32 × Int32 × Int32 => [(h0, xO 1 [.ref h2, .ref h1, .int v_number]), (h1, xO 0 [.ref g0, .ref g1, .int v_draft_inForce, .int v_draft_depth, .int v_draft_miss, .long u.2.1, .int u.2.2.1, .int v_draft_seed]), (h2, xO 5 [.ref h3, .int v_tape_size, .int u.2.2.2.1, .int u.2.2.2.2.1, .int u.2.2.2.2.2]), (h3, xI X 250 v_tape_bytes)]) hC hr hlk (Or.inl rfl) hf hH rfl rfl dX1_readSteps_51
  · have hf := xt c2 hf
    refine lv_iconst (v := (nI 0)) hx hb dX1_readSteps_10 (by decide) ?_
    exact x_retzw (f := fun u : Int32 × Int64 × Int32 × Int32 × Int32 × Int32 => u.1) (wf := fun u : Int32 × Int64 × Int32 × Int32 × Int32 × Int32 => [(h0, xO 1 [.ref h2, .ref h1, .int v_number]), (h1, xO 0 [.ref g0, .ref g1, .int v_draft_inForce, .int v_draft_depth, .int v_draft_miss, .long u.2.1, .int u.2.2.1, .int v_draft_seed]), (h2, xO 5 [.ref h3, .int v_tape_size, .int u.2.2.2.1, .int u.2.2.2.2.1, .int u.2.2.2.2.2]), (h3, xI X 250 v_tape_bytes)]) hC hr hlk (Or.inl rfl) hf hH rfl rfl dX1_readSteps_11
def f_X3_hasRoom (v_count : Int32) : Option (Int32) :=
  if (nI 10) ≤ v_count then
    some (nI 0)
  else
  some (nI 1)
set_option maxHeartbeats 4000000 in
set_option maxRecDepth 100000 in
theorem c_X3_hasRoom {l : Launch} {X : xG} {h0 g0 g1 : Nat} {v_count : Int32} {u : Int32} (hf : f_X3_hasRoom v_count = some u) : Met l yX3_hasRoom (xw yX3_hasRoom cX3_hasRoom 1 (some .boolean)) (xrm 0 0) (xPc [.ref h0] X [(h0, xO 3 [.ref g0, .ref g1, .int v_count])]) (xQ (u = 0 ∨ u = 1) (.returned (some (.int u)))) 0 0 xNo := by
  refine xMet (n := 0) md_X3_hasRoom.1 (Nat.le_of_ble_eq_true rfl) ?_
  intro p e s m args below meth c ls A hC hr hlk hH hl
  have hl : lv_has ls 1 [(0, .ref h0)] := hl
  have hx := hC.1
  have hb := hC.2.1
  refine lv_aload_n hx hb dX3_hasRoom_0 rfl (lv_at hl 0 rfl) ?_
  refine x_get hC fd_RX3_19 hH.1 0 rfl rfl dX3_hasRoom_1 ?_
  refine lv_bipush (v := (nI 10)) hx hb dX3_hasRoom_4 (by decide) ?_
  refine lv_icmp_ge (tgt := 13) hx hb dX3_hasRoom_6 (by decide) (fun c1 => ?_) (fun c1 => ?_)
  · have hf := xt c1 hf
    refine lv_iconst (v := (nI 0)) hx hb dX3_hasRoom_13 (by decide) ?_
    exact x_retz hC hr hlk (Or.inl rfl) hf dX3_hasRoom_14
  · have hf := xe c1 hf
    refine lv_iconst (v := (nI 1)) hx hb dX3_hasRoom_9 (by decide) ?_
    refine lv_goto (tgt := 14) hx hb dX3_hasRoom_10 (by decide) ?_
    exact x_retz hC hr hlk (Or.inr rfl) hf dX3_hasRoom_14
def f_X3_add (v_count : Int32) (v_ages : (Nat → Int32)) (p1 : Int32) : Option (Int32 × Int32 × (Nat → Int32)) :=
  (f_X3_write v_ages v_count p1).bind fun u1 =>
  some ((v_count + (nI 1)) - (nI 1), v_count + (nI 1), u1)
set_option maxHeartbeats 4000000 in
set_option maxRecDepth 100000 in
theorem c_X3_add {l : Launch} {X : xG} {h0 h1 g0 : Nat} {v_count : Int32} {v_ages : (Nat → Int32)} {p1 : Int32} {u : Int32 × Int32 × (Nat → Int32)} (hf : f_X3_add v_count v_ages p1 = some u) : Met l yX3_add (xw yX3_add cX3_add 2 (some .int)) (xrm 1 22) (xPc [.ref h0, .int p1] X [(h0, xO 3 [.ref h1, .ref g0, .int v_count]), (h1, xI X 10 v_ages)]) (xQw True (.returned (some (.int u.1))) X [(h0, xO 3 [.ref h1, .ref g0, .int u.2.1]), (h1, xI X 10 u.2.2)] (xAs [(h0, xO 3 [.ref h1, .ref g0, .int v_count]), (h1, xI X 10 v_ages)])) 0 0 (xAs [(h0, xO 3 [.ref h1, .ref g0, .int v_count]), (h1, xI X 10 v_ages)]) := by
  refine xMetw (Qc := fun A => xQw True (.returned (some (.int u.1))) X [(h0, xO 3 [.ref h1, .ref g0, .int u.2.1]), (h1, xI X 10 u.2.2)] A) (n := 1) md_X3_add.1 (Nat.le_of_ble_eq_true rfl) ?_
  intro p e s m args below meth c ls A hC hr hlk hH hl
  have hl : lv_has ls 2 [(0, .ref h0), (1, .int p1)] := hl
  have hx := hC.1
  have hb := hC.2.1
  refine lv_aload_n hx hb dX3_add_0 rfl (lv_at hl 0 rfl) ?_
  refine lv_aload_n hx hb dX3_add_1 rfl (lv_at hl 0 rfl) ?_
  refine x_get hC fd_RX3_19 hH.1 0 rfl rfl dX3_add_2 ?_
  refine lv_iload_n hx hb dX3_add_5 rfl (lv_at hl 1 rfl) ?_
  obtain ⟨u1, hf1, hf⟩ := xb hf
  refine x_ranw (ws' := [(h0, xO 3 [.ref h1, .ref g0, .int v_count]), (h1, xI X 10 u1)]) (x_runV (q0 := 0) (rest := []) (As := [.int v_count, .int p1]) hC mw_398 md_X3_write (c_X3_write (X := X) hf1) hH [0, 1] rfl (by decide) rfl rfl rfl hl.1 rfl rfl (Nat.le_of_ble_eq_true rfl) dX3_add_6 ⟨Nat.le_of_ble_eq_true rfl, Nat.le_of_ble_eq_true rfl⟩ ⟨rfl, rfl⟩ ⟨Nat.le_refl _, Nat.le_refl _⟩) hH [0, 1] rfl rfl rfl rfl rfl (fun hz1 H locs hH => ?_)
  refine lv_aload_n hx hb dX3_add_9 rfl (lv_at hl 0 rfl) ?_
  refine lv_dup hx hb dX3_add_10 rfl ?_
  refine x_get hC fd_RX3_19 hH.1 0 rfl rfl dX3_add_11 ?_
  refine lv_iconst (v := (nI 1)) hx hb dX3_add_14 (by decide) ?_
  refine lv_iadd hx hb dX3_add_15 ?_
  refine x_put (ws' := [(h0, xO 3 [.ref h1, .ref g0, .int (v_count + (nI 1))]), (h1, xI X 10 u1)]) hC fd_RX3_19 hH 0 rfl (Nat.le_of_ble_eq_true rfl) rfl rfl dX3_add_16 rfl (fun H locs hH => ?_)
  refine lv_aload_n hx hb dX3_add_19 rfl (lv_at hl 0 rfl) ?_
  refine x_get hC fd_RX3_19 hH.1 0 rfl rfl dX3_add_20 ?_
  refine lv_iconst (v := (nI 1)) hx hb dX3_add_23 (by decide) ?_
  refine lv_isub hx hb dX3_add_24 ?_
  exact x_retiw (φ := fun _ => True) (f := fun u : Int32 × Int32 × (Nat → Int32) => u.1) (wf := fun u : Int32 × Int32 × (Nat → Int32) => [(h0, xO 3 [.ref h1, .ref g0, .int u.2.1]), (h1, xI X 10 u.2.2)]) hC hr hlk trivial hf hH rfl rfl dX3_add_25
def f_X1_readPerson (v_number : Int32) (v_draft_people_count : Int32) (v_draft_people_ages : (Nat → Int32)) (v_tape_size : Int32) (v_tape_token : Int32) (v_tape_tokenStart : Int32) (v_tape_tokenEnd : Int32) (v_tape_bytes : (Nat → Int32)) : Option (Int32 × Int32 × Int32 × (Nat → Int32) × Int32 × Int32 × Int32) :=
  (f_X3_hasRoom v_draft_people_count).bind fun u1 =>
  if u1 = (nI 0) then
    some ((nI 0), v_number, v_draft_people_count, v_draft_people_ages, v_tape_token, v_tape_tokenStart, v_tape_tokenEnd)
  else
  (f_X1_readNumber v_number v_tape_size v_tape_token v_tape_tokenStart v_tape_tokenEnd v_tape_bytes (nI 1) (nI 99)).bind fun u3 =>
  if u3.1 = (nI 0) then
    some ((nI 0), u3.2.1, v_draft_people_count, v_draft_people_ages, u3.2.2.1, u3.2.2.2.1, u3.2.2.2.2)
  else
  (f_X3_add v_draft_people_count v_draft_people_ages u3.2.1).bind fun u5 =>
  some ((nI 1), u3.2.1, u5.2.1, u5.2.2, u3.2.2.1, u3.2.2.2.1, u3.2.2.2.2)
set_option maxHeartbeats 4000000 in
set_option maxRecDepth 100000 in
theorem c_X1_readPerson {l : Launch} {X : xG} {h0 h1 h2 h3 h4 h5 g0 g1 : Nat} {v_number : Int32} {v_draft_inForce : Int32} {v_draft_depth : Int32} {v_draft_miss : Int32} {v_draft_ring : Int64} {v_draft_steps : Int32} {v_draft_seed : Int32} {v_draft_people_count : Int32} {v_draft_people_ages : (Nat → Int32)} {v_tape_size : Int32} {v_tape_token : Int32} {v_tape_tokenStart : Int32} {v_tape_tokenEnd : Int32} {v_tape_bytes : (Nat → Int32)} {u : Int32 × Int32 × Int32 × (Nat → Int32) × Int32 × Int32 × Int32} (hf : f_X1_readPerson v_number v_draft_people_count v_draft_people_ages v_tape_size v_tape_token v_tape_tokenStart v_tape_tokenEnd v_tape_bytes = some u) : Met l yX1_readPerson (xw yX1_readPerson cX1_readPerson 1 (some .boolean)) (xrm 3 64) (xPc [.ref h0] X [(h0, xO 1 [.ref h4, .ref h1, .int v_number]), (h1, xO 0 [.ref g0, .ref h2, .int v_draft_inForce, .int v_draft_depth, .int v_draft_miss, .long v_draft_ring, .int v_draft_steps, .int v_draft_seed]), (h2, xO 3 [.ref h3, .ref g1, .int v_draft_people_count]), (h3, xI X 10 v_draft_people_ages), (h4, xO 5 [.ref h5, .int v_tape_size, .int v_tape_token, .int v_tape_tokenStart, .int v_tape_tokenEnd]), (h5, xI X 250 v_tape_bytes)]) (xQw (u.1 = 0 ∨ u.1 = 1) (.returned (some (.int u.1))) X [(h0, xO 1 [.ref h4, .ref h1, .int u.2.1]), (h1, xO 0 [.ref g0, .ref h2, .int v_draft_inForce, .int v_draft_depth, .int v_draft_miss, .long v_draft_ring, .int v_draft_steps, .int v_draft_seed]), (h2, xO 3 [.ref h3, .ref g1, .int u.2.2.1]), (h3, xI X 10 u.2.2.2.1), (h4, xO 5 [.ref h5, .int v_tape_size, .int u.2.2.2.2.1, .int u.2.2.2.2.2.1, .int u.2.2.2.2.2.2]), (h5, xI X 250 v_tape_bytes)] (xAs [(h0, xO 1 [.ref h4, .ref h1, .int v_number]), (h1, xO 0 [.ref g0, .ref h2, .int v_draft_inForce, .int v_draft_depth, .int v_draft_miss, .long v_draft_ring, .int v_draft_steps, .int v_draft_seed]), (h2, xO 3 [.ref h3, .ref g1, .int v_draft_people_count]), (h3, xI X 10 v_draft_people_ages), (h4, xO 5 [.ref h5, .int v_tape_size, .int v_tape_token, .int v_tape_tokenStart, .int v_tape_tokenEnd]), (h5, xI X 250 v_tape_bytes)])) 0 0 (xAs [(h0, xO 1 [.ref h4, .ref h1, .int v_number]), (h1, xO 0 [.ref g0, .ref h2, .int v_draft_inForce, .int v_draft_depth, .int v_draft_miss, .long v_draft_ring, .int v_draft_steps, .int v_draft_seed]), (h2, xO 3 [.ref h3, .ref g1, .int v_draft_people_count]), (h3, xI X 10 v_draft_people_ages), (h4, xO 5 [.ref h5, .int v_tape_size, .int v_tape_token, .int v_tape_tokenStart, .int v_tape_tokenEnd]), (h5, xI X 250 v_tape_bytes)]) := by
  refine xMetw (Qc := fun A => xQw (u.1 = 0 ∨ u.1 = 1) (.returned (some (.int u.1))) X [(h0, xO 1 [.ref h4, .ref h1, .int u.2.1]), (h1, xO 0 [.ref g0, .ref h2, .int v_draft_inForce, .int v_draft_depth, .int v_draft_miss, .long v_draft_ring, .int v_draft_steps, .int v_draft_seed]), (h2, xO 3 [.ref h3, .ref g1, .int u.2.2.1]), (h3, xI X 10 u.2.2.2.1), (h4, xO 5 [.ref h5, .int v_tape_size, .int u.2.2.2.2.1, .int u.2.2.2.2.2.1, .int u.2.2.2.2.2.2]), (h5, xI X 250 v_tape_bytes)] A) (n := 0) md_X1_readPerson.1 (Nat.le_of_ble_eq_true rfl) ?_
  intro p e s m args below meth c ls A hC hr hlk hH hl
  have hl : lv_has ls 1 [(0, .ref h0)] := hl
  have hx := hC.1
  have hb := hC.2.1
  refine lv_aload_n hx hb dX1_readPerson_0 rfl (lv_at hl 0 rfl) ?_
  refine x_get hC fd_RX1_21 hH.1 0 rfl rfl dX1_readPerson_1 ?_
  refine x_getN hC fd_RX1_108 hH.1 1 rfl rfl dX1_readPerson_4 ?_
  obtain ⟨u1, hf1, hf⟩ := xb hf
  refine x_ran (x_runV (q0 := 0) (rest := []) (As := []) hC mw_589 md_X3_hasRoom (c_X3_hasRoom (X := X) hf1) hH [2] rfl (by decide) rfl rfl rfl hl.1 rfl rfl (Nat.le_of_ble_eq_true rfl) dX1_readPerson_7 ⟨Nat.le_of_ble_eq_true rfl, Nat.le_of_ble_eq_true rfl⟩ ⟨rfl, rfl⟩ ⟨Nat.le_refl _, Nat.le_refl _⟩) rfl (fun hz1 => ?_)
  refine lv_if_eq (tgt := 23) hx hb dX1_readPerson_10 (by decide) (fun c2 => ?_) (fun c2 => ?_)
  · have hf := xt c2 hf
    refine lv_iconst (v := (nI 0)) hx hb dX1_readPerson_23 (by decide) ?_
    exact x_retzw (f := fun u : Int32 × Int32 × Int32 × (Nat → Int32) × Int32 × Int32 × Int32 => u.1) (wf := fun u : Int32 × Int32 × Int32 × (Nat → Int32) × Int32 × Int32 × Int32 => [(h0, xO 1 [.ref h4, .ref h1, .int u.2.1]), (h1, xO 0 [.ref g0, .ref h2, .int v_draft_inForce, .int v_draft_depth, .int v_draft_miss, .long v_draft_ring, .int v_draft_steps, .int v_draft_seed]), (h2, xO 3 [.ref h3, .ref g1, .int u.2.2.1]), (h3, xI X 10 u.2.2.2.1), (h4, xO 5 [.ref h5, .int v_tape_size, .int u.2.2.2.2.1, .int u.2.2.2.2.2.1, .int u.2.2.2.2.2.2]), (h5, xI X 250 v_tape_bytes)]) hC hr hlk (Or.inl rfl) hf hH rfl rfl dX1_readPerson_24
  · have hf := xe c2 hf
    refine lv_aload_n hx hb dX1_readPerson_13 rfl (lv_at hl 0 rfl) ?_
    refine lv_iconst (v := (nI 1)) hx hb dX1_readPerson_14 (by decide) ?_
    refine lv_bipush (v := (nI 99)) hx hb dX1_readPerson_15 (by decide) ?_
    obtain ⟨u3, hf3, hf⟩ := xb hf
    refine x_ranw (ws' := [(h0, xO 1 [.ref h4, .ref h1, .int u3.2.1]), (h1, xO 0 [.ref g0, .ref h2, .int v_draft_inForce, .int v_draft_depth, .int v_draft_miss, .long v_draft_ring, .int v_draft_steps, .int v_draft_seed]), (h2, xO 3 [.ref h3, .ref g1, .int v_draft_people_count]), (h3, xI X 10 v_draft_people_ages), (h4, xO 5 [.ref h5, .int v_tape_size, .int u3.2.2.1, .int u3.2.2.2.1, .int u3.2.2.2.2]), (h5, xI X 250 v_tape_bytes)]) (x_runV (q0 := 0) (rest := []) (As := [.int (nI 1), .int (nI 99)]) hC mw_553 md_X1_readNumber (c_X1_readNumber (X := X) hf3) hH [0, 4, 5] rfl (by decide) rfl rfl rfl hl.1 rfl rfl (Nat.le_of_ble_eq_true rfl) dX1_readPerson_17 ⟨Nat.le_of_ble_eq_true rfl, Nat.le_of_ble_eq_true rfl⟩ ⟨rfl, rfl⟩ ⟨Nat.le_refl _, Nat.le_refl _⟩) hH [0, 4, 5] rfl rfl rfl rfl rfl (fun hz3 H locs hH => ?_)
    refine lv_if_ne (tgt := 25) hx hb dX1_readPerson_20 (by decide) (fun c4 => ?_) (fun c4 => ?_)
    · have hf := xe c4 hf
      refine lv_aload_n hx hb dX1_readPerson_25 rfl (lv_at hl 0 rfl) ?_
      refine x_get hC fd_RX1_21 hH.1 0 rfl rfl dX1_readPerson_26 ?_
      refine x_getN hC fd_RX1_108 hH.1 1 rfl rfl dX1_readPerson_29 ?_
      refine lv_aload_n hx hb dX1_readPerson_32 rfl (lv_at hl 0 rfl) ?_
      refine x_get hC fd_RX1_91 hH.1 0 rfl rfl dX1_readPerson_33 ?_
      obtain ⟨u5, hf5, hf⟩ := xb hf
      refine x_ranw (ws' := [(h0, xO 1 [.ref h4, .ref h1, .int u3.2.1]), (h1, xO 0 [.ref g0, .ref h2, .int v_draft_inForce, .int v_draft_depth, .int v_draft_miss, .long v_draft_ring, .int v_draft_steps, .int v_draft_seed]), (h2, xO 3 [.ref h3, .ref g1, .int u5.2.1]), (h3, xI X 10 u5.2.2), (h4, xO 5 [.ref h5, .int v_tape_size, .int u3.2.2.1, .int u3.2.2.2.1, .int u3.2.2.2.2]), (h5, xI X 250 v_tape_bytes)]) (x_runV (q0 := 0) (rest := []) (As := [.int u3.2.1]) hC mw_590 md_X3_add (c_X3_add (X := X) hf5) hH [2, 3] rfl (by decide) rfl rfl rfl hl.1 rfl rfl (Nat.le_of_ble_eq_true rfl) dX1_readPerson_36 ⟨Nat.le_of_ble_eq_true rfl, Nat.le_of_ble_eq_true rfl⟩ ⟨rfl, rfl⟩ ⟨Nat.le_refl _, Nat.le_refl _⟩) hH [2, 3] rfl rfl rfl rfl rfl (fun hz5 H locs hH => ?_)
      refine lv_pop hx hb dX1_readPerson_39 rfl ?_
      refine lv_iconst (v := (nI 1)) hx hb dX1_readPerson_40 (by decide) ?_
      exact x_retzw (f := fun u : Int32 × Int32 × Int32 × (Nat → Int32) × Int32 × Int32 × Int32 => u.1) (wf := fun u : Int32 × Int32 × Int32 × (Nat → Int32) × Int32 × Int32 × Int32 => [(h0, xO 1 [.ref h4, .ref h1, .int u.2.1]), (h1, xO 0 [.ref g0, .ref h2, .int v_draft_inForce, .int v_draft_depth, .int v_draft_miss, .long v_draft_ring, .int v_draft_steps, .int v_draft_seed]), (h2, xO 3 [.ref h3, .ref g1, .int u.2.2.1]), (h3, xI X 10 u.2.2.2.1), (h4, xO 5 [.ref h5, .int v_tape_size, .int u.2.2.2.2.1, .int u.2.2.2.2.2.1, .int u.2.2.2.2.2.2]), (h5, xI X 250 v_tape_bytes)]) hC hr hlk (Or.inr rfl) hf hH rfl rfl dX1_readPerson_41
    · have hf := xt c4 hf
      refine lv_iconst (v := (nI 0)) hx hb dX1_readPerson_23 (by decide) ?_
      exact x_retzw (f := fun u : Int32 × Int32 × Int32 × (Nat → Int32) × Int32 × Int32 × Int32 => u.1) (wf := fun u : Int32 × Int32 × Int32 × (Nat → Int32) × Int32 × Int32 × Int32 => [(h0, xO 1 [.ref h4, .ref h1, .int u.2.1]), (h1, xO 0 [.ref g0, .ref h2, .int v_draft_inForce, .int v_draft_depth, .int v_draft_miss, .long v_draft_ring, .int v_draft_steps, .int v_draft_seed]), (h2, xO 3 [.ref h3, .ref g1, .int u.2.2.1]), (h3, xI X 10 u.2.2.2.1), (h4, xO 5 [.ref h5, .int v_tape_size, .int u.2.2.2.2.1, .int u.2.2.2.2.2.1, .int u.2.2.2.2.2.2]), (h5, xI X 250 v_tape_bytes)]) hC hr hlk (Or.inl rfl) hf hH rfl rfl dX1_readPerson_24
def f_X1_readStatement (v_number : Int32) (v_draft_inForce : Int32) (v_draft_depth : Int32) (v_draft_miss : Int32) (v_draft_ring : Int64) (v_draft_steps : Int32) (v_draft_laws_count : Int32) (v_draft_laws_kinds : (Nat → Int32)) (v_draft_laws_tunes : (Nat → Int32)) (v_draft_people_count : Int32) (v_draft_people_ages : (Nat → Int32)) (v_tape_size : Int32) (v_tape_token : Int32) (v_tape_tokenStart : Int32) (v_tape_tokenEnd : Int32) (v_tape_bytes : (Nat → Int32)) : Option (Int32 × Int32 × Int32 × Int32 × Int32 × Int64 × Int32 × Int32 × (Nat → Int32) × (Nat → Int32) × Int32 × (Nat → Int32) × Int32 × Int32 × Int32) :=
  (f_X5_isWord v_tape_size v_tape_token v_tape_tokenStart v_tape_tokenEnd v_tape_bytes 0).bind fun u1 =>
  if u1 = (nI 0) then
    (f_X5_isWord v_tape_size v_tape_token v_tape_tokenStart v_tape_tokenEnd v_tape_bytes 1).bind fun u3 =>
    if u3 = (nI 0) then
      (f_X5_isWord v_tape_size v_tape_token v_tape_tokenStart v_tape_tokenEnd v_tape_bytes 2).bind fun u5 =>
      if u5 = (nI 0) then
        (f_X5_isWord v_tape_size v_tape_token v_tape_tokenStart v_tape_tokenEnd v_tape_bytes 3).bind fun u7 =>
        if u7 = (nI 0) then
          (f_X5_isWord v_tape_size v_tape_token v_tape_tokenStart v_tape_tokenEnd v_tape_bytes 4).bind fun u9 =>
          if u9 = (nI 0) then
            (f_X5_isWord v_tape_size v_tape_token v_tape_tokenStart v_tape_tokenEnd v_tape_bytes 5).bind fun u11 =>
            if u11 = (nI 0) then
              (f_X5_isWord v_tape_size v_tape_token v_tape_tokenStart v_tape_tokenEnd v_tape_bytes 6).bind fun u13 =>
              if u13 = (nI 0) then
                some ((nI 0), v_number, v_draft_inForce, v_draft_depth, v_draft_miss, v_draft_ring, v_draft_steps, v_draft_laws_count, v_draft_laws_kinds, v_draft_laws_tunes, v_draft_people_count, v_draft_people_ages, v_tape_token, v_tape_tokenStart, v_tape_tokenEnd)
              else
              (f_X0_clearRing v_draft_ring v_draft_steps).bind fun u15 =>
              some ((nI 1), v_number, v_draft_inForce, v_draft_depth, v_draft_miss, u15.1, u15.2, v_draft_laws_count, v_draft_laws_kinds, v_draft_laws_tunes, v_draft_people_count, v_draft_people_ages, v_tape_token, v_tape_tokenStart, v_tape_tokenEnd)
            else
            (f_X1_readPerson v_number v_draft_people_count v_draft_people_ages v_tape_size v_tape_token v_tape_tokenStart v_tape_tokenEnd v_tape_bytes).bind fun u16 =>
            some (u16.1, u16.2.1, v_draft_inForce, v_draft_depth, v_draft_miss, v_draft_ring, v_draft_steps, v_draft_laws_count, v_draft_laws_kinds, v_draft_laws_tunes, u16.2.2.1, u16.2.2.2.1, u16.2.2.2.2.1, u16.2.2.2.2.2.1, u16.2.2.2.2.2.2)
          else
          (f_X1_readSteps v_draft_ring v_draft_steps v_tape_size v_tape_token v_tape_tokenStart v_tape_tokenEnd v_tape_bytes).bind fun u17 =>
          some (u17.1, v_number, v_draft_inForce, v_draft_depth, v_draft_miss, u17.2.1, u17.2.2.1, v_draft_laws_count, v_draft_laws_kinds, v_draft_laws_tunes, v_draft_people_count, v_draft_people_ages, u17.2.2.2.1, u17.2.2.2.2.1, u17.2.2.2.2.2)
        else
        (f_X1_readMiss v_number v_draft_miss v_tape_size v_tape_token v_tape_tokenStart v_tape_tokenEnd v_tape_bytes).bind fun u18 =>
        some (u18.1, u18.2.1, v_draft_inForce, v_draft_depth, u18.2.2.1, v_draft_ring, v_draft_steps, v_draft_laws_count, v_draft_laws_kinds, v_draft_laws_tunes, v_draft_people_count, v_draft_people_ages, u18.2.2.2.1, u18.2.2.2.2.1, u18.2.2.2.2.2)
      else
      (f_X1_readDepth v_number v_draft_depth v_tape_size v_tape_token v_tape_tokenStart v_tape_tokenEnd v_tape_bytes).bind fun u19 =>
      some (u19.1, u19.2.1, v_draft_inForce, u19.2.2.1, v_draft_miss, v_draft_ring, v_draft_steps, v_draft_laws_count, v_draft_laws_kinds, v_draft_laws_tunes, v_draft_people_count, v_draft_people_ages, u19.2.2.2.1, u19.2.2.2.2.1, u19.2.2.2.2.2)
    else
    (f_X1_readUse v_number v_draft_inForce v_draft_laws_count v_tape_size v_tape_token v_tape_tokenStart v_tape_tokenEnd v_tape_bytes).bind fun u20 =>
    some (u20.1, u20.2.1, u20.2.2.1, v_draft_depth, v_draft_miss, v_draft_ring, v_draft_steps, v_draft_laws_count, v_draft_laws_kinds, v_draft_laws_tunes, v_draft_people_count, v_draft_people_ages, u20.2.2.2.1, u20.2.2.2.2.1, u20.2.2.2.2.2)
  else
  (f_X1_readLaw v_number v_draft_laws_count v_draft_laws_kinds v_draft_laws_tunes v_tape_size v_tape_token v_tape_tokenStart v_tape_tokenEnd v_tape_bytes).bind fun u21 =>
  some (u21.1, u21.2.1, v_draft_inForce, v_draft_depth, v_draft_miss, v_draft_ring, v_draft_steps, u21.2.2.1, u21.2.2.2.1, u21.2.2.2.2.1, v_draft_people_count, v_draft_people_ages, u21.2.2.2.2.2.1, u21.2.2.2.2.2.2.1, u21.2.2.2.2.2.2.2)
set_option maxHeartbeats 4000000 in
set_option maxRecDepth 100000 in
theorem c_X1_readStatement {l : Launch} {X : xG} {h0 h1 h2 h3 h4 h5 h6 h7 h8 g0 : Nat} {v_number : Int32} {v_draft_inForce : Int32} {v_draft_depth : Int32} {v_draft_miss : Int32} {v_draft_ring : Int64} {v_draft_steps : Int32} {v_draft_seed : Int32} {v_draft_laws_count : Int32} {v_draft_laws_kinds : (Nat → Int32)} {v_draft_laws_tunes : (Nat → Int32)} {v_draft_people_count : Int32} {v_draft_people_ages : (Nat → Int32)} {v_tape_size : Int32} {v_tape_token : Int32} {v_tape_tokenStart : Int32} {v_tape_tokenEnd : Int32} {v_tape_bytes : (Nat → Int32)} {u : Int32 × Int32 × Int32 × Int32 × Int32 × Int64 × Int32 × Int32 × (Nat → Int32) × (Nat → Int32) × Int32 × (Nat → Int32) × Int32 × Int32 × Int32} (hf : f_X1_readStatement v_number v_draft_inForce v_draft_depth v_draft_miss v_draft_ring v_draft_steps v_draft_laws_count v_draft_laws_kinds v_draft_laws_tunes v_draft_people_count v_draft_people_ages v_tape_size v_tape_token v_tape_tokenStart v_tape_tokenEnd v_tape_bytes = some u) : Met l yX1_readStatement (xw yX1_readStatement cX1_readStatement 1 (some .boolean)) (xrm 5 107) (xPc [.ref h0] X [(h0, xO 1 [.ref h7, .ref h1, .int v_number]), (h1, xO 0 [.ref h2, .ref h5, .int v_draft_inForce, .int v_draft_depth, .int v_draft_miss, .long v_draft_ring, .int v_draft_steps, .int v_draft_seed]), (h2, xO 2 [.ref h3, .ref h4, .int v_draft_laws_count]), (h3, xI X 6 v_draft_laws_kinds), (h4, xI X 6 v_draft_laws_tunes), (h5, xO 3 [.ref h6, .ref g0, .int v_draft_people_count]), (h6, xI X 10 v_draft_people_ages), (h7, xO 5 [.ref h8, .int v_tape_size, .int v_tape_token, .int v_tape_tokenStart, .int v_tape_tokenEnd]), (h8, xI X 250 v_tape_bytes)]) (xQw (u.1 = 0 ∨ u.1 = 1) (.returned (some (.int u.1))) X [(h0, xO 1 [.ref h7, .ref h1, .int u.2.1]), (h1, xO 0 [.ref h2, .ref h5, .int u.2.2.1, .int u.2.2.2.1, .int u.2.2.2.2.1, .long u.2.2.2.2.2.1, .int u.2.2.2.2.2.2.1, .int v_draft_seed]), (h2, xO 2 [.ref h3, .ref h4, .int u.2.2.2.2.2.2.2.1]), (h3, xI X 6 u.2.2.2.2.2.2.2.2.1), (h4, xI X 6 u.2.2.2.2.2.2.2.2.2.1), (h5, xO 3 [.ref h6, .ref g0, .int u.2.2.2.2.2.2.2.2.2.2.1]), (h6, xI X 10 u.2.2.2.2.2.2.2.2.2.2.2.1), (h7, xO 5 [.ref h8, .int v_tape_size, .int u.2.2.2.2.2.2.2.2.2.2.2.2.1, .int u.2.2.2.2.2.2.2.2.2.2.2.2.2.1, .int u.2.2.2.2.2.2.2.2.2.2.2.2.2.2]), (h8, xI X 250 v_tape_bytes)] (xAs [(h0, xO 1 [.ref h7, .ref h1, .int v_number]), (h1, xO 0 [.ref h2, .ref h5, .int v_draft_inForce, .int v_draft_depth, .int v_draft_miss, .long v_draft_ring, .int v_draft_steps, .int v_draft_seed]), (h2, xO 2 [.ref h3, .ref h4, .int v_draft_laws_count]), (h3, xI X 6 v_draft_laws_kinds), (h4, xI X 6 v_draft_laws_tunes), (h5, xO 3 [.ref h6, .ref g0, .int v_draft_people_count]), (h6, xI X 10 v_draft_people_ages), (h7, xO 5 [.ref h8, .int v_tape_size, .int v_tape_token, .int v_tape_tokenStart, .int v_tape_tokenEnd]), (h8, xI X 250 v_tape_bytes)])) 0 0 (xAs [(h0, xO 1 [.ref h7, .ref h1, .int v_number]), (h1, xO 0 [.ref h2, .ref h5, .int v_draft_inForce, .int v_draft_depth, .int v_draft_miss, .long v_draft_ring, .int v_draft_steps, .int v_draft_seed]), (h2, xO 2 [.ref h3, .ref h4, .int v_draft_laws_count]), (h3, xI X 6 v_draft_laws_kinds), (h4, xI X 6 v_draft_laws_tunes), (h5, xO 3 [.ref h6, .ref g0, .int v_draft_people_count]), (h6, xI X 10 v_draft_people_ages), (h7, xO 5 [.ref h8, .int v_tape_size, .int v_tape_token, .int v_tape_tokenStart, .int v_tape_tokenEnd]), (h8, xI X 250 v_tape_bytes)]) := by
  refine xMetw (Qc := fun A => xQw (u.1 = 0 ∨ u.1 = 1) (.returned (some (.int u.1))) X [(h0, xO 1 [.ref h7, .ref h1, .int u.2.1]), (h1, xO 0 [.ref h2, .ref h5, .int u.2.2.1, .int u.2.2.2.1, .int u.2.2.2.2.1, .long u.2.2.2.2.2.1, .int u.2.2.2.2.2.2.1, .int v_draft_seed]), (h2, xO 2 [.ref h3, .ref h4, .int u.2.2.2.2.2.2.2.1]), (h3, xI X 6 u.2.2.2.2.2.2.2.2.1), (h4, xI X 6 u.2.2.2.2.2.2.2.2.2.1), (h5, xO 3 [.ref h6, .ref g0, .int u.2.2.2.2.2.2.2.2.2.2.1]), (h6, xI X 10 u.2.2.2.2.2.2.2.2.2.2.2.1), (h7, xO 5 [.ref h8, .int v_tape_size, .int u.2.2.2.2.2.2.2.2.2.2.2.2.1, .int u.2.2.2.2.2.2.2.2.2.2.2.2.2.1, .int u.2.2.2.2.2.2.2.2.2.2.2.2.2.2]), (h8, xI X 250 v_tape_bytes)] A) (n := 0) md_X1_readStatement.1 (Nat.le_of_ble_eq_true rfl) ?_
  intro p e s m args below meth c ls A hC hr hlk hH hl
  have hl : lv_has ls 1 [(0, .ref h0)] := hl
  have hx := hC.1
  have hb := hC.2.1
  refine lv_aload_n hx hb dX1_readStatement_0 rfl (lv_at hl 0 rfl) ?_
  refine x_get hC fd_RX1_12 hH.1 0 rfl rfl dX1_readStatement_1 ?_
  refine x_ldcS (i := 0) hC (List.mem_of_getElem? (i := 0) rfl) dX1_readStatement_4 ?_
  obtain ⟨u1, hf1, hf⟩ := xb hf
  refine x_ran (x_runV (q0 := 0) (rest := []) (As := [.ref (X.2.2.2.2.1 0)]) hC mw_490 md_X5_isWord (c_X5_isWord (X := X) hf1) hH [7, 8] rfl (by decide) rfl rfl rfl hl.1 rfl rfl (Nat.le_of_ble_eq_true rfl) dX1_readStatement_6 ⟨Nat.le_of_ble_eq_true rfl, Nat.le_of_ble_eq_true rfl⟩ ⟨rfl, rfl⟩ ⟨Nat.le_refl _, Nat.le_refl _⟩) rfl (fun hz1 => ?_)
  refine lv_if_eq (tgt := 17) hx hb dX1_readStatement_9 (by decide) (fun c2 => ?_) (fun c2 => ?_)
  · have hf := xt c2 hf
    refine lv_aload_n hx hb dX1_readStatement_17 rfl (lv_at hl 0 rfl) ?_
    refine x_get hC fd_RX1_12 hH.1 0 rfl rfl dX1_readStatement_18 ?_
    refine x_ldcS (i := 1) hC (List.mem_of_getElem? (i := 1) rfl) dX1_readStatement_21 ?_
    obtain ⟨u3, hf3, hf⟩ := xb hf
    refine x_ran (x_runV (q0 := 0) (rest := []) (As := [.ref (X.2.2.2.2.1 1)]) hC mw_490 md_X5_isWord (c_X5_isWord (X := X) hf3) hH [7, 8] rfl (by decide) rfl rfl rfl hl.1 rfl rfl (Nat.le_of_ble_eq_true rfl) dX1_readStatement_23 ⟨Nat.le_of_ble_eq_true rfl, Nat.le_of_ble_eq_true rfl⟩ ⟨rfl, rfl⟩ ⟨Nat.le_refl _, Nat.le_refl _⟩) rfl (fun hz3 => ?_)
    refine lv_if_eq (tgt := 34) hx hb dX1_readStatement_26 (by decide) (fun c4 => ?_) (fun c4 => ?_)
    · have hf := xt c4 hf
      refine lv_aload_n hx hb dX1_readStatement_34 rfl (lv_at hl 0 rfl) ?_
      refine x_get hC fd_RX1_12 hH.1 0 rfl rfl dX1_readStatement_35 ?_
      refine x_ldcS (i := 2) hC (List.mem_of_getElem? (i := 2) rfl) dX1_readStatement_38 ?_
      obtain ⟨u5, hf5, hf⟩ := xb hf
      refine x_ran (x_runV (q0 := 0) (rest := []) (As := [.ref (X.2.2.2.2.1 2)]) hC mw_490 md_X5_isWord (c_X5_isWord (X := X) hf5) hH [7, 8] rfl (by decide) rfl rfl rfl hl.1 rfl rfl (Nat.le_of_ble_eq_true rfl) dX1_readStatement_40 ⟨Nat.le_of_ble_eq_true rfl, Nat.le_of_ble_eq_true rfl⟩ ⟨rfl, rfl⟩ ⟨Nat.le_refl _, Nat.le_refl _⟩) rfl (fun hz5 => ?_)
      refine lv_if_eq (tgt := 51) hx hb dX1_readStatement_43 (by decide) (fun c6 => ?_) (fun c6 => ?_)
      · have hf := xt c6 hf
        refine lv_aload_n hx hb dX1_readStatement_51 rfl (lv_at hl 0 rfl) ?_
        refine x_get hC fd_RX1_12 hH.1 0 rfl rfl dX1_readStatement_52 ?_
        refine x_ldcS (i := 3) hC (List.mem_of_getElem? (i := 3) rfl) dX1_readStatement_55 ?_
        obtain ⟨u7, hf7, hf⟩ := xb hf
        refine x_ran (x_runV (q0 := 0) (rest := []) (As := [.ref (X.2.2.2.2.1 3)]) hC mw_490 md_X5_isWord (c_X5_isWord (X := X) hf7) hH [7, 8] rfl (by decide) rfl rfl rfl hl.1 rfl rfl (Nat.le_of_ble_eq_true rfl) dX1_readStatement_57 ⟨Nat.le_of_ble_eq_true rfl, Nat.le_of_ble_eq_true rfl⟩ ⟨rfl, rfl⟩ ⟨Nat.le_refl _, Nat.le_refl _⟩) rfl (fun hz7 => ?_)
        refine lv_if_eq (tgt := 68) hx hb dX1_readStatement_60 (by decide) (fun c8 => ?_) (fun c8 => ?_)
        · have hf := xt c8 hf
          refine lv_aload_n hx hb dX1_readStatement_68 rfl (lv_at hl 0 rfl) ?_
          refine x_get hC fd_RX1_12 hH.1 0 rfl rfl dX1_readStatement_69 ?_
          refine x_ldcS (i := 4) hC (List.mem_of_getElem? (i := 4) rfl) dX1_readStatement_72 ?_
          obtain ⟨u9, hf9, hf⟩ := xb hf
          refine x_ran (x_runV (q0 := 0) (rest := []) (As := [.ref (X.2.2.2.2.1 4)]) hC mw_490 md_X5_isWord (c_X5_isWord (X := X) hf9) hH [7, 8] rfl (by decide) rfl rfl rfl hl.1 rfl rfl (Nat.le_of_ble_eq_true rfl) dX1_readStatement_74 ⟨Nat.le_of_ble_eq_true rfl, Nat.le_of_ble_eq_true rfl⟩ ⟨rfl, rfl⟩ ⟨Nat.le_refl _, Nat.le_refl _⟩) rfl (fun hz9 => ?_)
          refine lv_if_eq (tgt := 85) hx hb dX1_readStatement_77 (by decide) (fun c10 => ?_) (fun c10 => ?_)
          · have hf := xt c10 hf
            refine lv_aload_n hx hb dX1_readStatement_85 rfl (lv_at hl 0 rfl) ?_
            refine x_get hC fd_RX1_12 hH.1 0 rfl rfl dX1_readStatement_86 ?_
            refine x_ldcS (i := 5) hC (List.mem_of_getElem? (i := 5) rfl) dX1_readStatement_89 ?_
            obtain ⟨u11, hf11, hf⟩ := xb hf
            refine x_ran (x_runV (q0 := 0) (rest := []) (As := [.ref (X.2.2.2.2.1 5)]) hC mw_490 md_X5_isWord (c_X5_isWord (X := X) hf11) hH [7, 8] rfl (by decide) rfl rfl rfl hl.1 rfl rfl (Nat.le_of_ble_eq_true rfl) dX1_readStatement_91 ⟨Nat.le_of_ble_eq_true rfl, Nat.le_of_ble_eq_true rfl⟩ ⟨rfl, rfl⟩ ⟨Nat.le_refl _, Nat.le_refl _⟩) rfl (fun hz11 => ?_)
            refine lv_if_eq (tgt := 102) hx hb dX1_readStatement_94 (by decide) (fun c12 => ?_) (fun c12 => ?_)
            · have hf := xt c12 hf
              refine lv_aload_n hx hb dX1_readStatement_102 rfl (lv_at hl 0 rfl) ?_
              refine x_get hC fd_RX1_12 hH.1 0 rfl rfl dX1_readStatement_103 ?_
              refine x_ldcS (i := 6) hC (List.mem_of_getElem? (i := 6) rfl) dX1_readStatement_106 ?_
              obtain ⟨u13, hf13, hf⟩ := xb hf
              refine x_ran (x_runV (q0 := 0) (rest := []) (As := [.ref (X.2.2.2.2.1 6)]) hC mw_490 md_X5_isWord (c_X5_isWord (X := X) hf13) hH [7, 8] rfl (by decide) rfl rfl rfl hl.1 rfl rfl (Nat.le_of_ble_eq_true rfl) dX1_readStatement_108 ⟨Nat.le_of_ble_eq_true rfl, Nat.le_of_ble_eq_true rfl⟩ ⟨rfl, rfl⟩ ⟨Nat.le_refl _, Nat.le_refl _⟩) rfl (fun hz13 => ?_)
              refine lv_if_eq (tgt := 123) hx hb dX1_readStatement_111 (by decide) (fun c14 => ?_) (fun c14 => ?_)
              · have hf := xt c14 hf
                refine lv_iconst (v := (nI 0)) hx hb dX1_readStatement_123 (by decide) ?_
                exact x_retzw (f := fun u : Int32 × Int32 × Int32 × Int32 × Int32 × Int64 × Int32 × Int32 × (Nat → Int32) × (Nat → Int32) × Int32 × (Nat → Int32) × Int32 × Int32 × Int32 => u.1) (wf := fun u : Int32 × Int32 × Int32 × Int32 × Int32 × Int64 × Int32 × Int32 × (Nat → Int32) × (Nat → Int32) × Int32 × (Nat → Int32) × Int32 × Int32 × Int32 => [(h0, xO 1 [.ref h7, .ref h1, .int u.2.1]), (h1, xO 0 [.ref h2, .ref h5, .int u.2.2.1, .int u.2.2.2.1, .int u.2.2.2.2.1, .long u.2.2.2.2.2.1, .int u.2.2.2.2.2.2.1, .int v_draft_seed]), (h2, xO 2 [.ref h3, .ref h4, .int u.2.2.2.2.2.2.2.1]), (h3, xI X 6 u.2.2.2.2.2.2.2.2.1), (h4, xI X 6 u.2.2.2.2.2.2.2.2.2.1), (h5, xO 3 [.ref h6, .ref g0, .int u.2.2.2.2.2.2.2.2.2.2.1]), (h6, xI X 10 u.2.2.2.2.2.2.2.2.2.2.2.1), (h7, xO 5 [.ref h8, .int v_tape_size, .int u.2.2.2.2.2.2.2.2.2.2.2.2.1, .int u.2.2.2.2.2.2.2.2.2.2.2.2.2.1, .int u.2.2.2.2.2.2.2.2.2.2.2.2.2.2]), (h8, xI X 250 v_tape_bytes)]) hC hr hlk (Or.inl rfl) hf hH rfl rfl dX1_readStatement_124
              · have hf := xe c14 hf
                refine lv_aload_n hx hb dX1_readStatement_114 rfl (lv_at hl 0 rfl) ?_
                refine x_get hC fd_RX1_21 hH.1 0 rfl rfl dX1_readStatement_115 ?_
                obtain ⟨u15, hf15, hf⟩ := xb hf
                refine x_ranw (ws' := [(h0, xO 1 [.ref h7, .ref h1, .int v_number]), (h1, xO 0 [.ref h2, .ref h5, .int v_draft_inForce, .int v_draft_depth, .int v_draft_miss, .long u15.1, .int u15.2, .int v_draft_seed]), (h2, xO 2 [.ref h3, .ref h4, .int v_draft_laws_count]), (h3, xI X 6 v_draft_laws_kinds), (h4, xI X 6 v_draft_laws_tunes), (h5, xO 3 [.ref h6, .ref g0, .int v_draft_people_count]), (h6, xI X 10 v_draft_people_ages), (h7, xO 5 [.ref h8, .int v_tape_size, .int v_tape_token, .int v_tape_tokenStart, .int v_tape_tokenEnd]), (h8, xI X 250 v_tape_bytes)]) (x_runV (q0 := 0) (rest := []) (As := []) hC mw_591 md_X0_clearRing (c_X0_clearRing (X := X) hf15) hH [1] rfl (by decide) rfl rfl rfl hl.1 rfl rfl (Nat.le_of_ble_eq_true rfl) dX1_readStatement_118 ⟨Nat.le_of_ble_eq_true rfl, Nat.le_of_ble_eq_true rfl⟩ ⟨rfl, rfl⟩ ⟨Nat.le_refl _, Nat.le_refl _⟩) hH [1] rfl rfl rfl rfl rfl (fun hz15 H locs hH => ?_)
                refine lv_iconst (v := (nI 1)) hx hb dX1_readStatement_121 (by decide) ?_
                exact x_retzw (f := fun u : Int32 × Int32 × Int32 × Int32 × Int32 × Int64 × Int32 × Int32 × (Nat → Int32) × (Nat → Int32) × Int32 × (Nat → Int32) × Int32 × Int32 × Int32 => u.1) (wf := fun u : Int32 × Int32 × Int32 × Int32 × Int32 × Int64 × Int32 × Int32 × (Nat → Int32) × (Nat → Int32) × Int32 × (Nat → Int32) × Int32 × Int32 × Int32 => [(h0, xO 1 [.ref h7, .ref h1, .int u.2.1]), (h1, xO 0 [.ref h2, .ref h5, .int u.2.2.1, .int u.2.2.2.1, .int u.2.2.2.2.1, .long u.2.2.2.2.2.1, .int u.2.2.2.2.2.2.1, .int v_draft_seed]), (h2, xO 2 [.ref h3, .ref h4, .int u.2.2.2.2.2.2.2.1]), (h3, xI X 6 u.2.2.2.2.2.2.2.2.1), (h4, xI X 6 u.2.2.2.2.2.2.2.2.2.1), (h5, xO 3 [.ref h6, .ref g0, .int u.2.2.2.2.2.2.2.2.2.2.1]), (h6, xI X 10 u.2.2.2.2.2.2.2.2.2.2.2.1), (h7, xO 5 [.ref h8, .int v_tape_size, .int u.2.2.2.2.2.2.2.2.2.2.2.2.1, .int u.2.2.2.2.2.2.2.2.2.2.2.2.2.1, .int u.2.2.2.2.2.2.2.2.2.2.2.2.2.2]), (h8, xI X 250 v_tape_bytes)]) hC hr hlk (Or.inr rfl) hf hH rfl rfl dX1_readStatement_122
            · have hf := xe c12 hf
              refine lv_aload_n hx hb dX1_readStatement_97 rfl (lv_at hl 0 rfl) ?_
              obtain ⟨u16, hf16, hf⟩ := xb hf
              refine x_ranw (ws' := [(h0, xO 1 [.ref h7, .ref h1, .int u16.2.1]), (h1, xO 0 [.ref h2, .ref h5, .int v_draft_inForce, .int v_draft_depth, .int v_draft_miss, .long v_draft_ring, .int v_draft_steps, .int v_draft_seed]), (h2, xO 2 [.ref h3, .ref h4, .int v_draft_laws_count]), (h3, xI X 6 v_draft_laws_kinds), (h4, xI X 6 v_draft_laws_tunes), (h5, xO 3 [.ref h6, .ref g0, .int u16.2.2.1]), (h6, xI X 10 u16.2.2.2.1), (h7, xO 5 [.ref h8, .int v_tape_size, .int u16.2.2.2.2.1, .int u16.2.2.2.2.2.1, .int u16.2.2.2.2.2.2]), (h8, xI X 250 v_tape_bytes)]) (x_runV (q0 := 0) (rest := []) (As := []) hC mw_585 md_X1_readPerson (c_X1_readPerson (X := X) hf16) hH [0, 1, 5, 6, 7, 8] rfl (by decide) rfl rfl rfl hl.1 rfl rfl (Nat.le_of_ble_eq_true rfl) dX1_readStatement_98 ⟨Nat.le_of_ble_eq_true rfl, Nat.le_of_ble_eq_true rfl⟩ ⟨rfl, rfl⟩ ⟨Nat.le_refl _, Nat.le_refl _⟩) hH [0, 1, 5, 6, 7, 8] rfl rfl rfl rfl rfl (fun hz16 H locs hH => ?_)
              exact x_retzw (f := fun u : Int32 × Int32 × Int32 × Int32 × Int32 × Int64 × Int32 × Int32 × (Nat → Int32) × (Nat → Int32) × Int32 × (Nat → Int32) × Int32 × Int32 × Int32 => u.1) (wf := fun u : Int32 × Int32 × Int32 × Int32 × Int32 × Int64 × Int32 × Int32 × (Nat → Int32) × (Nat → Int32) × Int32 × (Nat → Int32) × Int32 × Int32 × Int32 => [(h0, xO 1 [.ref h7, .ref h1, .int u.2.1]), (h1, xO 0 [.ref h2, .ref h5, .int u.2.2.1, .int u.2.2.2.1, .int u.2.2.2.2.1, .long u.2.2.2.2.2.1, .int u.2.2.2.2.2.2.1, .int v_draft_seed]), (h2, xO 2 [.ref h3, .ref h4, .int u.2.2.2.2.2.2.2.1]), (h3, xI X 6 u.2.2.2.2.2.2.2.2.1), (h4, xI X 6 u.2.2.2.2.2.2.2.2.2.1), (h5, xO 3 [.ref h6, .ref g0, .int u.2.2.2.2.2.2.2.2.2.2.1]), (h6, xI X 10 u.2.2.2.2.2.2.2.2.2.2.2.1), (h7, xO 5 [.ref h8, .int v_tape_size, .int u.2.2.2.2.2.2.2.2.2.2.2.2.1, .int u.2.2.2.2.2.2.2.2.2.2.2.2.2.1, .int u.2.2.2.2.2.2.2.2.2.2.2.2.2.2]), (h8, xI X 250 v_tape_bytes)]) hC hr hlk hz16 hf hH rfl rfl dX1_readStatement_101
          · have hf := xe c10 hf
            refine lv_aload_n hx hb dX1_readStatement_80 rfl (lv_at hl 0 rfl) ?_
            obtain ⟨u17, hf17, hf⟩ := xb hf
            refine x_ranw (ws' := [(h0, xO 1 [.ref h7, .ref h1, .int v_number]), (h1, xO 0 [.ref h2, .ref h5, .int v_draft_inForce, .int v_draft_depth, .int v_draft_miss, .long u17.2.1, .int u17.2.2.1, .int v_draft_seed]), (h2, xO 2 [.ref h3, .ref h4, .int v_draft_laws_count]), (h3, xI X 6 v_draft_laws_kinds), (h4, xI X 6 v_draft_laws_tunes), (h5, xO 3 [.ref h6, .ref g0, .int v_draft_people_count]), (h6, xI X 10 v_draft_people_ages), (h7, xO 5 [.ref h8, .int v_tape_size, .int u17.2.2.2.1, .int u17.2.2.2.2.1, .int u17.2.2.2.2.2]), (h8, xI X 250 v_tape_bytes)]) (x_runV (q0 := 0) (rest := []) (As := []) hC mw_572 md_X1_readSteps (c_X1_readSteps (X := X) hf17) hH [0, 1, 7, 8] rfl (by decide) rfl rfl rfl hl.1 rfl rfl (Nat.le_of_ble_eq_true rfl) dX1_readStatement_81 ⟨Nat.le_of_ble_eq_true rfl, Nat.le_of_ble_eq_true rfl⟩ ⟨rfl, rfl⟩ ⟨Nat.le_refl _, Nat.le_refl _⟩) hH [0, 1, 7, 8] rfl rfl rfl rfl rfl (fun hz17 H locs hH => ?_)
            exact x_retzw (f := fun u : Int32 × Int32 × Int32 × Int32 × Int32 × Int64 × Int32 × Int32 × (Nat → Int32) × (Nat → Int32) × Int32 × (Nat → Int32) × Int32 × Int32 × Int32 => u.1) (wf := fun u : Int32 × Int32 × Int32 × Int32 × Int32 × Int64 × Int32 × Int32 × (Nat → Int32) × (Nat → Int32) × Int32 × (Nat → Int32) × Int32 × Int32 × Int32 => [(h0, xO 1 [.ref h7, .ref h1, .int u.2.1]), (h1, xO 0 [.ref h2, .ref h5, .int u.2.2.1, .int u.2.2.2.1, .int u.2.2.2.2.1, .long u.2.2.2.2.2.1, .int u.2.2.2.2.2.2.1, .int v_draft_seed]), (h2, xO 2 [.ref h3, .ref h4, .int u.2.2.2.2.2.2.2.1]), (h3, xI X 6 u.2.2.2.2.2.2.2.2.1), (h4, xI X 6 u.2.2.2.2.2.2.2.2.2.1), (h5, xO 3 [.ref h6, .ref g0, .int u.2.2.2.2.2.2.2.2.2.2.1]), (h6, xI X 10 u.2.2.2.2.2.2.2.2.2.2.2.1), (h7, xO 5 [.ref h8, .int v_tape_size, .int u.2.2.2.2.2.2.2.2.2.2.2.2.1, .int u.2.2.2.2.2.2.2.2.2.2.2.2.2.1, .int u.2.2.2.2.2.2.2.2.2.2.2.2.2.2]), (h8, xI X 250 v_tape_bytes)]) hC hr hlk hz17 hf hH rfl rfl dX1_readStatement_84
        · have hf := xe c8 hf
          refine lv_aload_n hx hb dX1_readStatement_63 rfl (lv_at hl 0 rfl) ?_
          obtain ⟨u18, hf18, hf⟩ := xb hf
          refine x_ranw (ws' := [(h0, xO 1 [.ref h7, .ref h1, .int u18.2.1]), (h1, xO 0 [.ref h2, .ref h5, .int v_draft_inForce, .int v_draft_depth, .int u18.2.2.1, .long v_draft_ring, .int v_draft_steps, .int v_draft_seed]), (h2, xO 2 [.ref h3, .ref h4, .int v_draft_laws_count]), (h3, xI X 6 v_draft_laws_kinds), (h4, xI X 6 v_draft_laws_tunes), (h5, xO 3 [.ref h6, .ref g0, .int v_draft_people_count]), (h6, xI X 10 v_draft_people_ages), (h7, xO 5 [.ref h8, .int v_tape_size, .int u18.2.2.2.1, .int u18.2.2.2.2.1, .int u18.2.2.2.2.2]), (h8, xI X 250 v_tape_bytes)]) (x_runV (q0 := 0) (rest := []) (As := []) hC mw_568 md_X1_readMiss (c_X1_readMiss (X := X) hf18) hH [0, 1, 7, 8] rfl (by decide) rfl rfl rfl hl.1 rfl rfl (Nat.le_of_ble_eq_true rfl) dX1_readStatement_64 ⟨Nat.le_of_ble_eq_true rfl, Nat.le_of_ble_eq_true rfl⟩ ⟨rfl, rfl⟩ ⟨Nat.le_refl _, Nat.le_refl _⟩) hH [0, 1, 7, 8] rfl rfl rfl rfl rfl (fun hz18 H locs hH => ?_)
          exact x_retzw (f := fun u : Int32 × Int32 × Int32 × Int32 × Int32 × Int64 × Int32 × Int32 × (Nat → Int32) × (Nat → Int32) × Int32 × (Nat → Int32) × Int32 × Int32 × Int32 => u.1) (wf := fun u : Int32 × Int32 × Int32 × Int32 × Int32 × Int64 × Int32 × Int32 × (Nat → Int32) × (Nat → Int32) × Int32 × (Nat → Int32) × Int32 × Int32 × Int32 => [(h0, xO 1 [.ref h7, .ref h1, .int u.2.1]), (h1, xO 0 [.ref h2, .ref h5, .int u.2.2.1, .int u.2.2.2.1, .int u.2.2.2.2.1, .long u.2.2.2.2.2.1, .int u.2.2.2.2.2.2.1, .int v_draft_seed]), (h2, xO 2 [.ref h3, .ref h4, .int u.2.2.2.2.2.2.2.1]), (h3, xI X 6 u.2.2.2.2.2.2.2.2.1), (h4, xI X 6 u.2.2.2.2.2.2.2.2.2.1), (h5, xO 3 [.ref h6, .ref g0, .int u.2.2.2.2.2.2.2.2.2.2.1]), (h6, xI X 10 u.2.2.2.2.2.2.2.2.2.2.2.1), (h7, xO 5 [.ref h8, .int v_tape_size, .int u.2.2.2.2.2.2.2.2.2.2.2.2.1, .int u.2.2.2.2.2.2.2.2.2.2.2.2.2.1, .int u.2.2.2.2.2.2.2.2.2.2.2.2.2.2]), (h8, xI X 250 v_tape_bytes)]) hC hr hlk hz18 hf hH rfl rfl dX1_readStatement_67
      · have hf := xe c6 hf
        refine lv_aload_n hx hb dX1_readStatement_46 rfl (lv_at hl 0 rfl) ?_
        obtain ⟨u19, hf19, hf⟩ := xb hf
        refine x_ranw (ws' := [(h0, xO 1 [.ref h7, .ref h1, .int u19.2.1]), (h1, xO 0 [.ref h2, .ref h5, .int v_draft_inForce, .int u19.2.2.1, .int v_draft_miss, .long v_draft_ring, .int v_draft_steps, .int v_draft_seed]), (h2, xO 2 [.ref h3, .ref h4, .int v_draft_laws_count]), (h3, xI X 6 v_draft_laws_kinds), (h4, xI X 6 v_draft_laws_tunes), (h5, xO 3 [.ref h6, .ref g0, .int v_draft_people_count]), (h6, xI X 10 v_draft_people_ages), (h7, xO 5 [.ref h8, .int v_tape_size, .int u19.2.2.2.1, .int u19.2.2.2.2.1, .int u19.2.2.2.2.2]), (h8, xI X 250 v_tape_bytes)]) (x_runV (q0 := 0) (rest := []) (As := []) hC mw_564 md_X1_readDepth (c_X1_readDepth (X := X) hf19) hH [0, 1, 7, 8] rfl (by decide) rfl rfl rfl hl.1 rfl rfl (Nat.le_of_ble_eq_true rfl) dX1_readStatement_47 ⟨Nat.le_of_ble_eq_true rfl, Nat.le_of_ble_eq_true rfl⟩ ⟨rfl, rfl⟩ ⟨Nat.le_refl _, Nat.le_refl _⟩) hH [0, 1, 7, 8] rfl rfl rfl rfl rfl (fun hz19 H locs hH => ?_)
        exact x_retzw (f := fun u : Int32 × Int32 × Int32 × Int32 × Int32 × Int64 × Int32 × Int32 × (Nat → Int32) × (Nat → Int32) × Int32 × (Nat → Int32) × Int32 × Int32 × Int32 => u.1) (wf := fun u : Int32 × Int32 × Int32 × Int32 × Int32 × Int64 × Int32 × Int32 × (Nat → Int32) × (Nat → Int32) × Int32 × (Nat → Int32) × Int32 × Int32 × Int32 => [(h0, xO 1 [.ref h7, .ref h1, .int u.2.1]), (h1, xO 0 [.ref h2, .ref h5, .int u.2.2.1, .int u.2.2.2.1, .int u.2.2.2.2.1, .long u.2.2.2.2.2.1, .int u.2.2.2.2.2.2.1, .int v_draft_seed]), (h2, xO 2 [.ref h3, .ref h4, .int u.2.2.2.2.2.2.2.1]), (h3, xI X 6 u.2.2.2.2.2.2.2.2.1), (h4, xI X 6 u.2.2.2.2.2.2.2.2.2.1), (h5, xO 3 [.ref h6, .ref g0, .int u.2.2.2.2.2.2.2.2.2.2.1]), (h6, xI X 10 u.2.2.2.2.2.2.2.2.2.2.2.1), (h7, xO 5 [.ref h8, .int v_tape_size, .int u.2.2.2.2.2.2.2.2.2.2.2.2.1, .int u.2.2.2.2.2.2.2.2.2.2.2.2.2.1, .int u.2.2.2.2.2.2.2.2.2.2.2.2.2.2]), (h8, xI X 250 v_tape_bytes)]) hC hr hlk hz19 hf hH rfl rfl dX1_readStatement_50
    · have hf := xe c4 hf
      refine lv_aload_n hx hb dX1_readStatement_29 rfl (lv_at hl 0 rfl) ?_
      obtain ⟨u20, hf20, hf⟩ := xb hf
      refine x_ranw (ws' := [(h0, xO 1 [.ref h7, .ref h1, .int u20.2.1]), (h1, xO 0 [.ref h2, .ref h5, .int u20.2.2.1, .int v_draft_depth, .int v_draft_miss, .long v_draft_ring, .int v_draft_steps, .int v_draft_seed]), (h2, xO 2 [.ref h3, .ref h4, .int v_draft_laws_count]), (h3, xI X 6 v_draft_laws_kinds), (h4, xI X 6 v_draft_laws_tunes), (h5, xO 3 [.ref h6, .ref g0, .int v_draft_people_count]), (h6, xI X 10 v_draft_people_ages), (h7, xO 5 [.ref h8, .int v_tape_size, .int u20.2.2.2.1, .int u20.2.2.2.2.1, .int u20.2.2.2.2.2]), (h8, xI X 250 v_tape_bytes)]) (x_runV (q0 := 0) (rest := []) (As := []) hC mw_560 md_X1_readUse (c_X1_readUse (X := X) hf20) hH [0, 1, 2, 7, 8] rfl (by decide) rfl rfl rfl hl.1 rfl rfl (Nat.le_of_ble_eq_true rfl) dX1_readStatement_30 ⟨Nat.le_of_ble_eq_true rfl, Nat.le_of_ble_eq_true rfl⟩ ⟨rfl, rfl⟩ ⟨Nat.le_refl _, Nat.le_refl _⟩) hH [0, 1, 2, 7, 8] rfl rfl rfl rfl rfl (fun hz20 H locs hH => ?_)
      exact x_retzw (f := fun u : Int32 × Int32 × Int32 × Int32 × Int32 × Int64 × Int32 × Int32 × (Nat → Int32) × (Nat → Int32) × Int32 × (Nat → Int32) × Int32 × Int32 × Int32 => u.1) (wf := fun u : Int32 × Int32 × Int32 × Int32 × Int32 × Int64 × Int32 × Int32 × (Nat → Int32) × (Nat → Int32) × Int32 × (Nat → Int32) × Int32 × Int32 × Int32 => [(h0, xO 1 [.ref h7, .ref h1, .int u.2.1]), (h1, xO 0 [.ref h2, .ref h5, .int u.2.2.1, .int u.2.2.2.1, .int u.2.2.2.2.1, .long u.2.2.2.2.2.1, .int u.2.2.2.2.2.2.1, .int v_draft_seed]), (h2, xO 2 [.ref h3, .ref h4, .int u.2.2.2.2.2.2.2.1]), (h3, xI X 6 u.2.2.2.2.2.2.2.2.1), (h4, xI X 6 u.2.2.2.2.2.2.2.2.2.1), (h5, xO 3 [.ref h6, .ref g0, .int u.2.2.2.2.2.2.2.2.2.2.1]), (h6, xI X 10 u.2.2.2.2.2.2.2.2.2.2.2.1), (h7, xO 5 [.ref h8, .int v_tape_size, .int u.2.2.2.2.2.2.2.2.2.2.2.2.1, .int u.2.2.2.2.2.2.2.2.2.2.2.2.2.1, .int u.2.2.2.2.2.2.2.2.2.2.2.2.2.2]), (h8, xI X 250 v_tape_bytes)]) hC hr hlk hz20 hf hH rfl rfl dX1_readStatement_33
  · have hf := xe c2 hf
    refine lv_aload_n hx hb dX1_readStatement_12 rfl (lv_at hl 0 rfl) ?_
    obtain ⟨u21, hf21, hf⟩ := xb hf
    refine x_ranw (ws' := [(h0, xO 1 [.ref h7, .ref h1, .int u21.2.1]), (h1, xO 0 [.ref h2, .ref h5, .int v_draft_inForce, .int v_draft_depth, .int v_draft_miss, .long v_draft_ring, .int v_draft_steps, .int v_draft_seed]), (h2, xO 2 [.ref h3, .ref h4, .int u21.2.2.1]), (h3, xI X 6 u21.2.2.2.1), (h4, xI X 6 u21.2.2.2.2.1), (h5, xO 3 [.ref h6, .ref g0, .int v_draft_people_count]), (h6, xI X 10 v_draft_people_ages), (h7, xO 5 [.ref h8, .int v_tape_size, .int u21.2.2.2.2.2.1, .int u21.2.2.2.2.2.2.1, .int u21.2.2.2.2.2.2.2]), (h8, xI X 250 v_tape_bytes)]) (x_runV (q0 := 0) (rest := []) (As := []) hC mw_547 md_X1_readLaw (c_X1_readLaw (X := X) hf21) hH [0, 1, 2, 3, 4, 7, 8] rfl (by decide) rfl rfl rfl hl.1 rfl rfl (Nat.le_of_ble_eq_true rfl) dX1_readStatement_13 ⟨Nat.le_of_ble_eq_true rfl, Nat.le_of_ble_eq_true rfl⟩ ⟨rfl, rfl⟩ ⟨Nat.le_refl _, Nat.le_refl _⟩) hH [0, 1, 2, 3, 4, 7, 8] rfl rfl rfl rfl rfl (fun hz21 H locs hH => ?_)
    exact x_retzw (f := fun u : Int32 × Int32 × Int32 × Int32 × Int32 × Int64 × Int32 × Int32 × (Nat → Int32) × (Nat → Int32) × Int32 × (Nat → Int32) × Int32 × Int32 × Int32 => u.1) (wf := fun u : Int32 × Int32 × Int32 × Int32 × Int32 × Int64 × Int32 × Int32 × (Nat → Int32) × (Nat → Int32) × Int32 × (Nat → Int32) × Int32 × Int32 × Int32 => [(h0, xO 1 [.ref h7, .ref h1, .int u.2.1]), (h1, xO 0 [.ref h2, .ref h5, .int u.2.2.1, .int u.2.2.2.1, .int u.2.2.2.2.1, .long u.2.2.2.2.2.1, .int u.2.2.2.2.2.2.1, .int v_draft_seed]), (h2, xO 2 [.ref h3, .ref h4, .int u.2.2.2.2.2.2.2.1]), (h3, xI X 6 u.2.2.2.2.2.2.2.2.1), (h4, xI X 6 u.2.2.2.2.2.2.2.2.2.1), (h5, xO 3 [.ref h6, .ref g0, .int u.2.2.2.2.2.2.2.2.2.2.1]), (h6, xI X 10 u.2.2.2.2.2.2.2.2.2.2.2.1), (h7, xO 5 [.ref h8, .int v_tape_size, .int u.2.2.2.2.2.2.2.2.2.2.2.2.1, .int u.2.2.2.2.2.2.2.2.2.2.2.2.2.1, .int u.2.2.2.2.2.2.2.2.2.2.2.2.2.2]), (h8, xI X 250 v_tape_bytes)]) hC hr hlk hz21 hf hH rfl rfl dX1_readStatement_16
def f_X1_readLake_J53 (j53_1 : Int32) (j53_v_number : Int32) (j53_v_draft_inForce : Int32) (j53_v_draft_depth : Int32) (j53_v_draft_miss : Int32) (j53_v_draft_ring : Int64) (j53_v_draft_steps : Int32) (j53_v_draft_laws_count : Int32) (j53_v_draft_laws_kinds : (Nat → Int32)) (j53_v_draft_laws_tunes : (Nat → Int32)) (j53_v_draft_people_count : Int32) (j53_v_draft_people_ages : (Nat → Int32)) (j53_v_tape_token : Int32) (j53_v_tape_tokenStart : Int32) (j53_v_tape_tokenEnd : Int32) : Option ((Int32 × Int32 × Int32 × Int32 × Int32 × Int64 × Int32 × Int32 × (Nat → Int32) × (Nat → Int32) × Int32 × (Nat → Int32) × Int32 × Int32 × Int32) ⊕ (Int32 × Int32 × Int32 × Int32 × Int32 × Int64 × Int32 × Int32 × (Nat → Int32) × (Nat → Int32) × Int32 × (Nat → Int32) × Int32 × Int32 × Int32)) :=
  if j53_v_tape_token = (nI 0) then
    some (.inl (j53_1, j53_v_number, j53_v_draft_inForce, j53_v_draft_depth, j53_v_draft_miss, j53_v_draft_ring, j53_v_draft_steps, j53_v_draft_laws_count, j53_v_draft_laws_kinds, j53_v_draft_laws_tunes, j53_v_draft_people_count, j53_v_draft_people_ages, j53_v_tape_token, j53_v_tape_tokenStart, j53_v_tape_tokenEnd))
  else
  some (.inl ((-1 : Int32), j53_v_number, j53_v_draft_inForce, j53_v_draft_depth, j53_v_draft_miss, j53_v_draft_ring, j53_v_draft_steps, j53_v_draft_laws_count, j53_v_draft_laws_kinds, j53_v_draft_laws_tunes, j53_v_draft_people_count, j53_v_draft_people_ages, j53_v_tape_token, j53_v_tape_tokenStart, j53_v_tape_tokenEnd))
def f_X1_readLake_L9 (v_tape_size : Int32) (v_tape_bytes : (Nat → Int32)) (s9 : Int32 × Int32 × Int32 × Int32 × Int32 × Int64 × Int32 × Int32 × (Nat → Int32) × (Nat → Int32) × Int32 × (Nat → Int32) × Int32 × Int32 × Int32) : Option ((Int32 × Int32 × Int32 × Int32 × Int32 × Int64 × Int32 × Int32 × (Nat → Int32) × (Nat → Int32) × Int32 × (Nat → Int32) × Int32 × Int32 × Int32) ⊕ (Int32 × Int32 × Int32 × Int32 × Int32 × Int64 × Int32 × Int32 × (Nat → Int32) × (Nat → Int32) × Int32 × (Nat → Int32) × Int32 × Int32 × Int32)) :=
  (f_X5_nextToken v_tape_size s9.2.2.2.2.2.2.2.2.2.2.2.2.1 s9.2.2.2.2.2.2.2.2.2.2.2.2.2.1 s9.2.2.2.2.2.2.2.2.2.2.2.2.2.2 v_tape_bytes).bind fun u2 =>
  (f_X1_readStatement s9.2.1 s9.2.2.1 s9.2.2.2.1 s9.2.2.2.2.1 s9.2.2.2.2.2.1 s9.2.2.2.2.2.2.1 s9.2.2.2.2.2.2.2.1 s9.2.2.2.2.2.2.2.2.1 s9.2.2.2.2.2.2.2.2.2.1 s9.2.2.2.2.2.2.2.2.2.2.1 s9.2.2.2.2.2.2.2.2.2.2.2.1 v_tape_size u2.1 u2.2.1 u2.2.2 v_tape_bytes).bind fun u3 =>
  if u3.1 = (nI 0) then
    some (.inl ((-1 : Int32), u3.2.1, u3.2.2.1, u3.2.2.2.1, u3.2.2.2.2.1, u3.2.2.2.2.2.1, u3.2.2.2.2.2.2.1, u3.2.2.2.2.2.2.2.1, u3.2.2.2.2.2.2.2.2.1, u3.2.2.2.2.2.2.2.2.2.1, u3.2.2.2.2.2.2.2.2.2.2.1, u3.2.2.2.2.2.2.2.2.2.2.2.1, u3.2.2.2.2.2.2.2.2.2.2.2.2.1, u3.2.2.2.2.2.2.2.2.2.2.2.2.2.1, u3.2.2.2.2.2.2.2.2.2.2.2.2.2.2))
  else
  (f_X5_nextToken v_tape_size u3.2.2.2.2.2.2.2.2.2.2.2.2.1 u3.2.2.2.2.2.2.2.2.2.2.2.2.2.1 u3.2.2.2.2.2.2.2.2.2.2.2.2.2.2 v_tape_bytes).bind fun u5 =>
  if u5.1 = (nI 3) then
    if (s9.1 + (nI 1)) < (nI 250) then
      some (.inr (s9.1 + (nI 1), u3.2.1, u3.2.2.1, u3.2.2.2.1, u3.2.2.2.2.1, u3.2.2.2.2.2.1, u3.2.2.2.2.2.2.1, u3.2.2.2.2.2.2.2.1, u3.2.2.2.2.2.2.2.2.1, u3.2.2.2.2.2.2.2.2.2.1, u3.2.2.2.2.2.2.2.2.2.2.1, u3.2.2.2.2.2.2.2.2.2.2.2.1, u5.1, u5.2.1, u5.2.2))
    else
    f_X1_readLake_J53 (s9.1 + (nI 1)) u3.2.1 u3.2.2.1 u3.2.2.2.1 u3.2.2.2.2.1 u3.2.2.2.2.2.1 u3.2.2.2.2.2.2.1 u3.2.2.2.2.2.2.2.1 u3.2.2.2.2.2.2.2.2.1 u3.2.2.2.2.2.2.2.2.2.1 u3.2.2.2.2.2.2.2.2.2.2.1 u3.2.2.2.2.2.2.2.2.2.2.2.1 u5.1 u5.2.1 u5.2.2
  else
  f_X1_readLake_J53 (s9.1 + (nI 1)) u3.2.1 u3.2.2.1 u3.2.2.2.1 u3.2.2.2.2.1 u3.2.2.2.2.2.1 u3.2.2.2.2.2.2.1 u3.2.2.2.2.2.2.2.1 u3.2.2.2.2.2.2.2.2.1 u3.2.2.2.2.2.2.2.2.2.1 u3.2.2.2.2.2.2.2.2.2.2.1 u3.2.2.2.2.2.2.2.2.2.2.2.1 u5.1 u5.2.1 u5.2.2
def f_X1_readLake (v_number : Int32) (v_draft_inForce : Int32) (v_draft_depth : Int32) (v_draft_miss : Int32) (v_draft_ring : Int64) (v_draft_steps : Int32) (v_draft_laws_count : Int32) (v_draft_laws_kinds : (Nat → Int32)) (v_draft_laws_tunes : (Nat → Int32)) (v_draft_people_count : Int32) (v_draft_people_ages : (Nat → Int32)) (v_tape_size : Int32) (v_tape_token : Int32) (v_tape_tokenStart : Int32) (v_tape_tokenEnd : Int32) (v_tape_bytes : (Nat → Int32)) : Option (Int32 × Int32 × Int32 × Int32 × Int32 × Int64 × Int32 × Int32 × (Nat → Int32) × (Nat → Int32) × Int32 × (Nat → Int32) × Int32 × Int32 × Int32) :=
  (f_X5_rewind v_tape_tokenEnd).bind fun u1 =>
  xloop (f_X1_readLake_L9 v_tape_size v_tape_bytes) xN ((nI 0), v_number, v_draft_inForce, v_draft_depth, v_draft_miss, v_draft_ring, v_draft_steps, v_draft_laws_count, v_draft_laws_kinds, v_draft_laws_tunes, v_draft_people_count, v_draft_people_ages, v_tape_token, v_tape_tokenStart, u1)
set_option maxHeartbeats 4000000 in
set_option maxRecDepth 100000 in
theorem c_X1_readLake {l : Launch} {X : xG} {h0 h1 h2 h3 h4 h5 h6 h7 h8 g0 : Nat} {v_number : Int32} {v_draft_inForce : Int32} {v_draft_depth : Int32} {v_draft_miss : Int32} {v_draft_ring : Int64} {v_draft_steps : Int32} {v_draft_seed : Int32} {v_draft_laws_count : Int32} {v_draft_laws_kinds : (Nat → Int32)} {v_draft_laws_tunes : (Nat → Int32)} {v_draft_people_count : Int32} {v_draft_people_ages : (Nat → Int32)} {v_tape_size : Int32} {v_tape_token : Int32} {v_tape_tokenStart : Int32} {v_tape_tokenEnd : Int32} {v_tape_bytes : (Nat → Int32)} {u : Int32 × Int32 × Int32 × Int32 × Int32 × Int64 × Int32 × Int32 × (Nat → Int32) × (Nat → Int32) × Int32 × (Nat → Int32) × Int32 × Int32 × Int32} (hf : f_X1_readLake v_number v_draft_inForce v_draft_depth v_draft_miss v_draft_ring v_draft_steps v_draft_laws_count v_draft_laws_kinds v_draft_laws_tunes v_draft_people_count v_draft_people_ages v_tape_size v_tape_token v_tape_tokenStart v_tape_tokenEnd v_tape_bytes = some u) : Met l yX1_readLake (xw yX1_readLake cX1_readLake 2 (some .int)) (xrm 6 127) (xPc [.ref h0] X [(h0, xO 1 [.ref h7, .ref h1, .int v_number]), (h1, xO 0 [.ref h2, .ref h5, .int v_draft_inForce, .int v_draft_depth, .int v_draft_miss, .long v_draft_ring, .int v_draft_steps, .int v_draft_seed]), (h2, xO 2 [.ref h3, .ref h4, .int v_draft_laws_count]), (h3, xI X 6 v_draft_laws_kinds), (h4, xI X 6 v_draft_laws_tunes), (h5, xO 3 [.ref h6, .ref g0, .int v_draft_people_count]), (h6, xI X 10 v_draft_people_ages), (h7, xO 5 [.ref h8, .int v_tape_size, .int v_tape_token, .int v_tape_tokenStart, .int v_tape_tokenEnd]), (h8, xI X 250 v_tape_bytes)]) (xQw True (.returned (some (.int u.1))) X [(h0, xO 1 [.ref h7, .ref h1, .int u.2.1]), (h1, xO 0 [.ref h2, .ref h5, .int u.2.2.1, .int u.2.2.2.1, .int u.2.2.2.2.1, .long u.2.2.2.2.2.1, .int u.2.2.2.2.2.2.1, .int v_draft_seed]), (h2, xO 2 [.ref h3, .ref h4, .int u.2.2.2.2.2.2.2.1]), (h3, xI X 6 u.2.2.2.2.2.2.2.2.1), (h4, xI X 6 u.2.2.2.2.2.2.2.2.2.1), (h5, xO 3 [.ref h6, .ref g0, .int u.2.2.2.2.2.2.2.2.2.2.1]), (h6, xI X 10 u.2.2.2.2.2.2.2.2.2.2.2.1), (h7, xO 5 [.ref h8, .int v_tape_size, .int u.2.2.2.2.2.2.2.2.2.2.2.2.1, .int u.2.2.2.2.2.2.2.2.2.2.2.2.2.1, .int u.2.2.2.2.2.2.2.2.2.2.2.2.2.2]), (h8, xI X 250 v_tape_bytes)] (xAs [(h0, xO 1 [.ref h7, .ref h1, .int v_number]), (h1, xO 0 [.ref h2, .ref h5, .int v_draft_inForce, .int v_draft_depth, .int v_draft_miss, .long v_draft_ring, .int v_draft_steps, .int v_draft_seed]), (h2, xO 2 [.ref h3, .ref h4, .int v_draft_laws_count]), (h3, xI X 6 v_draft_laws_kinds), (h4, xI X 6 v_draft_laws_tunes), (h5, xO 3 [.ref h6, .ref g0, .int v_draft_people_count]), (h6, xI X 10 v_draft_people_ages), (h7, xO 5 [.ref h8, .int v_tape_size, .int v_tape_token, .int v_tape_tokenStart, .int v_tape_tokenEnd]), (h8, xI X 250 v_tape_bytes)])) 0 0 (xAs [(h0, xO 1 [.ref h7, .ref h1, .int v_number]), (h1, xO 0 [.ref h2, .ref h5, .int v_draft_inForce, .int v_draft_depth, .int v_draft_miss, .long v_draft_ring, .int v_draft_steps, .int v_draft_seed]), (h2, xO 2 [.ref h3, .ref h4, .int v_draft_laws_count]), (h3, xI X 6 v_draft_laws_kinds), (h4, xI X 6 v_draft_laws_tunes), (h5, xO 3 [.ref h6, .ref g0, .int v_draft_people_count]), (h6, xI X 10 v_draft_people_ages), (h7, xO 5 [.ref h8, .int v_tape_size, .int v_tape_token, .int v_tape_tokenStart, .int v_tape_tokenEnd]), (h8, xI X 250 v_tape_bytes)]) := by
  refine xMetw (Qc := fun A => xQw True (.returned (some (.int u.1))) X [(h0, xO 1 [.ref h7, .ref h1, .int u.2.1]), (h1, xO 0 [.ref h2, .ref h5, .int u.2.2.1, .int u.2.2.2.1, .int u.2.2.2.2.1, .long u.2.2.2.2.2.1, .int u.2.2.2.2.2.2.1, .int v_draft_seed]), (h2, xO 2 [.ref h3, .ref h4, .int u.2.2.2.2.2.2.2.1]), (h3, xI X 6 u.2.2.2.2.2.2.2.2.1), (h4, xI X 6 u.2.2.2.2.2.2.2.2.2.1), (h5, xO 3 [.ref h6, .ref g0, .int u.2.2.2.2.2.2.2.2.2.2.1]), (h6, xI X 10 u.2.2.2.2.2.2.2.2.2.2.2.1), (h7, xO 5 [.ref h8, .int v_tape_size, .int u.2.2.2.2.2.2.2.2.2.2.2.2.1, .int u.2.2.2.2.2.2.2.2.2.2.2.2.2.1, .int u.2.2.2.2.2.2.2.2.2.2.2.2.2.2]), (h8, xI X 250 v_tape_bytes)] A) (n := 0) md_X1_readLake.1 (Nat.le_of_ble_eq_true rfl) ?_
  intro p e s m args below meth c ls A hC hr hlk hH hl
  have hl : lv_has ls 2 [(0, .ref h0)] := hl
  have hx := hC.1
  have hb := hC.2.1
  have L9 : ∀ (n : Nat) (s9 : Int32 × Int32 × Int32 × Int32 × Int32 × Int64 × Int32 × Int32 × (Nat → Int32) × (Nat → Int32) × Int32 × (Nat → Int32) × Int32 × Int32 × Int32), xloop (f_X1_readLake_L9 v_tape_size v_tape_bytes) n s9 = some u → ∀ (H : Heap) (locs : List Loc), xH X A [(h0, xO 1 [.ref h7, .ref h1, .int s9.2.1]), (h1, xO 0 [.ref h2, .ref h5, .int s9.2.2.1, .int s9.2.2.2.1, .int s9.2.2.2.2.1, .long s9.2.2.2.2.2.1, .int s9.2.2.2.2.2.2.1, .int v_draft_seed]), (h2, xO 2 [.ref h3, .ref h4, .int s9.2.2.2.2.2.2.2.1]), (h3, xI X 6 s9.2.2.2.2.2.2.2.2.1), (h4, xI X 6 s9.2.2.2.2.2.2.2.2.2.1), (h5, xO 3 [.ref h6, .ref g0, .int s9.2.2.2.2.2.2.2.2.2.2.1]), (h6, xI X 10 s9.2.2.2.2.2.2.2.2.2.2.2.1), (h7, xO 5 [.ref h8, .int v_tape_size, .int s9.2.2.2.2.2.2.2.2.2.2.2.2.1, .int s9.2.2.2.2.2.2.2.2.2.2.2.2.2.1, .int s9.2.2.2.2.2.2.2.2.2.2.2.2.2.2]), (h8, xI X 250 v_tape_bytes)] s.heap H locs → ∀ (ls : Array Slot), lv_has ls 2 [(0, .ref h0), (1, .int s9.1)] → W p l e (xrm 6 127) s m args below meth c H locs 0 0 (MQ below (xQw True (.returned (some (.int u.1))) X [(h0, xO 1 [.ref h7, .ref h1, .int u.2.1]), (h1, xO 0 [.ref h2, .ref h5, .int u.2.2.1, .int u.2.2.2.1, .int u.2.2.2.2.1, .long u.2.2.2.2.2.1, .int u.2.2.2.2.2.2.1, .int v_draft_seed]), (h2, xO 2 [.ref h3, .ref h4, .int u.2.2.2.2.2.2.2.1]), (h3, xI X 6 u.2.2.2.2.2.2.2.2.1), (h4, xI X 6 u.2.2.2.2.2.2.2.2.2.1), (h5, xO 3 [.ref h6, .ref g0, .int u.2.2.2.2.2.2.2.2.2.2.1]), (h6, xI X 10 u.2.2.2.2.2.2.2.2.2.2.2.1), (h7, xO 5 [.ref h8, .int v_tape_size, .int u.2.2.2.2.2.2.2.2.2.2.2.2.1, .int u.2.2.2.2.2.2.2.2.2.2.2.2.2.1, .int u.2.2.2.2.2.2.2.2.2.2.2.2.2.2]), (h8, xI X 250 v_tape_bytes)] A) args s 0 0 A) (F0 m 9 ls []) := by
    intro  n
    induction n with
    | zero => intro s9 hf; exact xloop_0 hf
    | succ n ih9 =>
      intro s9 hf H locs hH ls hl
      obtain ⟨o9, hf, ho9⟩ := xloop_s hf
      have J53 : ∀ (j53_1 : Int32) (j53_v_number : Int32) (j53_v_draft_inForce : Int32) (j53_v_draft_depth : Int32) (j53_v_draft_miss : Int32) (j53_v_draft_ring : Int64) (j53_v_draft_steps : Int32) (j53_v_draft_laws_count : Int32) (j53_v_draft_laws_kinds : (Nat → Int32)) (j53_v_draft_laws_tunes : (Nat → Int32)) (j53_v_draft_people_count : Int32) (j53_v_draft_people_ages : (Nat → Int32)) (j53_v_tape_token : Int32) (j53_v_tape_tokenStart : Int32) (j53_v_tape_tokenEnd : Int32), f_X1_readLake_J53 j53_1 j53_v_number j53_v_draft_inForce j53_v_draft_depth j53_v_draft_miss j53_v_draft_ring j53_v_draft_steps j53_v_draft_laws_count j53_v_draft_laws_kinds j53_v_draft_laws_tunes j53_v_draft_people_count j53_v_draft_people_ages j53_v_tape_token j53_v_tape_tokenStart j53_v_tape_tokenEnd = some o9 → ∀ (H : Heap) (locs : List Loc), xH X A [(h0, xO 1 [.ref h7, .ref h1, .int j53_v_number]), (h1, xO 0 [.ref h2, .ref h5, .int j53_v_draft_inForce, .int j53_v_draft_depth, .int j53_v_draft_miss, .long j53_v_draft_ring, .int j53_v_draft_steps, .int v_draft_seed]), (h2, xO 2 [.ref h3, .ref h4, .int j53_v_draft_laws_count]), (h3, xI X 6 j53_v_draft_laws_kinds), (h4, xI X 6 j53_v_draft_laws_tunes), (h5, xO 3 [.ref h6, .ref g0, .int j53_v_draft_people_count]), (h6, xI X 10 j53_v_draft_people_ages), (h7, xO 5 [.ref h8, .int v_tape_size, .int j53_v_tape_token, .int j53_v_tape_tokenStart, .int j53_v_tape_tokenEnd]), (h8, xI X 250 v_tape_bytes)] s.heap H locs → ∀ (ls : Array Slot), lv_has ls 2 [(0, .ref h0), (1, .int j53_1)] → W p l e (xrm 6 127) s m args below meth c H locs 0 0 (MQ below (xQw True (.returned (some (.int u.1))) X [(h0, xO 1 [.ref h7, .ref h1, .int u.2.1]), (h1, xO 0 [.ref h2, .ref h5, .int u.2.2.1, .int u.2.2.2.1, .int u.2.2.2.2.1, .long u.2.2.2.2.2.1, .int u.2.2.2.2.2.2.1, .int v_draft_seed]), (h2, xO 2 [.ref h3, .ref h4, .int u.2.2.2.2.2.2.2.1]), (h3, xI X 6 u.2.2.2.2.2.2.2.2.1), (h4, xI X 6 u.2.2.2.2.2.2.2.2.2.1), (h5, xO 3 [.ref h6, .ref g0, .int u.2.2.2.2.2.2.2.2.2.2.1]), (h6, xI X 10 u.2.2.2.2.2.2.2.2.2.2.2.1), (h7, xO 5 [.ref h8, .int v_tape_size, .int u.2.2.2.2.2.2.2.2.2.2.2.2.1, .int u.2.2.2.2.2.2.2.2.2.2.2.2.2.1, .int u.2.2.2.2.2.2.2.2.2.2.2.2.2.2]), (h8, xI X 250 v_tape_bytes)] A) args s 0 0 A) (F0 m 53 ls []) := by
        intro j53_1 j53_v_number j53_v_draft_inForce j53_v_draft_depth j53_v_draft_miss j53_v_draft_ring j53_v_draft_steps j53_v_draft_laws_count j53_v_draft_laws_kinds j53_v_draft_laws_tunes j53_v_draft_people_count j53_v_draft_people_ages j53_v_tape_token j53_v_tape_tokenStart j53_v_tape_tokenEnd hf H locs hH ls hl
        refine lv_aload_n hx hb dX1_readLake_53 rfl (lv_at hl 0 rfl) ?_
        refine x_get hC fd_RX1_12 hH.1 0 rfl rfl dX1_readLake_54 ?_
        refine x_getN hC fd_RX1_35 hH.1 7 rfl rfl dX1_readLake_57 ?_
        refine lv_if_ne (tgt := 67) hx hb dX1_readLake_60 (by decide) (fun c7 => ?_) (fun c7 => ?_)
        · have hf := xe c7 hf
          refine lv_iconst (v := (-1 : Int32)) hx hb dX1_readLake_67 (by decide) ?_
          have hf := xo_ret hf ho9
          exact x_retiw (φ := fun _ => True) (f := fun u : Int32 × Int32 × Int32 × Int32 × Int32 × Int64 × Int32 × Int32 × (Nat → Int32) × (Nat → Int32) × Int32 × (Nat → Int32) × Int32 × Int32 × Int32 => u.1) (wf := fun u : Int32 × Int32 × Int32 × Int32 × Int32 × Int64 × Int32 × Int32 × (Nat → Int32) × (Nat → Int32) × Int32 × (Nat → Int32) × Int32 × Int32 × Int32 => [(h0, xO 1 [.ref h7, .ref h1, .int u.2.1]), (h1, xO 0 [.ref h2, .ref h5, .int u.2.2.1, .int u.2.2.2.1, .int u.2.2.2.2.1, .long u.2.2.2.2.2.1, .int u.2.2.2.2.2.2.1, .int v_draft_seed]), (h2, xO 2 [.ref h3, .ref h4, .int u.2.2.2.2.2.2.2.1]), (h3, xI X 6 u.2.2.2.2.2.2.2.2.1), (h4, xI X 6 u.2.2.2.2.2.2.2.2.2.1), (h5, xO 3 [.ref h6, .ref g0, .int u.2.2.2.2.2.2.2.2.2.2.1]), (h6, xI X 10 u.2.2.2.2.2.2.2.2.2.2.2.1), (h7, xO 5 [.ref h8, .int v_tape_size, .int u.2.2.2.2.2.2.2.2.2.2.2.2.1, .int u.2.2.2.2.2.2.2.2.2.2.2.2.2.1, .int u.2.2.2.2.2.2.2.2.2.2.2.2.2.2]), (h8, xI X 250 v_tape_bytes)]) hC hr hlk trivial hf hH rfl rfl dX1_readLake_68
        · have hf := xt c7 hf
          refine lv_iload_n hx hb dX1_readLake_63 rfl (lv_at hl 1 rfl) ?_
          refine lv_goto (tgt := 68) hx hb dX1_readLake_64 (by decide) ?_
          have hf := xo_ret hf ho9
          exact x_retiw (φ := fun _ => True) (f := fun u : Int32 × Int32 × Int32 × Int32 × Int32 × Int64 × Int32 × Int32 × (Nat → Int32) × (Nat → Int32) × Int32 × (Nat → Int32) × Int32 × Int32 × Int32 => u.1) (wf := fun u : Int32 × Int32 × Int32 × Int32 × Int32 × Int64 × Int32 × Int32 × (Nat → Int32) × (Nat → Int32) × Int32 × (Nat → Int32) × Int32 × Int32 × Int32 => [(h0, xO 1 [.ref h7, .ref h1, .int u.2.1]), (h1, xO 0 [.ref h2, .ref h5, .int u.2.2.1, .int u.2.2.2.1, .int u.2.2.2.2.1, .long u.2.2.2.2.2.1, .int u.2.2.2.2.2.2.1, .int v_draft_seed]), (h2, xO 2 [.ref h3, .ref h4, .int u.2.2.2.2.2.2.2.1]), (h3, xI X 6 u.2.2.2.2.2.2.2.2.1), (h4, xI X 6 u.2.2.2.2.2.2.2.2.2.1), (h5, xO 3 [.ref h6, .ref g0, .int u.2.2.2.2.2.2.2.2.2.2.1]), (h6, xI X 10 u.2.2.2.2.2.2.2.2.2.2.2.1), (h7, xO 5 [.ref h8, .int v_tape_size, .int u.2.2.2.2.2.2.2.2.2.2.2.2.1, .int u.2.2.2.2.2.2.2.2.2.2.2.2.2.1, .int u.2.2.2.2.2.2.2.2.2.2.2.2.2.2]), (h8, xI X 250 v_tape_bytes)]) hC hr hlk trivial hf hH rfl rfl dX1_readLake_68
      refine lv_aload_n hx hb dX1_readLake_9 rfl (lv_at hl 0 rfl) ?_
      refine x_get hC fd_RX1_12 hH.1 0 rfl rfl dX1_readLake_10 ?_
      obtain ⟨u2, hf2, hf⟩ := xb hf
      refine x_ranw (ws' := [(h0, xO 1 [.ref h7, .ref h1, .int s9.2.1]), (h1, xO 0 [.ref h2, .ref h5, .int s9.2.2.1, .int s9.2.2.2.1, .int s9.2.2.2.2.1, .long s9.2.2.2.2.2.1, .int s9.2.2.2.2.2.2.1, .int v_draft_seed]), (h2, xO 2 [.ref h3, .ref h4, .int s9.2.2.2.2.2.2.2.1]), (h3, xI X 6 s9.2.2.2.2.2.2.2.2.1), (h4, xI X 6 s9.2.2.2.2.2.2.2.2.2.1), (h5, xO 3 [.ref h6, .ref g0, .int s9.2.2.2.2.2.2.2.2.2.2.1]), (h6, xI X 10 s9.2.2.2.2.2.2.2.2.2.2.2.1), (h7, xO 5 [.ref h8, .int v_tape_size, .int u2.1, .int u2.2.1, .int u2.2.2]), (h8, xI X 250 v_tape_bytes)]) (x_runV (q0 := 0) (rest := []) (As := []) hC mw_469 md_X5_nextToken (c_X5_nextToken (X := X) hf2) hH [7, 8] rfl (by decide) rfl rfl rfl hl.1 rfl rfl (Nat.le_of_ble_eq_true rfl) dX1_readLake_13 ⟨Nat.le_of_ble_eq_true rfl, Nat.le_of_ble_eq_true rfl⟩ ⟨rfl, rfl⟩ ⟨Nat.le_refl _, Nat.le_refl _⟩) hH [7, 8] rfl rfl rfl rfl rfl (fun hz2 H locs hH => ?_)
      refine lv_aload_n hx hb dX1_readLake_16 rfl (lv_at hl 0 rfl) ?_
      obtain ⟨u3, hf3, hf⟩ := xb hf
      refine x_ranw (ws' := [(h0, xO 1 [.ref h7, .ref h1, .int u3.2.1]), (h1, xO 0 [.ref h2, .ref h5, .int u3.2.2.1, .int u3.2.2.2.1, .int u3.2.2.2.2.1, .long u3.2.2.2.2.2.1, .int u3.2.2.2.2.2.2.1, .int v_draft_seed]), (h2, xO 2 [.ref h3, .ref h4, .int u3.2.2.2.2.2.2.2.1]), (h3, xI X 6 u3.2.2.2.2.2.2.2.2.1), (h4, xI X 6 u3.2.2.2.2.2.2.2.2.2.1), (h5, xO 3 [.ref h6, .ref g0, .int u3.2.2.2.2.2.2.2.2.2.2.1]), (h6, xI X 10 u3.2.2.2.2.2.2.2.2.2.2.2.1), (h7, xO 5 [.ref h8, .int v_tape_size, .int u3.2.2.2.2.2.2.2.2.2.2.2.2.1, .int u3.2.2.2.2.2.2.2.2.2.2.2.2.2.1, .int u3.2.2.2.2.2.2.2.2.2.2.2.2.2.2]), (h8, xI X 250 v_tape_bytes)]) (x_runV (q0 := 0) (rest := []) (As := []) hC mw_486 md_X1_readStatement (c_X1_readStatement (X := X) hf3) hH [0, 1, 2, 3, 4, 5, 6, 7, 8] rfl (by decide) rfl rfl rfl hl.1 rfl rfl (Nat.le_of_ble_eq_true rfl) dX1_readLake_17 ⟨Nat.le_of_ble_eq_true rfl, Nat.le_of_ble_eq_true rfl⟩ ⟨rfl, rfl⟩ ⟨Nat.le_refl _, Nat.le_refl _⟩) hH [0, 1, 2, 3, 4, 5, 6, 7, 8] rfl rfl rfl rfl rfl (fun hz3 H locs hH => ?_)
      refine lv_if_ne (tgt := 25) hx hb dX1_readLake_20 (by decide) (fun c4 => ?_) (fun c4 => ?_)
      · have hf := xe c4 hf
        refine lv_iinc (v := s9.1 + (nI 1)) (lv' := [(1, .int (s9.1 + (nI 1))), (0, .ref h0)]) hx hb dX1_readLake_25 hl (k := 1) rfl rfl (by decide) rfl (fun ls hl => ?_)
        refine lv_aload_n hx hb dX1_readLake_28 rfl (lv_at hl 1 rfl) ?_
        refine x_get hC fd_RX1_12 hH.1 0 rfl rfl dX1_readLake_29 ?_
        obtain ⟨u5, hf5, hf⟩ := xb hf
        refine x_ranw (ws' := [(h0, xO 1 [.ref h7, .ref h1, .int u3.2.1]), (h1, xO 0 [.ref h2, .ref h5, .int u3.2.2.1, .int u3.2.2.2.1, .int u3.2.2.2.2.1, .long u3.2.2.2.2.2.1, .int u3.2.2.2.2.2.2.1, .int v_draft_seed]), (h2, xO 2 [.ref h3, .ref h4, .int u3.2.2.2.2.2.2.2.1]), (h3, xI X 6 u3.2.2.2.2.2.2.2.2.1), (h4, xI X 6 u3.2.2.2.2.2.2.2.2.2.1), (h5, xO 3 [.ref h6, .ref g0, .int u3.2.2.2.2.2.2.2.2.2.2.1]), (h6, xI X 10 u3.2.2.2.2.2.2.2.2.2.2.2.1), (h7, xO 5 [.ref h8, .int v_tape_size, .int u5.1, .int u5.2.1, .int u5.2.2]), (h8, xI X 250 v_tape_bytes)]) (x_runV (q0 := 0) (rest := []) (As := []) hC mw_469 md_X5_nextToken (c_X5_nextToken (X := X) hf5) hH [7, 8] rfl (by decide) rfl rfl rfl hl.1 rfl rfl (Nat.le_of_ble_eq_true rfl) dX1_readLake_32 ⟨Nat.le_of_ble_eq_true rfl, Nat.le_of_ble_eq_true rfl⟩ ⟨rfl, rfl⟩ ⟨Nat.le_refl _, Nat.le_refl _⟩) hH [7, 8] rfl rfl rfl rfl rfl (fun hz5 H locs hH => ?_)
        refine lv_aload_n hx hb dX1_readLake_35 rfl (lv_at hl 1 rfl) ?_
        refine x_get hC fd_RX1_12 hH.1 0 rfl rfl dX1_readLake_36 ?_
        refine x_getN hC fd_RX1_35 hH.1 7 rfl rfl dX1_readLake_39 ?_
        refine lv_iconst (v := (nI 3)) hx hb dX1_readLake_42 (by decide) ?_
        refine lv_icmp_ne (tgt := 53) hx hb dX1_readLake_43 (by decide) (fun c6 => ?_) (fun c6 => ?_)
        · have hf := xe c6 hf
          exact J53 (s9.1 + (nI 1)) u3.2.1 u3.2.2.1 u3.2.2.2.1 u3.2.2.2.2.1 u3.2.2.2.2.2.1 u3.2.2.2.2.2.2.1 u3.2.2.2.2.2.2.2.1 u3.2.2.2.2.2.2.2.2.1 u3.2.2.2.2.2.2.2.2.2.1 u3.2.2.2.2.2.2.2.2.2.2.1 u3.2.2.2.2.2.2.2.2.2.2.2.1 u5.1 u5.2.1 u5.2.2 hf _ _ hH ls (lv_sub hl [1, 0] rfl)
        · have hf := xt c6 hf
          refine lv_iload_n hx hb dX1_readLake_46 rfl (lv_at hl 0 rfl) ?_
          refine lv_sipush (v := (nI 250)) hx hb dX1_readLake_47 (by decide) ?_
          refine lv_icmp_lt (tgt := 9) hx hb dX1_readLake_50 (by decide) (fun c8 => ?_) (fun c8 => ?_)
          · have hf := xt c8 hf
            have hf := xo_go hf ho9
            exact ih9 (s9.1 + (nI 1), u3.2.1, u3.2.2.1, u3.2.2.2.1, u3.2.2.2.2.1, u3.2.2.2.2.2.1, u3.2.2.2.2.2.2.1, u3.2.2.2.2.2.2.2.1, u3.2.2.2.2.2.2.2.2.1, u3.2.2.2.2.2.2.2.2.2.1, u3.2.2.2.2.2.2.2.2.2.2.1, u3.2.2.2.2.2.2.2.2.2.2.2.1, u5.1, u5.2.1, u5.2.2) hf _ _ hH ls (lv_sub hl [1, 0] rfl)
          · have hf := xe c8 hf
            exact J53 (s9.1 + (nI 1)) u3.2.1 u3.2.2.1 u3.2.2.2.1 u3.2.2.2.2.1 u3.2.2.2.2.2.1 u3.2.2.2.2.2.2.1 u3.2.2.2.2.2.2.2.1 u3.2.2.2.2.2.2.2.2.1 u3.2.2.2.2.2.2.2.2.2.1 u3.2.2.2.2.2.2.2.2.2.2.1 u3.2.2.2.2.2.2.2.2.2.2.2.1 u5.1 u5.2.1 u5.2.2 hf _ _ hH ls (lv_sub hl [1, 0] rfl)
      · have hf := xt c4 hf
        refine lv_iconst (v := (-1 : Int32)) hx hb dX1_readLake_23 (by decide) ?_
        have hf := xo_ret hf ho9
        exact x_retiw (φ := fun _ => True) (f := fun u : Int32 × Int32 × Int32 × Int32 × Int32 × Int64 × Int32 × Int32 × (Nat → Int32) × (Nat → Int32) × Int32 × (Nat → Int32) × Int32 × Int32 × Int32 => u.1) (wf := fun u : Int32 × Int32 × Int32 × Int32 × Int32 × Int64 × Int32 × Int32 × (Nat → Int32) × (Nat → Int32) × Int32 × (Nat → Int32) × Int32 × Int32 × Int32 => [(h0, xO 1 [.ref h7, .ref h1, .int u.2.1]), (h1, xO 0 [.ref h2, .ref h5, .int u.2.2.1, .int u.2.2.2.1, .int u.2.2.2.2.1, .long u.2.2.2.2.2.1, .int u.2.2.2.2.2.2.1, .int v_draft_seed]), (h2, xO 2 [.ref h3, .ref h4, .int u.2.2.2.2.2.2.2.1]), (h3, xI X 6 u.2.2.2.2.2.2.2.2.1), (h4, xI X 6 u.2.2.2.2.2.2.2.2.2.1), (h5, xO 3 [.ref h6, .ref g0, .int u.2.2.2.2.2.2.2.2.2.2.1]), (h6, xI X 10 u.2.2.2.2.2.2.2.2.2.2.2.1), (h7, xO 5 [.ref h8, .int v_tape_size, .int u.2.2.2.2.2.2.2.2.2.2.2.2.1, .int u.2.2.2.2.2.2.2.2.2.2.2.2.2.1, .int u.2.2.2.2.2.2.2.2.2.2.2.2.2.2]), (h8, xI X 250 v_tape_bytes)]) hC hr hlk trivial hf hH rfl rfl dX1_readLake_24
  refine lv_aload_n hx hb dX1_readLake_0 rfl (lv_at hl 0 rfl) ?_
  refine x_get hC fd_RX1_12 hH.1 0 rfl rfl dX1_readLake_1 ?_
  obtain ⟨u1, hf1, hf⟩ := xb hf
  refine x_ranw (ws' := [(h0, xO 1 [.ref h7, .ref h1, .int v_number]), (h1, xO 0 [.ref h2, .ref h5, .int v_draft_inForce, .int v_draft_depth, .int v_draft_miss, .long v_draft_ring, .int v_draft_steps, .int v_draft_seed]), (h2, xO 2 [.ref h3, .ref h4, .int v_draft_laws_count]), (h3, xI X 6 v_draft_laws_kinds), (h4, xI X 6 v_draft_laws_tunes), (h5, xO 3 [.ref h6, .ref g0, .int v_draft_people_count]), (h6, xI X 10 v_draft_people_ages), (h7, xO 5 [.ref h8, .int v_tape_size, .int v_tape_token, .int v_tape_tokenStart, .int u1]), (h8, xI X 250 v_tape_bytes)]) (x_runV (q0 := 0) (rest := []) (As := []) hC mw_464 md_X5_rewind (c_X5_rewind (X := X) hf1) hH [7] rfl (by decide) rfl rfl rfl hl.1 rfl rfl (Nat.le_of_ble_eq_true rfl) dX1_readLake_4 ⟨Nat.le_of_ble_eq_true rfl, Nat.le_of_ble_eq_true rfl⟩ ⟨rfl, rfl⟩ ⟨Nat.le_refl _, Nat.le_refl _⟩) hH [7] rfl rfl rfl rfl rfl (fun hz1 H locs hH => ?_)
  refine lv_iconst (v := (nI 0)) hx hb dX1_readLake_7 (by decide) ?_
  refine lv_istore_n (lv' := [(1, .int (nI 0)), (0, .ref h0)]) hx hb dX1_readLake_8 rfl hl (by decide) rfl (fun ls hl => ?_)
  exact L9 xN ((nI 0), v_number, v_draft_inForce, v_draft_depth, v_draft_miss, v_draft_ring, v_draft_steps, v_draft_laws_count, v_draft_laws_kinds, v_draft_laws_tunes, v_draft_people_count, v_draft_people_ages, v_tape_token, v_tape_tokenStart, u1) hf _ _ hH ls (lv_sub hl [1, 0] rfl)
def f_X2_isKind (p0 : Int32) : Option (Int32) :=
  (f_X6_isWithin p0 (nI 0) (nI 5)).bind fun u1 =>
  some u1
set_option maxHeartbeats 4000000 in
set_option maxRecDepth 100000 in
theorem c_X2_isKind {l : Launch} {X : xG} {p0 : Int32} {u : Int32} (hf : f_X2_isKind p0 = some u) : Met l yX2_isKind (xw yX2_isKind cX2_isKind 1 (some .boolean)) (xrm 1 22) (xPc [.int p0] X []) (xQ (u = 0 ∨ u = 1) (.returned (some (.int u)))) 0 0 xNo := by
  refine xMet (n := 1) md_X2_isKind.1 (Nat.le_of_ble_eq_true rfl) ?_
  intro p e s m args below meth c ls A hC hr hlk hH hl
  have hl : lv_has ls 1 [(0, .int p0)] := hl
  have hx := hC.1
  have hb := hC.2.1
  refine lv_iload_n hx hb dX2_isKind_0 rfl (lv_at hl 0 rfl) ?_
  refine lv_iconst (v := (nI 0)) hx hb dX2_isKind_1 (by decide) ?_
  refine lv_iconst (v := (nI 5)) hx hb dX2_isKind_2 (by decide) ?_
  obtain ⟨u1, hf1, hf⟩ := xb hf
  refine x_ran (x_runSN (rest := []) (As := [.int p0, .int (nI 0), .int (nI 5)]) hC mn_RX2_18 md_X6_isWithin (c_X6_isWithin (X := X) hf1) hH [] rfl (by decide) hl.1 rfl rfl (Nat.le_of_ble_eq_true rfl) dX2_isKind_3 ⟨Nat.le_of_ble_eq_true rfl, Nat.le_of_ble_eq_true rfl⟩ ⟨rfl, rfl⟩ ⟨Nat.le_refl _, Nat.le_refl _⟩) rfl (fun hz1 => ?_)
  exact x_retz hC hr hlk hz1 hf dX2_isKind_6
def f_X2_isUnder_J21 (p0 : Int32) (p1 : Int32) : Option (Int32) :=
  if p0 = (nI 4) then
    if p1 = (nI 2) then
      some (nI 1)
    else
    some (nI 0)
  else
  some (nI 0)
def f_X2_isUnder (p0 : Int32) (p1 : Int32) : Option (Int32) :=
  if p1 = (nI 0) then
    some (nI 1)
  else
  if p1 = p0 then
    some (nI 1)
  else
  if p0 = (nI 3) then
    if p1 = (nI 1) then
      some (nI 1)
    else
    f_X2_isUnder_J21 p0 p1
  else
  f_X2_isUnder_J21 p0 p1
set_option maxHeartbeats 4000000 in
set_option maxRecDepth 100000 in
theorem c_X2_isUnder {l : Launch} {X : xG} {p0 : Int32} {p1 : Int32} {u : Int32} (hf : f_X2_isUnder p0 p1 = some u) : Met l yX2_isUnder (xw yX2_isUnder cX2_isUnder 2 (some .boolean)) (xrm 0 0) (xPc [.int p0, .int p1] X []) (xQ (u = 0 ∨ u = 1) (.returned (some (.int u)))) 0 0 xNo := by
  refine xMet (n := 2) md_X2_isUnder.1 (Nat.le_of_ble_eq_true rfl) ?_
  intro p e s m args below meth c ls A hC hr hlk hH hl
  have hl : lv_has ls 2 [(0, .int p0), (1, .int p1)] := hl
  have hx := hC.1
  have hb := hC.2.1
  have J21 : ∀ (_ : True), f_X2_isUnder_J21 p0 p1 = some u → ∀ (ls : Array Slot), lv_has ls 2 [(0, .int p0), (1, .int p1)] → W p l e (xrm 0 0) s m args below meth c s.heap [] 0 0 (MQ below (xQ (u = 0 ∨ u = 1) (.returned (some (.int u)))) args s 0 0 xNo) (F0 m 21 ls []) := by
    intro _ hf ls hl
    refine lv_iload_n hx hb dX2_isUnder_21 rfl (lv_at hl 0 rfl) ?_
    refine lv_iconst (v := (nI 4)) hx hb dX2_isUnder_22 (by decide) ?_
    refine lv_icmp_ne (tgt := 35) hx hb dX2_isUnder_23 (by decide) (fun c4 => ?_) (fun c4 => ?_)
    · have hf := xe c4 hf
      refine lv_iconst (v := (nI 0)) hx hb dX2_isUnder_35 (by decide) ?_
      exact x_retz hC hr hlk (Or.inl rfl) hf dX2_isUnder_36
    · have hf := xt c4 hf
      refine lv_iload_n hx hb dX2_isUnder_26 rfl (lv_at hl 1 rfl) ?_
      refine lv_iconst (v := (nI 2)) hx hb dX2_isUnder_27 (by decide) ?_
      refine lv_icmp_ne (tgt := 35) hx hb dX2_isUnder_28 (by decide) (fun c5 => ?_) (fun c5 => ?_)
      · have hf := xe c5 hf
        refine lv_iconst (v := (nI 0)) hx hb dX2_isUnder_35 (by decide) ?_
        exact x_retz hC hr hlk (Or.inl rfl) hf dX2_isUnder_36
      · have hf := xt c5 hf
        refine lv_iconst (v := (nI 1)) hx hb dX2_isUnder_31 (by decide) ?_
        refine lv_goto (tgt := 36) hx hb dX2_isUnder_32 (by decide) ?_
        exact x_retz hC hr hlk (Or.inr rfl) hf dX2_isUnder_36
  refine lv_iload_n hx hb dX2_isUnder_0 rfl (lv_at hl 1 rfl) ?_
  refine lv_if_eq (tgt := 9) hx hb dX2_isUnder_1 (by decide) (fun c1 => ?_) (fun c1 => ?_)
  · have hf := xt c1 hf
    refine lv_iconst (v := (nI 1)) hx hb dX2_isUnder_9 (by decide) ?_
    exact x_retz hC hr hlk (Or.inr rfl) hf dX2_isUnder_10
  · have hf := xe c1 hf
    refine lv_iload_n hx hb dX2_isUnder_4 rfl (lv_at hl 1 rfl) ?_
    refine lv_iload_n hx hb dX2_isUnder_5 rfl (lv_at hl 0 rfl) ?_
    refine lv_icmp_ne (tgt := 11) hx hb dX2_isUnder_6 (by decide) (fun c2 => ?_) (fun c2 => ?_)
    · have hf := xe c2 hf
      refine lv_iload_n hx hb dX2_isUnder_11 rfl (lv_at hl 0 rfl) ?_
      refine lv_iconst (v := (nI 3)) hx hb dX2_isUnder_12 (by decide) ?_
      refine lv_icmp_ne (tgt := 21) hx hb dX2_isUnder_13 (by decide) (fun c3 => ?_) (fun c3 => ?_)
      · have hf := xe c3 hf
        exact J21 trivial hf ls (lv_sub hl [0, 1] rfl)
      · have hf := xt c3 hf
        refine lv_iload_n hx hb dX2_isUnder_16 rfl (lv_at hl 1 rfl) ?_
        refine lv_iconst (v := (nI 1)) hx hb dX2_isUnder_17 (by decide) ?_
        refine lv_icmp_eq (tgt := 31) hx hb dX2_isUnder_18 (by decide) (fun c6 => ?_) (fun c6 => ?_)
        · have hf := xt c6 hf
          refine lv_iconst (v := (nI 1)) hx hb dX2_isUnder_31 (by decide) ?_
          refine lv_goto (tgt := 36) hx hb dX2_isUnder_32 (by decide) ?_
          exact x_retz hC hr hlk (Or.inr rfl) hf dX2_isUnder_36
        · have hf := xe c6 hf
          exact J21 trivial hf ls (lv_sub hl [0, 1] rfl)
    · have hf := xt c2 hf
      refine lv_iconst (v := (nI 1)) hx hb dX2_isUnder_9 (by decide) ?_
      exact x_retz hC hr hlk (Or.inr rfl) hf dX2_isUnder_10
def f_X2_strikesJustAt_L3 (v_count : Int32) (v_kinds : (Nat → Int32)) (v_tunes : (Nat → Int32)) (p1 : Int32) (p2 : Int64) (p3 : Int32) (p4 : Int32) (s3 : Int32) : Option ((Int32) ⊕ (Int32)) :=
  if p3 ≤ s3 then
    some (.inl (nI 1))
  else
  (f_X2_strikesAt v_count v_kinds v_tunes p1 p2 p3 s3).bind fun u2 =>
  (f_X6_isIn (Int32.toInt64 p4) s3).bind fun u3 =>
  if u2 = u3 then
    some (.inr (s3 + (nI 1)))
  else
  some (.inl (nI 0))
def f_X2_strikesJustAt (v_count : Int32) (v_kinds : (Nat → Int32)) (v_tunes : (Nat → Int32)) (p1 : Int32) (p2 : Int64) (p3 : Int32) (p4 : Int32) : Option (Int32) :=
  xloop (f_X2_strikesJustAt_L3 v_count v_kinds v_tunes p1 p2 p3 p4) xN (nI 0)
set_option maxHeartbeats 4000000 in
set_option maxRecDepth 100000 in
theorem c_X2_strikesJustAt {l : Launch} {X : xG} {h0 h1 h2 : Nat} {v_count : Int32} {v_kinds : (Nat → Int32)} {v_tunes : (Nat → Int32)} {p1 : Int32} {p2 : Int64} {p3 : Int32} {p4 : Int32} {u : Int32} (hf : f_X2_strikesJustAt v_count v_kinds v_tunes p1 p2 p3 p4 = some u) : Met l yX2_strikesJustAt (xw yX2_strikesJustAt cX2_strikesJustAt 7 (some .boolean)) (xrm 3 74) (xPc [.ref h0, .int p1, .long p2, .int p3, .int p4] X [(h0, xO 2 [.ref h1, .ref h2, .int v_count]), (h1, xI X 6 v_kinds), (h2, xI X 6 v_tunes)]) (xQ (u = 0 ∨ u = 1) (.returned (some (.int u)))) 0 0 xNo := by
  refine xMet (n := 4) md_X2_strikesJustAt.1 (Nat.le_of_ble_eq_true rfl) ?_
  intro p e s m args below meth c ls A hC hr hlk hH hl
  have hl : lv_has ls 7 [(0, .ref h0), (1, .int p1), (2, .long p2), (4, .int p3), (5, .int p4)] := hl
  have hx := hC.1
  have hb := hC.2.1
  have L3 : ∀ (n : Nat) (s3 : Int32), xloop (f_X2_strikesJustAt_L3 v_count v_kinds v_tunes p1 p2 p3 p4) n s3 = some u → ∀ (ls : Array Slot), lv_has ls 7 [(0, .ref h0), (1, .int p1), (2, .long p2), (4, .int p3), (5, .int p4), (6, .int s3)] → W p l e (xrm 3 74) s m args below meth c s.heap [] 0 0 (MQ below (xQ (u = 0 ∨ u = 1) (.returned (some (.int u)))) args s 0 0 xNo) (F0 m 3 ls []) := by
    intro  n
    induction n with
    | zero => intro s3 hf; exact xloop_0 hf
    | succ n ih3 =>
      intro s3 hf ls hl
      obtain ⟨o3, hf, ho3⟩ := xloop_s hf
      refine lv_iload hx hb dX2_strikesJustAt_3 (lv_at hl 5 rfl) ?_
      refine lv_iload hx hb dX2_strikesJustAt_5 (lv_at hl 3 rfl) ?_
      refine lv_icmp_ge (tgt := 39) hx hb dX2_strikesJustAt_7 (by decide) (fun c1 => ?_) (fun c1 => ?_)
      · have hf := xt c1 hf
        refine lv_iconst (v := (nI 1)) hx hb dX2_strikesJustAt_39 (by decide) ?_
        have hf := xo_ret hf ho3
        exact x_retz hC hr hlk (Or.inr rfl) hf dX2_strikesJustAt_40
      · have hf := xe c1 hf
        refine lv_aload_n hx hb dX2_strikesJustAt_10 rfl (lv_at hl 0 rfl) ?_
        refine lv_iload_n hx hb dX2_strikesJustAt_11 rfl (lv_at hl 1 rfl) ?_
        refine lv_lload_n hx hb dX2_strikesJustAt_12 rfl (lv_at hl 2 rfl) ?_
        refine lv_iload hx hb dX2_strikesJustAt_13 (lv_at hl 3 rfl) ?_
        refine lv_iload hx hb dX2_strikesJustAt_15 (lv_at hl 5 rfl) ?_
        obtain ⟨u2, hf2, hf⟩ := xb hf
        refine x_ran (x_runV (q0 := 0) (rest := []) (As := [.int p1, .long p2, .int p3, .int s3]) hC mw_282 md_X2_strikesAt (c_X2_strikesAt (X := X) hf2) hH [0, 1, 2] rfl (by decide) rfl rfl rfl hl.1 rfl rfl (Nat.le_of_ble_eq_true rfl) dX2_strikesJustAt_17 ⟨Nat.le_of_ble_eq_true rfl, Nat.le_of_ble_eq_true rfl⟩ ⟨rfl, rfl⟩ ⟨Nat.le_refl _, Nat.le_refl _⟩) rfl (fun hz2 => ?_)
        refine lv_iload hx hb dX2_strikesJustAt_20 (lv_at hl 4 rfl) ?_
        refine lv_i2l hx hb dX2_strikesJustAt_22 rfl ?_
        refine lv_iload hx hb dX2_strikesJustAt_23 (lv_at hl 5 rfl) ?_
        obtain ⟨u3, hf3, hf⟩ := xb hf
        refine x_ran (x_runSN (rest := [.int u2]) (As := [.long (Int32.toInt64 p4), .int s3]) hC mn_RX2_68 md_X6_isIn (c_X6_isIn (X := X) hf3) hH [] rfl (by decide) hl.1 rfl rfl (Nat.le_of_ble_eq_true rfl) dX2_strikesJustAt_25 ⟨Nat.le_of_ble_eq_true rfl, Nat.le_of_ble_eq_true rfl⟩ ⟨rfl, rfl⟩ ⟨Nat.le_refl _, Nat.le_refl _⟩) rfl (fun hz3 => ?_)
        refine lv_icmp_eq (tgt := 33) hx hb dX2_strikesJustAt_28 (by decide) (fun c4 => ?_) (fun c4 => ?_)
        · have hf := xt c4 hf
          refine lv_iinc (v := s3 + (nI 1)) (lv' := [(6, .int (s3 + (nI 1))), (0, .ref h0), (1, .int p1), (2, .long p2), (4, .int p3), (5, .int p4)]) hx hb dX2_strikesJustAt_33 hl (k := 5) rfl rfl (by decide) rfl (fun ls hl => ?_)
          refine lv_goto (tgt := 3) hx hb dX2_strikesJustAt_36 (by decide) ?_
          have hf := xo_go hf ho3
          exact ih3 (s3 + (nI 1)) hf ls (lv_sub hl [1, 2, 3, 4, 5, 0] rfl)
        · have hf := xe c4 hf
          refine lv_iconst (v := (nI 0)) hx hb dX2_strikesJustAt_31 (by decide) ?_
          have hf := xo_ret hf ho3
          exact x_retz hC hr hlk (Or.inl rfl) hf dX2_strikesJustAt_32
  refine lv_iconst (v := (nI 0)) hx hb dX2_strikesJustAt_0 (by decide) ?_
  refine lv_istore (lv' := [(6, .int (nI 0)), (0, .ref h0), (1, .int p1), (2, .long p2), (4, .int p3), (5, .int p4)]) hx hb dX2_strikesJustAt_1 hl (by decide) rfl (fun ls hl => ?_)
  exact L3 xN (nI 0) hf ls (lv_sub hl [1, 2, 3, 4, 5, 0] rfl)
def f_X2_leastRingStruckAt_L11 (v_count : Int32) (v_kinds : (Nat → Int32)) (v_tunes : (Nat → Int32)) (p1 : Int32) (p2 : Int32) (p3 : Int32) (s11 : Int32 × Int32 × Int32) : Option ((Int32) ⊕ (Int32 × Int32 × Int32)) :=
  if (xshl (nI 1) p2) ≤ s11.2.2 then
    some (.inl s11.1)
  else
  (f_J6_bitCount_0f7a4 s11.2.2).bind fun u2 =>
  if s11.2.1 ≤ u2 then
    some (.inr (s11.1, s11.2.1, s11.2.2 + (nI 1)))
  else
  (f_X2_strikesJustAt v_count v_kinds v_tunes p1 (Int32.toInt64 s11.2.2) p2 p3).bind fun u4 =>
  if u4 = (nI 0) then
    some (.inr (s11.1, s11.2.1, s11.2.2 + (nI 1)))
  else
  some (.inr (s11.2.2, u2, s11.2.2 + (nI 1)))
def f_X2_leastRingStruckAt (v_count : Int32) (v_kinds : (Nat → Int32)) (v_tunes : (Nat → Int32)) (p1 : Int32) (p2 : Int32) (p3 : Int32) : Option (Int32) :=
  xloop (f_X2_leastRingStruckAt_L11 v_count v_kinds v_tunes p1 p2 p3) xN ((-1 : Int32), p2 + (nI 1), (nI 0))
set_option maxHeartbeats 4000000 in
set_option maxRecDepth 100000 in
theorem c_X2_leastRingStruckAt {l : Launch} {X : xG} {h0 h1 h2 : Nat} {v_count : Int32} {v_kinds : (Nat → Int32)} {v_tunes : (Nat → Int32)} {p1 : Int32} {p2 : Int32} {p3 : Int32} {u : Int32} (hf : f_X2_leastRingStruckAt v_count v_kinds v_tunes p1 p2 p3 = some u) : Met l yX2_leastRingStruckAt (xw yX2_leastRingStruckAt cX2_leastRingStruckAt 8 (some .int)) (xrm 4 100) (xPc [.ref h0, .int p1, .int p2, .int p3] X [(h0, xO 2 [.ref h1, .ref h2, .int v_count]), (h1, xI X 6 v_kinds), (h2, xI X 6 v_tunes)]) (xQ True (.returned (some (.int u)))) 0 0 xNo := by
  refine xMet (n := 3) md_X2_leastRingStruckAt.1 (Nat.le_of_ble_eq_true rfl) ?_
  intro p e s m args below meth c ls A hC hr hlk hH hl
  have hl : lv_has ls 8 [(0, .ref h0), (1, .int p1), (2, .int p2), (3, .int p3)] := hl
  have hx := hC.1
  have hb := hC.2.1
  have L11 : ∀ (n : Nat) (s11 : Int32 × Int32 × Int32), xloop (f_X2_leastRingStruckAt_L11 v_count v_kinds v_tunes p1 p2 p3) n s11 = some u → ∀ (ls : Array Slot), lv_has ls 8 [(0, .ref h0), (1, .int p1), (2, .int p2), (3, .int p3), (4, .int s11.1), (5, .int s11.2.1), (6, .int s11.2.2)] → W p l e (xrm 4 100) s m args below meth c s.heap [] 0 0 (MQ below (xQ True (.returned (some (.int u)))) args s 0 0 xNo) (F0 m 11 ls []) := by
    intro  n
    induction n with
    | zero => intro s11 hf; exact xloop_0 hf
    | succ n ih11 =>
      intro s11 hf ls hl
      obtain ⟨o11, hf, ho11⟩ := xloop_s hf
      refine lv_iload hx hb dX2_leastRingStruckAt_11 (lv_at hl 6 rfl) ?_
      refine lv_iconst (v := (nI 1)) hx hb dX2_leastRingStruckAt_13 (by decide) ?_
      refine lv_iload_n hx hb dX2_leastRingStruckAt_14 rfl (lv_at hl 2 rfl) ?_
      refine x_ishl hx hb dX2_leastRingStruckAt_15 ?_
      refine lv_icmp_ge (tgt := 60) hx hb dX2_leastRingStruckAt_16 (by decide) (fun c1 => ?_) (fun c1 => ?_)
      · have hf := xt c1 hf
        refine lv_iload hx hb dX2_leastRingStruckAt_60 (lv_at hl 4 rfl) ?_
        have hf := xo_ret hf ho11
        exact x_reti hC hr hlk trivial hf dX2_leastRingStruckAt_62
      · have hf := xe c1 hf
        refine lv_iload hx hb dX2_leastRingStruckAt_19 (lv_at hl 6 rfl) ?_
        obtain ⟨u2, hf2, hf⟩ := xb hf
        refine x_ran (x_runS (rest := []) (As := [.int s11.2.2]) hC mw_949 md_J6_bitCount_0f7a4 (c_J6_bitCount_0f7a4 (X := X) hf2) hH [] rfl (by decide) hl.1 rfl rfl (Nat.le_of_ble_eq_true rfl) dX2_leastRingStruckAt_21 ⟨Nat.le_of_ble_eq_true rfl, Nat.le_of_ble_eq_true rfl⟩ ⟨rfl, rfl⟩ ⟨Nat.le_refl _, Nat.le_refl _⟩) rfl (fun hz2 => ?_)
        refine lv_istore (lv' := [(7, .int u2), (0, .ref h0), (1, .int p1), (2, .int p2), (3, .int p3), (4, .int s11.1), (5, .int s11.2.1), (6, .int s11.2.2)]) hx hb dX2_leastRingStruckAt_24 hl (by decide) rfl (fun ls hl => ?_)
        refine lv_iload hx hb dX2_leastRingStruckAt_26 (lv_at hl 0 rfl) ?_
        refine lv_iload hx hb dX2_leastRingStruckAt_28 (lv_at hl 6 rfl) ?_
        refine lv_icmp_ge (tgt := 54) hx hb dX2_leastRingStruckAt_30 (by decide) (fun c3 => ?_) (fun c3 => ?_)
        · have hf := xt c3 hf
          refine lv_iinc (v := s11.2.2 + (nI 1)) (lv' := [(6, .int (s11.2.2 + (nI 1))), (7, .int u2), (0, .ref h0), (1, .int p1), (2, .int p2), (3, .int p3), (4, .int s11.1), (5, .int s11.2.1)]) hx hb dX2_leastRingStruckAt_54 hl (k := 7) rfl rfl (by decide) rfl (fun ls hl => ?_)
          refine lv_goto (tgt := 11) hx hb dX2_leastRingStruckAt_57 (by decide) ?_
          have hf := xo_go hf ho11
          exact ih11 (s11.1, s11.2.1, s11.2.2 + (nI 1)) hf ls (lv_sub hl [2, 3, 4, 5, 6, 7, 0] rfl)
        · have hf := xe c3 hf
          refine lv_aload_n hx hb dX2_leastRingStruckAt_33 rfl (lv_at hl 1 rfl) ?_
          refine lv_iload_n hx hb dX2_leastRingStruckAt_34 rfl (lv_at hl 2 rfl) ?_
          refine lv_iload hx hb dX2_leastRingStruckAt_35 (lv_at hl 7 rfl) ?_
          refine lv_i2l hx hb dX2_leastRingStruckAt_37 rfl ?_
          refine lv_iload_n hx hb dX2_leastRingStruckAt_38 rfl (lv_at hl 3 rfl) ?_
          refine lv_iload_n hx hb dX2_leastRingStruckAt_39 rfl (lv_at hl 4 rfl) ?_
          obtain ⟨u4, hf4, hf⟩ := xb hf
          refine x_ran (x_runV (q0 := 0) (rest := []) (As := [.int p1, .long (Int32.toInt64 s11.2.2), .int p2, .int p3]) hC mw_955 md_X2_strikesJustAt (c_X2_strikesJustAt (X := X) hf4) hH [0, 1, 2] rfl (by decide) rfl rfl rfl hl.1 rfl rfl (Nat.le_of_ble_eq_true rfl) dX2_leastRingStruckAt_40 ⟨Nat.le_of_ble_eq_true rfl, Nat.le_of_ble_eq_true rfl⟩ ⟨rfl, rfl⟩ ⟨Nat.le_refl _, Nat.le_refl _⟩) rfl (fun hz4 => ?_)
          refine lv_if_eq (tgt := 54) hx hb dX2_leastRingStruckAt_43 (by decide) (fun c5 => ?_) (fun c5 => ?_)
          · have hf := xt c5 hf
            refine lv_iinc (v := s11.2.2 + (nI 1)) (lv' := [(6, .int (s11.2.2 + (nI 1))), (7, .int u2), (0, .ref h0), (1, .int p1), (2, .int p2), (3, .int p3), (4, .int s11.1), (5, .int s11.2.1)]) hx hb dX2_leastRingStruckAt_54 hl (k := 7) rfl rfl (by decide) rfl (fun ls hl => ?_)
            refine lv_goto (tgt := 11) hx hb dX2_leastRingStruckAt_57 (by decide) ?_
            have hf := xo_go hf ho11
            exact ih11 (s11.1, s11.2.1, s11.2.2 + (nI 1)) hf ls (lv_sub hl [2, 3, 4, 5, 6, 7, 0] rfl)
          · have hf := xe c5 hf
            refine lv_iload hx hb dX2_leastRingStruckAt_46 (lv_at hl 7 rfl) ?_
            refine lv_istore (lv' := [(4, .int s11.2.2), (7, .int u2), (0, .ref h0), (1, .int p1), (2, .int p2), (3, .int p3), (5, .int s11.2.1), (6, .int s11.2.2)]) hx hb dX2_leastRingStruckAt_48 hl (by decide) rfl (fun ls hl => ?_)
            refine lv_iload hx hb dX2_leastRingStruckAt_50 (lv_at hl 1 rfl) ?_
            refine lv_istore (lv' := [(5, .int u2), (4, .int s11.2.2), (7, .int u2), (0, .ref h0), (1, .int p1), (2, .int p2), (3, .int p3), (6, .int s11.2.2)]) hx hb dX2_leastRingStruckAt_52 hl (by decide) rfl (fun ls hl => ?_)
            refine lv_iinc (v := s11.2.2 + (nI 1)) (lv' := [(6, .int (s11.2.2 + (nI 1))), (5, .int u2), (4, .int s11.2.2), (7, .int u2), (0, .ref h0), (1, .int p1), (2, .int p2), (3, .int p3)]) hx hb dX2_leastRingStruckAt_54 hl (k := 7) rfl rfl (by decide) rfl (fun ls hl => ?_)
            refine lv_goto (tgt := 11) hx hb dX2_leastRingStruckAt_57 (by decide) ?_
            have hf := xo_go hf ho11
            exact ih11 (s11.2.2, u2, s11.2.2 + (nI 1)) hf ls (lv_sub hl [4, 5, 6, 7, 2, 1, 0] rfl)
  refine lv_iconst (v := (-1 : Int32)) hx hb dX2_leastRingStruckAt_0 (by decide) ?_
  refine lv_istore (lv' := [(4, .int (-1 : Int32)), (0, .ref h0), (1, .int p1), (2, .int p2), (3, .int p3)]) hx hb dX2_leastRingStruckAt_1 hl (by decide) rfl (fun ls hl => ?_)
  refine lv_iload_n hx hb dX2_leastRingStruckAt_3 rfl (lv_at hl 3 rfl) ?_
  refine lv_iconst (v := (nI 1)) hx hb dX2_leastRingStruckAt_4 (by decide) ?_
  refine lv_iadd hx hb dX2_leastRingStruckAt_5 ?_
  refine lv_istore (lv' := [(5, .int (p2 + (nI 1))), (4, .int (-1 : Int32)), (0, .ref h0), (1, .int p1), (2, .int p2), (3, .int p3)]) hx hb dX2_leastRingStruckAt_6 hl (by decide) rfl (fun ls hl => ?_)
  refine lv_iconst (v := (nI 0)) hx hb dX2_leastRingStruckAt_8 (by decide) ?_
  refine lv_istore (lv' := [(6, .int (nI 0)), (5, .int (p2 + (nI 1))), (4, .int (-1 : Int32)), (0, .ref h0), (1, .int p1), (2, .int p2), (3, .int p3)]) hx hb dX2_leastRingStruckAt_9 hl (by decide) rfl (fun ls hl => ?_)
  exact L11 xN ((-1 : Int32), p2 + (nI 1), (nI 0)) hf ls (lv_sub hl [3, 4, 5, 6, 2, 1, 0] rfl)
def f_X2_firstPartingRing_L3 (v_count : Int32) (v_kinds : (Nat → Int32)) (v_tunes : (Nat → Int32)) (p1 : Int32) (p2 : Int32) (p3 : Int32) (s3 : Int32) : Option ((Int32) ⊕ (Int32)) :=
  if (xshl (nI 1) p3) ≤ s3 then
    some (.inl (-1 : Int32))
  else
  (f_X2_strikesAt v_count v_kinds v_tunes p1 (Int32.toInt64 s3) p3 (p3 - (nI 1))).bind fun u2 =>
  (f_X2_strikesAt v_count v_kinds v_tunes p2 (Int32.toInt64 s3) p3 (p3 - (nI 1))).bind fun u3 =>
  if u2 = u3 then
    some (.inr (s3 + (nI 1)))
  else
  some (.inl s3)
def f_X2_firstPartingRing (v_count : Int32) (v_kinds : (Nat → Int32)) (v_tunes : (Nat → Int32)) (p1 : Int32) (p2 : Int32) (p3 : Int32) : Option (Int32) :=
  xloop (f_X2_firstPartingRing_L3 v_count v_kinds v_tunes p1 p2 p3) xN (nI 0)
set_option maxHeartbeats 4000000 in
set_option maxRecDepth 100000 in
theorem c_X2_firstPartingRing {l : Launch} {X : xG} {h0 h1 h2 : Nat} {v_count : Int32} {v_kinds : (Nat → Int32)} {v_tunes : (Nat → Int32)} {p1 : Int32} {p2 : Int32} {p3 : Int32} {u : Int32} (hf : f_X2_firstPartingRing v_count v_kinds v_tunes p1 p2 p3 = some u) : Met l yX2_firstPartingRing (xw yX2_firstPartingRing cX2_firstPartingRing 5 (some .int)) (xrm 3 74) (xPc [.ref h0, .int p1, .int p2, .int p3] X [(h0, xO 2 [.ref h1, .ref h2, .int v_count]), (h1, xI X 6 v_kinds), (h2, xI X 6 v_tunes)]) (xQ True (.returned (some (.int u)))) 0 0 xNo := by
  refine xMet (n := 3) md_X2_firstPartingRing.1 (Nat.le_of_ble_eq_true rfl) ?_
  intro p e s m args below meth c ls A hC hr hlk hH hl
  have hl : lv_has ls 5 [(0, .ref h0), (1, .int p1), (2, .int p2), (3, .int p3)] := hl
  have hx := hC.1
  have hb := hC.2.1
  have L3 : ∀ (n : Nat) (s3 : Int32), xloop (f_X2_firstPartingRing_L3 v_count v_kinds v_tunes p1 p2 p3) n s3 = some u → ∀ (ls : Array Slot), lv_has ls 5 [(0, .ref h0), (1, .int p1), (2, .int p2), (3, .int p3), (4, .int s3)] → W p l e (xrm 3 74) s m args below meth c s.heap [] 0 0 (MQ below (xQ True (.returned (some (.int u)))) args s 0 0 xNo) (F0 m 3 ls []) := by
    intro  n
    induction n with
    | zero => intro s3 hf; exact xloop_0 hf
    | succ n ih3 =>
      intro s3 hf ls hl
      obtain ⟨o3, hf, ho3⟩ := xloop_s hf
      refine lv_iload hx hb dX2_firstPartingRing_3 (lv_at hl 4 rfl) ?_
      refine lv_iconst (v := (nI 1)) hx hb dX2_firstPartingRing_5 (by decide) ?_
      refine lv_iload_n hx hb dX2_firstPartingRing_6 rfl (lv_at hl 3 rfl) ?_
      refine x_ishl hx hb dX2_firstPartingRing_7 ?_
      refine lv_icmp_ge (tgt := 47) hx hb dX2_firstPartingRing_8 (by decide) (fun c1 => ?_) (fun c1 => ?_)
      · have hf := xt c1 hf
        refine lv_iconst (v := (-1 : Int32)) hx hb dX2_firstPartingRing_47 (by decide) ?_
        have hf := xo_ret hf ho3
        exact x_reti hC hr hlk trivial hf dX2_firstPartingRing_48
      · have hf := xe c1 hf
        refine lv_aload_n hx hb dX2_firstPartingRing_11 rfl (lv_at hl 0 rfl) ?_
        refine lv_iload_n hx hb dX2_firstPartingRing_12 rfl (lv_at hl 1 rfl) ?_
        refine lv_iload hx hb dX2_firstPartingRing_13 (lv_at hl 4 rfl) ?_
        refine lv_i2l hx hb dX2_firstPartingRing_15 rfl ?_
        refine lv_iload_n hx hb dX2_firstPartingRing_16 rfl (lv_at hl 3 rfl) ?_
        refine lv_iload_n hx hb dX2_firstPartingRing_17 rfl (lv_at hl 3 rfl) ?_
        refine lv_iconst (v := (nI 1)) hx hb dX2_firstPartingRing_18 (by decide) ?_
        refine lv_isub hx hb dX2_firstPartingRing_19 ?_
        obtain ⟨u2, hf2, hf⟩ := xb hf
        refine x_ran (x_runV (q0 := 0) (rest := []) (As := [.int p1, .long (Int32.toInt64 s3), .int p3, .int (p3 - (nI 1))]) hC mw_282 md_X2_strikesAt (c_X2_strikesAt (X := X) hf2) hH [0, 1, 2] rfl (by decide) rfl rfl rfl hl.1 rfl rfl (Nat.le_of_ble_eq_true rfl) dX2_firstPartingRing_20 ⟨Nat.le_of_ble_eq_true rfl, Nat.le_of_ble_eq_true rfl⟩ ⟨rfl, rfl⟩ ⟨Nat.le_refl _, Nat.le_refl _⟩) rfl (fun hz2 => ?_)
        refine lv_aload_n hx hb dX2_firstPartingRing_23 rfl (lv_at hl 0 rfl) ?_
        refine lv_iload_n hx hb dX2_firstPartingRing_24 rfl (lv_at hl 2 rfl) ?_
        refine lv_iload hx hb dX2_firstPartingRing_25 (lv_at hl 4 rfl) ?_
        refine lv_i2l hx hb dX2_firstPartingRing_27 rfl ?_
        refine lv_iload_n hx hb dX2_firstPartingRing_28 rfl (lv_at hl 3 rfl) ?_
        refine lv_iload_n hx hb dX2_firstPartingRing_29 rfl (lv_at hl 3 rfl) ?_
        refine lv_iconst (v := (nI 1)) hx hb dX2_firstPartingRing_30 (by decide) ?_
        refine lv_isub hx hb dX2_firstPartingRing_31 ?_
        obtain ⟨u3, hf3, hf⟩ := xb hf
        refine x_ran (x_runV (q0 := 0) (rest := [.int u2]) (As := [.int p2, .long (Int32.toInt64 s3), .int p3, .int (p3 - (nI 1))]) hC mw_282 md_X2_strikesAt (c_X2_strikesAt (X := X) hf3) hH [0, 1, 2] rfl (by decide) rfl rfl rfl hl.1 rfl rfl (Nat.le_of_ble_eq_true rfl) dX2_firstPartingRing_32 ⟨Nat.le_of_ble_eq_true rfl, Nat.le_of_ble_eq_true rfl⟩ ⟨rfl, rfl⟩ ⟨Nat.le_refl _, Nat.le_refl _⟩) rfl (fun hz3 => ?_)
        refine lv_icmp_eq (tgt := 41) hx hb dX2_firstPartingRing_35 (by decide) (fun c4 => ?_) (fun c4 => ?_)
        · have hf := xt c4 hf
          refine lv_iinc (v := s3 + (nI 1)) (lv' := [(4, .int (s3 + (nI 1))), (0, .ref h0), (1, .int p1), (2, .int p2), (3, .int p3)]) hx hb dX2_firstPartingRing_41 hl (k := 4) rfl rfl (by decide) rfl (fun ls hl => ?_)
          refine lv_goto (tgt := 3) hx hb dX2_firstPartingRing_44 (by decide) ?_
          have hf := xo_go hf ho3
          exact ih3 (s3 + (nI 1)) hf ls (lv_sub hl [1, 2, 3, 4, 0] rfl)
        · have hf := xe c4 hf
          refine lv_iload hx hb dX2_firstPartingRing_38 (lv_at hl 4 rfl) ?_
          have hf := xo_ret hf ho3
          exact x_reti hC hr hlk trivial hf dX2_firstPartingRing_40
  refine lv_iconst (v := (nI 0)) hx hb dX2_firstPartingRing_0 (by decide) ?_
  refine lv_istore (lv' := [(4, .int (nI 0)), (0, .ref h0), (1, .int p1), (2, .int p2), (3, .int p3)]) hx hb dX2_firstPartingRing_1 hl (by decide) rfl (fun ls hl => ?_)
  exact L3 xN (nI 0) hf ls (lv_sub hl [1, 2, 3, 4, 0] rfl)
