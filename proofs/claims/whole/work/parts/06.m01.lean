def f_X6_elementOf (n_p0 : Nat) (v_ : (Nat → Int32)) (p1 : Int32) (p2 : Int32) : Option (Int32) :=
  if p1 < (nI 0) then
    some p2
  else
  if (nI n_p0) ≤ p1 then
    some p2
  else
  if xout p1 n_p0 then none else
  some (v_ (xat p1))
set_option maxHeartbeats 4000000 in
set_option maxRecDepth 100000 in
theorem c_X6_elementOf {l : Launch} {X : xG} {h0 : Nat} {n_p0 : Nat} {v_ : (Nat → Int32)} {p1 : Int32} {p2 : Int32} {u : Int32} (hf : f_X6_elementOf n_p0 v_ p1 p2 = some u) : Met l yX6_elementOf (xw yX6_elementOf cX6_elementOf 3 (some .int)) (xrm 0 0) (xPc [.ref h0, .int p1, .int p2] X [(h0, xI X n_p0 v_)]) (xQ True (.returned (some (.int u)))) 0 0 xNo := by
  refine xMet (n := 3) md_X6_elementOf.1 (Nat.le_of_ble_eq_true rfl) ?_
  intro p e s m args below meth c ls A hC hr hlk hH hl
  have hl : lv_has ls 3 [(0, .ref h0), (1, .int p1), (2, .int p2)] := hl
  have hx := hC.1
  have hb := hC.2.1
  refine lv_aload_n hx hb dX6_elementOf_0 rfl (lv_at hl 0 rfl) ?_
  refine lv_ifnull hx hb dX6_elementOf_1 ?_
  refine lv_iload_n hx hb dX6_elementOf_4 rfl (lv_at hl 1 rfl) ?_
  refine lv_if_lt (tgt := 20) hx hb dX6_elementOf_5 (by decide) (fun c1 => ?_) (fun c1 => ?_)
  · have hf := xt c1 hf
    refine lv_iload_n hx hb dX6_elementOf_20 rfl (lv_at hl 2 rfl) ?_
    exact x_reti hC hr hlk trivial hf dX6_elementOf_21
  · have hf := xe c1 hf
    refine lv_iload_n hx hb dX6_elementOf_8 rfl (lv_at hl 1 rfl) ?_
    refine lv_aload_n hx hb dX6_elementOf_9 rfl (lv_at hl 0 rfl) ?_
    refine x_alen hC hH.1 0 rfl (v := nI n_p0) rfl dX6_elementOf_10 ?_
    refine lv_icmp_ge (tgt := 20) hx hb dX6_elementOf_11 (by decide) (fun c2 => ?_) (fun c2 => ?_)
    · have hf := xt c2 hf
      refine lv_iload_n hx hb dX6_elementOf_20 rfl (lv_at hl 2 rfl) ?_
      exact x_reti hC hr hlk trivial hf dX6_elementOf_21
    · have hf := xe c2 hf
      refine lv_aload_n hx hb dX6_elementOf_14 rfl (lv_at hl 0 rfl) ?_
      refine lv_iload_n hx hb dX6_elementOf_15 rfl (lv_at hl 1 rfl) ?_
      obtain ⟨n3, hf⟩ := xok hf
      refine x_iald hC hH.1 0 rfl n3 dX6_elementOf_16 ?_
      refine lv_goto (tgt := 21) hx hb dX6_elementOf_17 (by decide) ?_
      exact x_reti hC hr hlk trivial hf dX6_elementOf_21
def f_X2_kindOf (v_kinds : (Nat → Int32)) (p1 : Int32) : Option (Int32) :=
  (f_X6_elementOf 6 v_kinds p1 (nI 0)).bind fun u1 =>
  some u1
set_option maxHeartbeats 4000000 in
set_option maxRecDepth 100000 in
theorem c_X2_kindOf {l : Launch} {X : xG} {h0 h1 g0 : Nat} {v_count : Int32} {v_kinds : (Nat → Int32)} {p1 : Int32} {u : Int32} (hf : f_X2_kindOf v_kinds p1 = some u) : Met l yX2_kindOf (xw yX2_kindOf cX2_kindOf 2 (some .int)) (xrm 1 22) (xPc [.ref h0, .int p1] X [(h0, xO 2 [.ref h1, .ref g0, .int v_count]), (h1, xI X 6 v_kinds)]) (xQ True (.returned (some (.int u)))) 0 0 xNo := by
  refine xMet (n := 1) md_X2_kindOf.1 (Nat.le_of_ble_eq_true rfl) ?_
  intro p e s m args below meth c ls A hC hr hlk hH hl
  have hl : lv_has ls 2 [(0, .ref h0), (1, .int p1)] := hl
  have hx := hC.1
  have hb := hC.2.1
  refine lv_aload_n hx hb dX2_kindOf_0 rfl (lv_at hl 0 rfl) ?_
  refine x_get hC fd_RX2_11 hH.1 0 rfl rfl dX2_kindOf_1 ?_
  refine lv_iload_n hx hb dX2_kindOf_4 rfl (lv_at hl 1 rfl) ?_
  refine lv_iconst (v := (nI 0)) hx hb dX2_kindOf_5 (by decide) ?_
  obtain ⟨u1, hf1, hf⟩ := xb hf
  refine x_ran (x_runSN (rest := []) (As := [.ref h1, .int p1, .int (nI 0)]) hC mn_RX2_37 md_X6_elementOf (c_X6_elementOf (X := X) hf1) hH [1] rfl (by decide) hl.1 rfl rfl (Nat.le_of_ble_eq_true rfl) dX2_kindOf_6 ⟨Nat.le_of_ble_eq_true rfl, Nat.le_of_ble_eq_true rfl⟩ ⟨rfl, rfl⟩ ⟨Nat.le_refl _, Nat.le_refl _⟩) rfl (fun hz1 => ?_)
  exact x_reti hC hr hlk trivial hf dX2_kindOf_9
def f_X2_tuneOf (v_tunes : (Nat → Int32)) (p1 : Int32) : Option (Int32) :=
  (f_X6_elementOf 6 v_tunes p1 (nI 0)).bind fun u1 =>
  some u1
set_option maxHeartbeats 4000000 in
set_option maxRecDepth 100000 in
theorem c_X2_tuneOf {l : Launch} {X : xG} {h0 h1 g0 : Nat} {v_count : Int32} {v_tunes : (Nat → Int32)} {p1 : Int32} {u : Int32} (hf : f_X2_tuneOf v_tunes p1 = some u) : Met l yX2_tuneOf (xw yX2_tuneOf cX2_tuneOf 2 (some .int)) (xrm 1 22) (xPc [.ref h0, .int p1] X [(h0, xO 2 [.ref g0, .ref h1, .int v_count]), (h1, xI X 6 v_tunes)]) (xQ True (.returned (some (.int u)))) 0 0 xNo := by
  refine xMet (n := 1) md_X2_tuneOf.1 (Nat.le_of_ble_eq_true rfl) ?_
  intro p e s m args below meth c ls A hC hr hlk hH hl
  have hl : lv_has ls 2 [(0, .ref h0), (1, .int p1)] := hl
  have hx := hC.1
  have hb := hC.2.1
  refine lv_aload_n hx hb dX2_tuneOf_0 rfl (lv_at hl 0 rfl) ?_
  refine x_get hC fd_RX2_15 hH.1 0 rfl rfl dX2_tuneOf_1 ?_
  refine lv_iload_n hx hb dX2_tuneOf_4 rfl (lv_at hl 1 rfl) ?_
  refine lv_iconst (v := (nI 0)) hx hb dX2_tuneOf_5 (by decide) ?_
  obtain ⟨u1, hf1, hf⟩ := xb hf
  refine x_ran (x_runSN (rest := []) (As := [.ref h1, .int p1, .int (nI 0)]) hC mn_RX2_37 md_X6_elementOf (c_X6_elementOf (X := X) hf1) hH [1] rfl (by decide) hl.1 rfl rfl (Nat.le_of_ble_eq_true rfl) dX2_tuneOf_6 ⟨Nat.le_of_ble_eq_true rfl, Nat.le_of_ble_eq_true rfl⟩ ⟨rfl, rfl⟩ ⟨Nat.le_refl _, Nat.le_refl _⟩) rfl (fun hz1 => ?_)
  exact x_reti hC hr hlk trivial hf dX2_tuneOf_9
def f_X2_write (v_kinds : (Nat → Int32)) (v_tunes : (Nat → Int32)) (p1 : Int32) (p2 : Int32) (p3 : Int32) : Option ((Nat → Int32) × (Nat → Int32)) :=
  if p1 < (nI 0) then
    some (v_kinds, v_tunes)
  else
  if (nI 6) ≤ p1 then
    some (v_kinds, v_tunes)
  else
  if (nI 6) ≤ p1 then
    some (v_kinds, v_tunes)
  else
  if xout p1 6 then none else
  if xout p1 6 then none else
  some (upd v_kinds (xat p1) p2, upd v_tunes (xat p1) p3)
set_option maxHeartbeats 4000000 in
set_option maxRecDepth 100000 in
theorem c_X2_write {l : Launch} {X : xG} {h0 h1 h2 : Nat} {v_count : Int32} {v_kinds : (Nat → Int32)} {v_tunes : (Nat → Int32)} {p1 : Int32} {p2 : Int32} {p3 : Int32} {u : (Nat → Int32) × (Nat → Int32)} (hf : f_X2_write v_kinds v_tunes p1 p2 p3 = some u) : Met l yX2_write (xw yX2_write cX2_write 4 none) (xrm 0 0) (xPc [.ref h0, .int p1, .int p2, .int p3] X [(h0, xO 2 [.ref h1, .ref h2, .int v_count]), (h1, xI X 6 v_kinds), (h2, xI X 6 v_tunes)]) (xQw True (.returned none) X [(h0, xO 2 [.ref h1, .ref h2, .int v_count]), (h1, xI X 6 u.1), (h2, xI X 6 u.2)] (xAs [(h0, xO 2 [.ref h1, .ref h2, .int v_count]), (h1, xI X 6 v_kinds), (h2, xI X 6 v_tunes)])) 0 0 (xAs [(h0, xO 2 [.ref h1, .ref h2, .int v_count]), (h1, xI X 6 v_kinds), (h2, xI X 6 v_tunes)]) := by
  refine xMetw (Qc := fun A => xQw True (.returned none) X [(h0, xO 2 [.ref h1, .ref h2, .int v_count]), (h1, xI X 6 u.1), (h2, xI X 6 u.2)] A) (n := 3) md_X2_write.1 (Nat.le_of_ble_eq_true rfl) ?_
  intro p e s m args below meth c ls A hC hr hlk hH hl
  have hl : lv_has ls 4 [(0, .ref h0), (1, .int p1), (2, .int p2), (3, .int p3)] := hl
  have hx := hC.1
  have hb := hC.2.1
  refine lv_iload_n hx hb dX2_write_0 rfl (lv_at hl 1 rfl) ?_
  refine lv_if_lt (tgt := 36) hx hb dX2_write_1 (by decide) (fun c1 => ?_) (fun c1 => ?_)
  · have hf := xt c1 hf
    exact x_retvw (φ := fun _ => True) (wf := fun u : (Nat → Int32) × (Nat → Int32) => [(h0, xO 2 [.ref h1, .ref h2, .int v_count]), (h1, xI X 6 u.1), (h2, xI X 6 u.2)]) hC hr hlk trivial hf hH rfl dX2_write_36
  · have hf := xe c1 hf
    refine lv_iload_n hx hb dX2_write_4 rfl (lv_at hl 1 rfl) ?_
    refine lv_aload_n hx hb dX2_write_5 rfl (lv_at hl 0 rfl) ?_
    refine x_get hC fd_RX2_11 hH.1 0 rfl rfl dX2_write_6 ?_
    refine x_alen hC hH.1 1 rfl (v := (nI 6)) (by decide) dX2_write_9 ?_
    refine lv_icmp_ge (tgt := 36) hx hb dX2_write_10 (by decide) (fun c2 => ?_) (fun c2 => ?_)
    · have hf := xt c2 hf
      exact x_retvw (φ := fun _ => True) (wf := fun u : (Nat → Int32) × (Nat → Int32) => [(h0, xO 2 [.ref h1, .ref h2, .int v_count]), (h1, xI X 6 u.1), (h2, xI X 6 u.2)]) hC hr hlk trivial hf hH rfl dX2_write_36
    · have hf := xe c2 hf
      refine lv_iload_n hx hb dX2_write_13 rfl (lv_at hl 1 rfl) ?_
      refine lv_aload_n hx hb dX2_write_14 rfl (lv_at hl 0 rfl) ?_
      refine x_get hC fd_RX2_15 hH.1 0 rfl rfl dX2_write_15 ?_
      refine x_alen hC hH.1 2 rfl (v := (nI 6)) (by decide) dX2_write_18 ?_
      refine lv_icmp_ge (tgt := 36) hx hb dX2_write_19 (by decide) (fun c3 => ?_) (fun c3 => ?_)
      · have hf := xt c3 hf
        exact x_retvw (φ := fun _ => True) (wf := fun u : (Nat → Int32) × (Nat → Int32) => [(h0, xO 2 [.ref h1, .ref h2, .int v_count]), (h1, xI X 6 u.1), (h2, xI X 6 u.2)]) hC hr hlk trivial hf hH rfl dX2_write_36
      · have hf := xe c3 hf
        refine lv_aload_n hx hb dX2_write_22 rfl (lv_at hl 0 rfl) ?_
        refine x_get hC fd_RX2_11 hH.1 0 rfl rfl dX2_write_23 ?_
        refine lv_iload_n hx hb dX2_write_26 rfl (lv_at hl 1 rfl) ?_
        refine lv_iload_n hx hb dX2_write_27 rfl (lv_at hl 2 rfl) ?_
        obtain ⟨n4, hf⟩ := xok hf
        refine x_iast (ws' := [(h0, xO 2 [.ref h1, .ref h2, .int v_count]), (h1, xI X 6 (upd v_kinds (xat p1) p2)), (h2, xI X 6 v_tunes)]) hC hH 1 rfl n4 dX2_write_28 rfl (fun H locs hH => ?_)
        refine lv_aload_n hx hb dX2_write_29 rfl (lv_at hl 0 rfl) ?_
        refine x_get hC fd_RX2_15 hH.1 0 rfl rfl dX2_write_30 ?_
        refine lv_iload_n hx hb dX2_write_33 rfl (lv_at hl 1 rfl) ?_
        refine lv_iload_n hx hb dX2_write_34 rfl (lv_at hl 3 rfl) ?_
        obtain ⟨n5, hf⟩ := xok hf
        refine x_iast (ws' := [(h0, xO 2 [.ref h1, .ref h2, .int v_count]), (h1, xI X 6 (upd v_kinds (xat p1) p2)), (h2, xI X 6 (upd v_tunes (xat p1) p3))]) hC hH 2 rfl n5 dX2_write_35 rfl (fun H locs hH => ?_)
        exact x_retvw (φ := fun _ => True) (wf := fun u : (Nat → Int32) × (Nat → Int32) => [(h0, xO 2 [.ref h1, .ref h2, .int v_count]), (h1, xI X 6 u.1), (h2, xI X 6 u.2)]) hC hr hlk trivial hf hH rfl dX2_write_36
def f_X2_takeFrom_L10 (v_o1_kinds : (Nat → Int32)) (v_o1_tunes : (Nat → Int32)) (x10_v_count : Int32) (s10 : Int32 × (Nat → Int32) × (Nat → Int32)) : Option ((Int32 × (Nat → Int32) × (Nat → Int32)) ⊕ (Int32 × (Nat → Int32) × (Nat → Int32))) :=
  if (nI 6) ≤ s10.1 then
    some (.inl (x10_v_count, s10.2.1, s10.2.2))
  else
  (f_X2_kindOf v_o1_kinds s10.1).bind fun u2 =>
  (f_X2_tuneOf v_o1_tunes s10.1).bind fun u3 =>
  (f_X2_write s10.2.1 s10.2.2 s10.1 u2 u3).bind fun u4 =>
  some (.inr (s10.1 + (nI 1), u4.1, u4.2))
def f_X2_takeFrom (v_count : Int32) (v_kinds : (Nat → Int32)) (v_tunes : (Nat → Int32)) (v_o1_count : Int32) (v_o1_kinds : (Nat → Int32)) (v_o1_tunes : (Nat → Int32)) : Option (Int32 × (Nat → Int32) × (Nat → Int32)) :=
  xloop (f_X2_takeFrom_L10 v_o1_kinds v_o1_tunes v_o1_count) xN ((nI 0), v_kinds, v_tunes)
set_option maxHeartbeats 4000000 in
set_option maxRecDepth 100000 in
theorem c_X2_takeFrom {l : Launch} {X : xG} {h0 h1 h2 h3 h4 h5 : Nat} {v_count : Int32} {v_kinds : (Nat → Int32)} {v_tunes : (Nat → Int32)} {v_o1_count : Int32} {v_o1_kinds : (Nat → Int32)} {v_o1_tunes : (Nat → Int32)} {u : Int32 × (Nat → Int32) × (Nat → Int32)} (hf : f_X2_takeFrom v_count v_kinds v_tunes v_o1_count v_o1_kinds v_o1_tunes = some u) : Met l yX2_takeFrom (xw yX2_takeFrom cX2_takeFrom 3 none) (xrm 2 43) (xPc [.ref h0, .ref h3] X [(h0, xO 2 [.ref h1, .ref h2, .int v_count]), (h1, xI X 6 v_kinds), (h2, xI X 6 v_tunes), (h3, xO 2 [.ref h4, .ref h5, .int v_o1_count]), (h4, xI X 6 v_o1_kinds), (h5, xI X 6 v_o1_tunes)]) (xQw True (.returned none) X [(h0, xO 2 [.ref h1, .ref h2, .int u.1]), (h1, xI X 6 u.2.1), (h2, xI X 6 u.2.2), (h3, xO 2 [.ref h4, .ref h5, .int v_o1_count]), (h4, xI X 6 v_o1_kinds), (h5, xI X 6 v_o1_tunes)] (xAs [(h0, xO 2 [.ref h1, .ref h2, .int v_count]), (h1, xI X 6 v_kinds), (h2, xI X 6 v_tunes), (h3, xO 2 [.ref h4, .ref h5, .int v_o1_count]), (h4, xI X 6 v_o1_kinds), (h5, xI X 6 v_o1_tunes)])) 0 0 (xAs [(h0, xO 2 [.ref h1, .ref h2, .int v_count]), (h1, xI X 6 v_kinds), (h2, xI X 6 v_tunes), (h3, xO 2 [.ref h4, .ref h5, .int v_o1_count]), (h4, xI X 6 v_o1_kinds), (h5, xI X 6 v_o1_tunes)]) := by
  refine xMetw (Qc := fun A => xQw True (.returned none) X [(h0, xO 2 [.ref h1, .ref h2, .int u.1]), (h1, xI X 6 u.2.1), (h2, xI X 6 u.2.2), (h3, xO 2 [.ref h4, .ref h5, .int v_o1_count]), (h4, xI X 6 v_o1_kinds), (h5, xI X 6 v_o1_tunes)] A) (n := 1) md_X2_takeFrom.1 (Nat.le_of_ble_eq_true rfl) ?_
  intro p e s m args below meth c ls A hC hr hlk hH hl
  have hl : lv_has ls 3 [(0, .ref h0), (1, .ref h3)] := hl
  have hx := hC.1
  have hb := hC.2.1
  have L10 : ∀ (x10_v_count : Int32) (n : Nat) (s10 : Int32 × (Nat → Int32) × (Nat → Int32)), xloop (f_X2_takeFrom_L10 v_o1_kinds v_o1_tunes x10_v_count) n s10 = some u → ∀ (H : Heap) (locs : List Loc), xH X A [(h0, xO 2 [.ref h1, .ref h2, .int x10_v_count]), (h1, xI X 6 s10.2.1), (h2, xI X 6 s10.2.2), (h3, xO 2 [.ref h4, .ref h5, .int v_o1_count]), (h4, xI X 6 v_o1_kinds), (h5, xI X 6 v_o1_tunes)] s.heap H locs → ∀ (ls : Array Slot), lv_has ls 3 [(0, .ref h0), (1, .ref h3), (2, .int s10.1)] → W p l e (xrm 2 43) s m args below meth c H locs 0 0 (MQ below (xQw True (.returned none) X [(h0, xO 2 [.ref h1, .ref h2, .int u.1]), (h1, xI X 6 u.2.1), (h2, xI X 6 u.2.2), (h3, xO 2 [.ref h4, .ref h5, .int v_o1_count]), (h4, xI X 6 v_o1_kinds), (h5, xI X 6 v_o1_tunes)] A) args s 0 0 A) (F0 m 10 ls []) := by
    intro x10_v_count n
    induction n with
    | zero => intro s10 hf; exact xloop_0 hf
    | succ n ih10 =>
      intro s10 hf H locs hH ls hl
      obtain ⟨o10, hf, ho10⟩ := xloop_s hf
      refine lv_iload_n hx hb dX2_takeFrom_10 rfl (lv_at hl 2 rfl) ?_
      refine lv_bipush (v := (nI 6)) hx hb dX2_takeFrom_11 (by decide) ?_
      refine lv_icmp_ge (tgt := 37) hx hb dX2_takeFrom_13 (by decide) (fun c1 => ?_) (fun c1 => ?_)
      · have hf := xt c1 hf
        have hf := xo_ret hf ho10
        exact x_retvw (φ := fun _ => True) (wf := fun u : Int32 × (Nat → Int32) × (Nat → Int32) => [(h0, xO 2 [.ref h1, .ref h2, .int u.1]), (h1, xI X 6 u.2.1), (h2, xI X 6 u.2.2), (h3, xO 2 [.ref h4, .ref h5, .int v_o1_count]), (h4, xI X 6 v_o1_kinds), (h5, xI X 6 v_o1_tunes)]) hC hr hlk trivial hf hH rfl dX2_takeFrom_37
      · have hf := xe c1 hf
        refine lv_aload_n hx hb dX2_takeFrom_16 rfl (lv_at hl 0 rfl) ?_
        refine lv_iload_n hx hb dX2_takeFrom_17 rfl (lv_at hl 2 rfl) ?_
        refine lv_aload_n hx hb dX2_takeFrom_18 rfl (lv_at hl 1 rfl) ?_
        refine lv_iload_n hx hb dX2_takeFrom_19 rfl (lv_at hl 2 rfl) ?_
        obtain ⟨u2, hf2, hf⟩ := xb hf
        refine x_ran (x_runV (q0 := 0) (rest := [.int s10.1, .ref h0]) (As := [.int s10.1]) hC mw_287 md_X2_kindOf (c_X2_kindOf (X := X) hf2) hH [3, 4] rfl (by decide) rfl rfl rfl hl.1 rfl rfl (Nat.le_of_ble_eq_true rfl) dX2_takeFrom_20 ⟨Nat.le_of_ble_eq_true rfl, Nat.le_of_ble_eq_true rfl⟩ ⟨rfl, rfl⟩ ⟨Nat.le_refl _, Nat.le_refl _⟩) rfl (fun hz2 => ?_)
        refine lv_aload_n hx hb dX2_takeFrom_23 rfl (lv_at hl 1 rfl) ?_
        refine lv_iload_n hx hb dX2_takeFrom_24 rfl (lv_at hl 2 rfl) ?_
        obtain ⟨u3, hf3, hf⟩ := xb hf
        refine x_ran (x_runV (q0 := 0) (rest := [.int u2, .int s10.1, .ref h0]) (As := [.int s10.1]) hC mw_288 md_X2_tuneOf (c_X2_tuneOf (X := X) hf3) hH [3, 5] rfl (by decide) rfl rfl rfl hl.1 rfl rfl (Nat.le_of_ble_eq_true rfl) dX2_takeFrom_25 ⟨Nat.le_of_ble_eq_true rfl, Nat.le_of_ble_eq_true rfl⟩ ⟨rfl, rfl⟩ ⟨Nat.le_refl _, Nat.le_refl _⟩) rfl (fun hz3 => ?_)
        obtain ⟨u4, hf4, hf⟩ := xb hf
        refine x_ranw (ws' := [(h0, xO 2 [.ref h1, .ref h2, .int x10_v_count]), (h1, xI X 6 u4.1), (h2, xI X 6 u4.2), (h3, xO 2 [.ref h4, .ref h5, .int v_o1_count]), (h4, xI X 6 v_o1_kinds), (h5, xI X 6 v_o1_tunes)]) (x_runV (q0 := 0) (rest := []) (As := [.int s10.1, .int u2, .int u3]) hC mw_355 md_X2_write (c_X2_write (X := X) hf4) hH [0, 1, 2] rfl (by decide) rfl rfl rfl hl.1 rfl rfl (Nat.le_of_ble_eq_true rfl) dX2_takeFrom_28 ⟨Nat.le_of_ble_eq_true rfl, Nat.le_of_ble_eq_true rfl⟩ ⟨rfl, rfl⟩ ⟨Nat.le_refl _, Nat.le_refl _⟩) hH [0, 1, 2] rfl rfl rfl rfl rfl (fun hz4 H locs hH => ?_)
        refine lv_iinc (v := s10.1 + (nI 1)) (lv' := [(2, .int (s10.1 + (nI 1))), (0, .ref h0), (1, .ref h3)]) hx hb dX2_takeFrom_31 hl (k := 2) rfl rfl (by decide) rfl (fun ls hl => ?_)
        refine lv_goto (tgt := 10) hx hb dX2_takeFrom_34 (by decide) ?_
        have hf := xo_go hf ho10
        exact ih10 (s10.1 + (nI 1), u4.1, u4.2) hf _ _ hH ls (lv_sub hl [1, 2, 0] rfl)
  refine lv_aload_n hx hb dX2_takeFrom_0 rfl (lv_at hl 0 rfl) ?_
  refine lv_aload_n hx hb dX2_takeFrom_1 rfl (lv_at hl 1 rfl) ?_
  refine x_get hC fd_RX2_22 hH.1 3 rfl rfl dX2_takeFrom_2 ?_
  refine x_put (ws' := [(h0, xO 2 [.ref h1, .ref h2, .int v_o1_count]), (h1, xI X 6 v_kinds), (h2, xI X 6 v_tunes), (h3, xO 2 [.ref h4, .ref h5, .int v_o1_count]), (h4, xI X 6 v_o1_kinds), (h5, xI X 6 v_o1_tunes)]) hC fd_RX2_22 hH 0 rfl (Nat.le_of_ble_eq_true rfl) rfl rfl dX2_takeFrom_5 rfl (fun H locs hH => ?_)
  refine lv_iconst (v := (nI 0)) hx hb dX2_takeFrom_8 (by decide) ?_
  refine lv_istore_n (lv' := [(2, .int (nI 0)), (0, .ref h0), (1, .ref h3)]) hx hb dX2_takeFrom_9 rfl hl (by decide) rfl (fun ls hl => ?_)
  exact L10 v_o1_count xN ((nI 0), v_kinds, v_tunes) hf _ _ hH ls (lv_sub hl [1, 2, 0] rfl)
def f_X3_ageOf (v_ages : (Nat → Int32)) (p1 : Int32) : Option (Int32) :=
  (f_X6_elementOf 10 v_ages p1 (nI 0)).bind fun u1 =>
  some u1
set_option maxHeartbeats 4000000 in
set_option maxRecDepth 100000 in
theorem c_X3_ageOf {l : Launch} {X : xG} {h0 h1 g0 : Nat} {v_count : Int32} {v_ages : (Nat → Int32)} {p1 : Int32} {u : Int32} (hf : f_X3_ageOf v_ages p1 = some u) : Met l yX3_ageOf (xw yX3_ageOf cX3_ageOf 2 (some .int)) (xrm 1 22) (xPc [.ref h0, .int p1] X [(h0, xO 3 [.ref h1, .ref g0, .int v_count]), (h1, xI X 10 v_ages)]) (xQ True (.returned (some (.int u)))) 0 0 xNo := by
  refine xMet (n := 1) md_X3_ageOf.1 (Nat.le_of_ble_eq_true rfl) ?_
  intro p e s m args below meth c ls A hC hr hlk hH hl
  have hl : lv_has ls 2 [(0, .ref h0), (1, .int p1)] := hl
  have hx := hC.1
  have hb := hC.2.1
  refine lv_aload_n hx hb dX3_ageOf_0 rfl (lv_at hl 0 rfl) ?_
  refine x_get hC fd_RX3_11 hH.1 0 rfl rfl dX3_ageOf_1 ?_
  refine lv_iload_n hx hb dX3_ageOf_4 rfl (lv_at hl 1 rfl) ?_
  refine lv_iconst (v := (nI 0)) hx hb dX3_ageOf_5 (by decide) ?_
  obtain ⟨u1, hf1, hf⟩ := xb hf
  refine x_ran (x_runSN (rest := []) (As := [.ref h1, .int p1, .int (nI 0)]) hC mn_RX3_35 md_X6_elementOf (c_X6_elementOf (X := X) hf1) hH [1] rfl (by decide) hl.1 rfl rfl (Nat.le_of_ble_eq_true rfl) dX3_ageOf_6 ⟨Nat.le_of_ble_eq_true rfl, Nat.le_of_ble_eq_true rfl⟩ ⟨rfl, rfl⟩ ⟨Nat.le_refl _, Nat.le_refl _⟩) rfl (fun hz1 => ?_)
  exact x_reti hC hr hlk trivial hf dX3_ageOf_9
def f_X3_write (v_ages : (Nat → Int32)) (p1 : Int32) (p2 : Int32) : Option ((Nat → Int32)) :=
  if p1 < (nI 0) then
    some v_ages
  else
  if (nI 10) ≤ p1 then
    some v_ages
  else
  if xout p1 10 then none else
  some (upd v_ages (xat p1) p2)
set_option maxHeartbeats 4000000 in
set_option maxRecDepth 100000 in
theorem c_X3_write {l : Launch} {X : xG} {h0 h1 g0 : Nat} {v_count : Int32} {v_ages : (Nat → Int32)} {p1 : Int32} {p2 : Int32} {u : (Nat → Int32)} (hf : f_X3_write v_ages p1 p2 = some u) : Met l yX3_write (xw yX3_write cX3_write 3 none) (xrm 0 0) (xPc [.ref h0, .int p1, .int p2] X [(h0, xO 3 [.ref h1, .ref g0, .int v_count]), (h1, xI X 10 v_ages)]) (xQw True (.returned none) X [(h0, xO 3 [.ref h1, .ref g0, .int v_count]), (h1, xI X 10 u)] (xAs [(h0, xO 3 [.ref h1, .ref g0, .int v_count]), (h1, xI X 10 v_ages)])) 0 0 (xAs [(h0, xO 3 [.ref h1, .ref g0, .int v_count]), (h1, xI X 10 v_ages)]) := by
  refine xMetw (Qc := fun A => xQw True (.returned none) X [(h0, xO 3 [.ref h1, .ref g0, .int v_count]), (h1, xI X 10 u)] A) (n := 2) md_X3_write.1 (Nat.le_of_ble_eq_true rfl) ?_
  intro p e s m args below meth c ls A hC hr hlk hH hl
  have hl : lv_has ls 3 [(0, .ref h0), (1, .int p1), (2, .int p2)] := hl
  have hx := hC.1
  have hb := hC.2.1
  refine lv_iload_n hx hb dX3_write_0 rfl (lv_at hl 1 rfl) ?_
  refine lv_if_lt (tgt := 20) hx hb dX3_write_1 (by decide) (fun c1 => ?_) (fun c1 => ?_)
  · have hf := xt c1 hf
    exact x_retvw (φ := fun _ => True) (wf := fun u : (Nat → Int32) => [(h0, xO 3 [.ref h1, .ref g0, .int v_count]), (h1, xI X 10 u)]) hC hr hlk trivial hf hH rfl dX3_write_20
  · have hf := xe c1 hf
    refine lv_iload_n hx hb dX3_write_4 rfl (lv_at hl 1 rfl) ?_
    refine lv_aload_n hx hb dX3_write_5 rfl (lv_at hl 0 rfl) ?_
    refine x_get hC fd_RX3_11 hH.1 0 rfl rfl dX3_write_6 ?_
    refine x_alen hC hH.1 1 rfl (v := (nI 10)) (by decide) dX3_write_9 ?_
    refine lv_icmp_ge (tgt := 20) hx hb dX3_write_10 (by decide) (fun c2 => ?_) (fun c2 => ?_)
    · have hf := xt c2 hf
      exact x_retvw (φ := fun _ => True) (wf := fun u : (Nat → Int32) => [(h0, xO 3 [.ref h1, .ref g0, .int v_count]), (h1, xI X 10 u)]) hC hr hlk trivial hf hH rfl dX3_write_20
    · have hf := xe c2 hf
      refine lv_aload_n hx hb dX3_write_13 rfl (lv_at hl 0 rfl) ?_
      refine x_get hC fd_RX3_11 hH.1 0 rfl rfl dX3_write_14 ?_
      refine lv_iload_n hx hb dX3_write_17 rfl (lv_at hl 1 rfl) ?_
      refine lv_iload_n hx hb dX3_write_18 rfl (lv_at hl 2 rfl) ?_
      obtain ⟨n3, hf⟩ := xok hf
      refine x_iast (ws' := [(h0, xO 3 [.ref h1, .ref g0, .int v_count]), (h1, xI X 10 (upd v_ages (xat p1) p2))]) hC hH 1 rfl n3 dX3_write_19 rfl (fun H locs hH => ?_)
      exact x_retvw (φ := fun _ => True) (wf := fun u : (Nat → Int32) => [(h0, xO 3 [.ref h1, .ref g0, .int v_count]), (h1, xI X 10 u)]) hC hr hlk trivial hf hH rfl dX3_write_20
def f_X3_takeFrom_L10 (v_o1_ages : (Nat → Int32)) (x10_v_count : Int32) (s10 : Int32 × (Nat → Int32)) : Option ((Int32 × (Nat → Int32)) ⊕ (Int32 × (Nat → Int32))) :=
  if (nI 10) ≤ s10.1 then
    some (.inl (x10_v_count, s10.2))
  else
  (f_X3_ageOf v_o1_ages s10.1).bind fun u2 =>
  (f_X3_write s10.2 s10.1 u2).bind fun u3 =>
  some (.inr (s10.1 + (nI 1), u3))
def f_X3_takeFrom (v_count : Int32) (v_ages : (Nat → Int32)) (v_o1_count : Int32) (v_o1_ages : (Nat → Int32)) : Option (Int32 × (Nat → Int32)) :=
  xloop (f_X3_takeFrom_L10 v_o1_ages v_o1_count) xN ((nI 0), v_ages)
set_option maxHeartbeats 4000000 in
set_option maxRecDepth 100000 in
theorem c_X3_takeFrom {l : Launch} {X : xG} {h0 h1 h2 h3 g0 g1 : Nat} {v_count : Int32} {v_ages : (Nat → Int32)} {v_o1_count : Int32} {v_o1_ages : (Nat → Int32)} {u : Int32 × (Nat → Int32)} (hf : f_X3_takeFrom v_count v_ages v_o1_count v_o1_ages = some u) : Met l yX3_takeFrom (xw yX3_takeFrom cX3_takeFrom 3 none) (xrm 2 43) (xPc [.ref h0, .ref h2] X [(h0, xO 3 [.ref h1, .ref g0, .int v_count]), (h1, xI X 10 v_ages), (h2, xO 3 [.ref h3, .ref g1, .int v_o1_count]), (h3, xI X 10 v_o1_ages)]) (xQw True (.returned none) X [(h0, xO 3 [.ref h1, .ref g0, .int u.1]), (h1, xI X 10 u.2), (h2, xO 3 [.ref h3, .ref g1, .int v_o1_count]), (h3, xI X 10 v_o1_ages)] (xAs [(h0, xO 3 [.ref h1, .ref g0, .int v_count]), (h1, xI X 10 v_ages), (h2, xO 3 [.ref h3, .ref g1, .int v_o1_count]), (h3, xI X 10 v_o1_ages)])) 0 0 (xAs [(h0, xO 3 [.ref h1, .ref g0, .int v_count]), (h1, xI X 10 v_ages), (h2, xO 3 [.ref h3, .ref g1, .int v_o1_count]), (h3, xI X 10 v_o1_ages)]) := by
  refine xMetw (Qc := fun A => xQw True (.returned none) X [(h0, xO 3 [.ref h1, .ref g0, .int u.1]), (h1, xI X 10 u.2), (h2, xO 3 [.ref h3, .ref g1, .int v_o1_count]), (h3, xI X 10 v_o1_ages)] A) (n := 1) md_X3_takeFrom.1 (Nat.le_of_ble_eq_true rfl) ?_
  intro p e s m args below meth c ls A hC hr hlk hH hl
  have hl : lv_has ls 3 [(0, .ref h0), (1, .ref h2)] := hl
  have hx := hC.1
  have hb := hC.2.1
  have L10 : ∀ (x10_v_count : Int32) (n : Nat) (s10 : Int32 × (Nat → Int32)), xloop (f_X3_takeFrom_L10 v_o1_ages x10_v_count) n s10 = some u → ∀ (H : Heap) (locs : List Loc), xH X A [(h0, xO 3 [.ref h1, .ref g0, .int x10_v_count]), (h1, xI X 10 s10.2), (h2, xO 3 [.ref h3, .ref g1, .int v_o1_count]), (h3, xI X 10 v_o1_ages)] s.heap H locs → ∀ (ls : Array Slot), lv_has ls 3 [(0, .ref h0), (1, .ref h2), (2, .int s10.1)] → W p l e (xrm 2 43) s m args below meth c H locs 0 0 (MQ below (xQw True (.returned none) X [(h0, xO 3 [.ref h1, .ref g0, .int u.1]), (h1, xI X 10 u.2), (h2, xO 3 [.ref h3, .ref g1, .int v_o1_count]), (h3, xI X 10 v_o1_ages)] A) args s 0 0 A) (F0 m 10 ls []) := by
    intro x10_v_count n
    induction n with
    | zero => intro s10 hf; exact xloop_0 hf
    | succ n ih10 =>
      intro s10 hf H locs hH ls hl
      obtain ⟨o10, hf, ho10⟩ := xloop_s hf
      refine lv_iload_n hx hb dX3_takeFrom_10 rfl (lv_at hl 2 rfl) ?_
      refine lv_bipush (v := (nI 10)) hx hb dX3_takeFrom_11 (by decide) ?_
      refine lv_icmp_ge (tgt := 32) hx hb dX3_takeFrom_13 (by decide) (fun c1 => ?_) (fun c1 => ?_)
      · have hf := xt c1 hf
        have hf := xo_ret hf ho10
        exact x_retvw (φ := fun _ => True) (wf := fun u : Int32 × (Nat → Int32) => [(h0, xO 3 [.ref h1, .ref g0, .int u.1]), (h1, xI X 10 u.2), (h2, xO 3 [.ref h3, .ref g1, .int v_o1_count]), (h3, xI X 10 v_o1_ages)]) hC hr hlk trivial hf hH rfl dX3_takeFrom_32
      · have hf := xe c1 hf
        refine lv_aload_n hx hb dX3_takeFrom_16 rfl (lv_at hl 0 rfl) ?_
        refine lv_iload_n hx hb dX3_takeFrom_17 rfl (lv_at hl 2 rfl) ?_
        refine lv_aload_n hx hb dX3_takeFrom_18 rfl (lv_at hl 1 rfl) ?_
        refine lv_iload_n hx hb dX3_takeFrom_19 rfl (lv_at hl 2 rfl) ?_
        obtain ⟨u2, hf2, hf⟩ := xb hf
        refine x_ran (x_runV (q0 := 0) (rest := [.int s10.1, .ref h0]) (As := [.int s10.1]) hC mw_456 md_X3_ageOf (c_X3_ageOf (X := X) hf2) hH [2, 3] rfl (by decide) rfl rfl rfl hl.1 rfl rfl (Nat.le_of_ble_eq_true rfl) dX3_takeFrom_20 ⟨Nat.le_of_ble_eq_true rfl, Nat.le_of_ble_eq_true rfl⟩ ⟨rfl, rfl⟩ ⟨Nat.le_refl _, Nat.le_refl _⟩) rfl (fun hz2 => ?_)
        obtain ⟨u3, hf3, hf⟩ := xb hf
        refine x_ranw (ws' := [(h0, xO 3 [.ref h1, .ref g0, .int x10_v_count]), (h1, xI X 10 u3), (h2, xO 3 [.ref h3, .ref g1, .int v_o1_count]), (h3, xI X 10 v_o1_ages)]) (x_runV (q0 := 0) (rest := []) (As := [.int s10.1, .int u2]) hC mw_398 md_X3_write (c_X3_write (X := X) hf3) hH [0, 1] rfl (by decide) rfl rfl rfl hl.1 rfl rfl (Nat.le_of_ble_eq_true rfl) dX3_takeFrom_23 ⟨Nat.le_of_ble_eq_true rfl, Nat.le_of_ble_eq_true rfl⟩ ⟨rfl, rfl⟩ ⟨Nat.le_refl _, Nat.le_refl _⟩) hH [0, 1] rfl rfl rfl rfl rfl (fun hz3 H locs hH => ?_)
        refine lv_iinc (v := s10.1 + (nI 1)) (lv' := [(2, .int (s10.1 + (nI 1))), (0, .ref h0), (1, .ref h2)]) hx hb dX3_takeFrom_26 hl (k := 2) rfl rfl (by decide) rfl (fun ls hl => ?_)
        refine lv_goto (tgt := 10) hx hb dX3_takeFrom_29 (by decide) ?_
        have hf := xo_go hf ho10
        exact ih10 (s10.1 + (nI 1), u3) hf _ _ hH ls (lv_sub hl [1, 2, 0] rfl)
  refine lv_aload_n hx hb dX3_takeFrom_0 rfl (lv_at hl 0 rfl) ?_
  refine lv_aload_n hx hb dX3_takeFrom_1 rfl (lv_at hl 1 rfl) ?_
  refine x_get hC fd_RX3_19 hH.1 2 rfl rfl dX3_takeFrom_2 ?_
  refine x_put (ws' := [(h0, xO 3 [.ref h1, .ref g0, .int v_o1_count]), (h1, xI X 10 v_ages), (h2, xO 3 [.ref h3, .ref g1, .int v_o1_count]), (h3, xI X 10 v_o1_ages)]) hC fd_RX3_19 hH 0 rfl (Nat.le_of_ble_eq_true rfl) rfl rfl dX3_takeFrom_5 rfl (fun H locs hH => ?_)
  refine lv_iconst (v := (nI 0)) hx hb dX3_takeFrom_8 (by decide) ?_
  refine lv_istore_n (lv' := [(2, .int (nI 0)), (0, .ref h0), (1, .ref h2)]) hx hb dX3_takeFrom_9 rfl hl (by decide) rfl (fun ls hl => ?_)
  exact L10 v_o1_count xN ((nI 0), v_ages) hf _ _ hH ls (lv_sub hl [1, 2, 0] rfl)
def f_X0_takeFrom (v_inForce : Int32) (v_depth : Int32) (v_miss : Int32) (v_ring : Int64) (v_steps : Int32) (v_seed : Int32) (v_laws_count : Int32) (v_laws_kinds : (Nat → Int32)) (v_laws_tunes : (Nat → Int32)) (v_people_count : Int32) (v_people_ages : (Nat → Int32)) (v_o1_inForce : Int32) (v_o1_depth : Int32) (v_o1_miss : Int32) (v_o1_ring : Int64) (v_o1_steps : Int32) (v_o1_seed : Int32) (v_o1_laws_count : Int32) (v_o1_laws_kinds : (Nat → Int32)) (v_o1_laws_tunes : (Nat → Int32)) (v_o1_people_count : Int32) (v_o1_people_ages : (Nat → Int32)) : Option (Int32 × Int32 × Int32 × Int64 × Int32 × Int32 × Int32 × (Nat → Int32) × (Nat → Int32) × Int32 × (Nat → Int32)) :=
  (f_X2_takeFrom v_laws_count v_laws_kinds v_laws_tunes v_o1_laws_count v_o1_laws_kinds v_o1_laws_tunes).bind fun u1 =>
  (f_X3_takeFrom v_people_count v_people_ages v_o1_people_count v_o1_people_ages).bind fun u2 =>
  some (v_o1_inForce, v_o1_depth, v_o1_miss, v_o1_ring, v_o1_steps, v_o1_seed, u1.1, u1.2.1, u1.2.2, u2.1, u2.2)
set_option maxHeartbeats 4000000 in
set_option maxRecDepth 100000 in
theorem c_X0_takeFrom {l : Launch} {X : xG} {h0 h1 h2 h3 h4 h5 h6 h7 h8 h9 h10 h11 g0 g1 : Nat} {v_inForce : Int32} {v_depth : Int32} {v_miss : Int32} {v_ring : Int64} {v_steps : Int32} {v_seed : Int32} {v_laws_count : Int32} {v_laws_kinds : (Nat → Int32)} {v_laws_tunes : (Nat → Int32)} {v_people_count : Int32} {v_people_ages : (Nat → Int32)} {v_o1_inForce : Int32} {v_o1_depth : Int32} {v_o1_miss : Int32} {v_o1_ring : Int64} {v_o1_steps : Int32} {v_o1_seed : Int32} {v_o1_laws_count : Int32} {v_o1_laws_kinds : (Nat → Int32)} {v_o1_laws_tunes : (Nat → Int32)} {v_o1_people_count : Int32} {v_o1_people_ages : (Nat → Int32)} {u : Int32 × Int32 × Int32 × Int64 × Int32 × Int32 × Int32 × (Nat → Int32) × (Nat → Int32) × Int32 × (Nat → Int32)} (hf : f_X0_takeFrom v_inForce v_depth v_miss v_ring v_steps v_seed v_laws_count v_laws_kinds v_laws_tunes v_people_count v_people_ages v_o1_inForce v_o1_depth v_o1_miss v_o1_ring v_o1_steps v_o1_seed v_o1_laws_count v_o1_laws_kinds v_o1_laws_tunes v_o1_people_count v_o1_people_ages = some u) : Met l yX0_takeFrom (xw yX0_takeFrom cX0_takeFrom 2 none) (xrm 3 65) (xPc [.ref h0, .ref h6] X [(h0, xO 0 [.ref h1, .ref h4, .int v_inForce, .int v_depth, .int v_miss, .long v_ring, .int v_steps, .int v_seed]), (h1, xO 2 [.ref h2, .ref h3, .int v_laws_count]), (h2, xI X 6 v_laws_kinds), (h3, xI X 6 v_laws_tunes), (h4, xO 3 [.ref h5, .ref g0, .int v_people_count]), (h5, xI X 10 v_people_ages), (h6, xO 0 [.ref h7, .ref h10, .int v_o1_inForce, .int v_o1_depth, .int v_o1_miss, .long v_o1_ring, .int v_o1_steps, .int v_o1_seed]), (h7, xO 2 [.ref h8, .ref h9, .int v_o1_laws_count]), (h8, xI X 6 v_o1_laws_kinds), (h9, xI X 6 v_o1_laws_tunes), (h10, xO 3 [.ref h11, .ref g1, .int v_o1_people_count]), (h11, xI X 10 v_o1_people_ages)]) (xQw True (.returned none) X [(h0, xO 0 [.ref h1, .ref h4, .int u.1, .int u.2.1, .int u.2.2.1, .long u.2.2.2.1, .int u.2.2.2.2.1, .int u.2.2.2.2.2.1]), (h1, xO 2 [.ref h2, .ref h3, .int u.2.2.2.2.2.2.1]), (h2, xI X 6 u.2.2.2.2.2.2.2.1), (h3, xI X 6 u.2.2.2.2.2.2.2.2.1), (h4, xO 3 [.ref h5, .ref g0, .int u.2.2.2.2.2.2.2.2.2.1]), (h5, xI X 10 u.2.2.2.2.2.2.2.2.2.2), (h6, xO 0 [.ref h7, .ref h10, .int v_o1_inForce, .int v_o1_depth, .int v_o1_miss, .long v_o1_ring, .int v_o1_steps, .int v_o1_seed]), (h7, xO 2 [.ref h8, .ref h9, .int v_o1_laws_count]), (h8, xI X 6 v_o1_laws_kinds), (h9, xI X 6 v_o1_laws_tunes), (h10, xO 3 [.ref h11, .ref g1, .int v_o1_people_count]), (h11, xI X 10 v_o1_people_ages)] (xAs [(h0, xO 0 [.ref h1, .ref h4, .int v_inForce, .int v_depth, .int v_miss, .long v_ring, .int v_steps, .int v_seed]), (h1, xO 2 [.ref h2, .ref h3, .int v_laws_count]), (h2, xI X 6 v_laws_kinds), (h3, xI X 6 v_laws_tunes), (h4, xO 3 [.ref h5, .ref g0, .int v_people_count]), (h5, xI X 10 v_people_ages), (h6, xO 0 [.ref h7, .ref h10, .int v_o1_inForce, .int v_o1_depth, .int v_o1_miss, .long v_o1_ring, .int v_o1_steps, .int v_o1_seed]), (h7, xO 2 [.ref h8, .ref h9, .int v_o1_laws_count]), (h8, xI X 6 v_o1_laws_kinds), (h9, xI X 6 v_o1_laws_tunes), (h10, xO 3 [.ref h11, .ref g1, .int v_o1_people_count]), (h11, xI X 10 v_o1_people_ages)])) 0 0 (xAs [(h0, xO 0 [.ref h1, .ref h4, .int v_inForce, .int v_depth, .int v_miss, .long v_ring, .int v_steps, .int v_seed]), (h1, xO 2 [.ref h2, .ref h3, .int v_laws_count]), (h2, xI X 6 v_laws_kinds), (h3, xI X 6 v_laws_tunes), (h4, xO 3 [.ref h5, .ref g0, .int v_people_count]), (h5, xI X 10 v_people_ages), (h6, xO 0 [.ref h7, .ref h10, .int v_o1_inForce, .int v_o1_depth, .int v_o1_miss, .long v_o1_ring, .int v_o1_steps, .int v_o1_seed]), (h7, xO 2 [.ref h8, .ref h9, .int v_o1_laws_count]), (h8, xI X 6 v_o1_laws_kinds), (h9, xI X 6 v_o1_laws_tunes), (h10, xO 3 [.ref h11, .ref g1, .int v_o1_people_count]), (h11, xI X 10 v_o1_people_ages)]) := by
  refine xMetw (Qc := fun A => xQw True (.returned none) X [(h0, xO 0 [.ref h1, .ref h4, .int u.1, .int u.2.1, .int u.2.2.1, .long u.2.2.2.1, .int u.2.2.2.2.1, .int u.2.2.2.2.2.1]), (h1, xO 2 [.ref h2, .ref h3, .int u.2.2.2.2.2.2.1]), (h2, xI X 6 u.2.2.2.2.2.2.2.1), (h3, xI X 6 u.2.2.2.2.2.2.2.2.1), (h4, xO 3 [.ref h5, .ref g0, .int u.2.2.2.2.2.2.2.2.2.1]), (h5, xI X 10 u.2.2.2.2.2.2.2.2.2.2), (h6, xO 0 [.ref h7, .ref h10, .int v_o1_inForce, .int v_o1_depth, .int v_o1_miss, .long v_o1_ring, .int v_o1_steps, .int v_o1_seed]), (h7, xO 2 [.ref h8, .ref h9, .int v_o1_laws_count]), (h8, xI X 6 v_o1_laws_kinds), (h9, xI X 6 v_o1_laws_tunes), (h10, xO 3 [.ref h11, .ref g1, .int v_o1_people_count]), (h11, xI X 10 v_o1_people_ages)] A) (n := 1) md_X0_takeFrom.1 (Nat.le_of_ble_eq_true rfl) ?_
  intro p e s m args below meth c ls A hC hr hlk hH hl
  have hl : lv_has ls 2 [(0, .ref h0), (1, .ref h6)] := hl
  have hx := hC.1
  have hb := hC.2.1
  refine lv_aload_n hx hb dX0_takeFrom_0 rfl (lv_at hl 0 rfl) ?_
  refine x_get hC fd_RX0_12 hH.1 0 rfl rfl dX0_takeFrom_1 ?_
  refine lv_aload_n hx hb dX0_takeFrom_4 rfl (lv_at hl 1 rfl) ?_
  refine x_get hC fd_RX0_12 hH.1 6 rfl rfl dX0_takeFrom_5 ?_
  obtain ⟨u1, hf1, hf⟩ := xb hf
  refine x_ranw (ws' := [(h0, xO 0 [.ref h1, .ref h4, .int v_inForce, .int v_depth, .int v_miss, .long v_ring, .int v_steps, .int v_seed]), (h1, xO 2 [.ref h2, .ref h3, .int u1.1]), (h2, xI X 6 u1.2.1), (h3, xI X 6 u1.2.2), (h4, xO 3 [.ref h5, .ref g0, .int v_people_count]), (h5, xI X 10 v_people_ages), (h6, xO 0 [.ref h7, .ref h10, .int v_o1_inForce, .int v_o1_depth, .int v_o1_miss, .long v_o1_ring, .int v_o1_steps, .int v_o1_seed]), (h7, xO 2 [.ref h8, .ref h9, .int v_o1_laws_count]), (h8, xI X 6 v_o1_laws_kinds), (h9, xI X 6 v_o1_laws_tunes), (h10, xO 3 [.ref h11, .ref g1, .int v_o1_people_count]), (h11, xI X 10 v_o1_people_ages)]) (x_runV (q0 := 0) (rest := []) (As := [.ref h7]) hC mw_448 md_X2_takeFrom (c_X2_takeFrom (X := X) hf1) hH [1, 2, 3, 7, 8, 9] rfl (by decide) rfl rfl rfl hl.1 rfl rfl (Nat.le_of_ble_eq_true rfl) dX0_takeFrom_8 ⟨Nat.le_of_ble_eq_true rfl, Nat.le_of_ble_eq_true rfl⟩ ⟨rfl, rfl⟩ ⟨Nat.le_refl _, Nat.le_refl _⟩) hH [1, 2, 3, 7, 8, 9] rfl rfl rfl rfl rfl (fun hz1 H locs hH => ?_)
  refine lv_aload_n hx hb dX0_takeFrom_11 rfl (lv_at hl 0 rfl) ?_
  refine x_get hC fd_RX0_21 hH.1 0 rfl rfl dX0_takeFrom_12 ?_
  refine lv_aload_n hx hb dX0_takeFrom_15 rfl (lv_at hl 1 rfl) ?_
  refine x_get hC fd_RX0_21 hH.1 6 rfl rfl dX0_takeFrom_16 ?_
  obtain ⟨u2, hf2, hf⟩ := xb hf
  refine x_ranw (ws' := [(h0, xO 0 [.ref h1, .ref h4, .int v_inForce, .int v_depth, .int v_miss, .long v_ring, .int v_steps, .int v_seed]), (h1, xO 2 [.ref h2, .ref h3, .int u1.1]), (h2, xI X 6 u1.2.1), (h3, xI X 6 u1.2.2), (h4, xO 3 [.ref h5, .ref g0, .int u2.1]), (h5, xI X 10 u2.2), (h6, xO 0 [.ref h7, .ref h10, .int v_o1_inForce, .int v_o1_depth, .int v_o1_miss, .long v_o1_ring, .int v_o1_steps, .int v_o1_seed]), (h7, xO 2 [.ref h8, .ref h9, .int v_o1_laws_count]), (h8, xI X 6 v_o1_laws_kinds), (h9, xI X 6 v_o1_laws_tunes), (h10, xO 3 [.ref h11, .ref g1, .int v_o1_people_count]), (h11, xI X 10 v_o1_people_ages)]) (x_runV (q0 := 0) (rest := []) (As := [.ref h10]) hC mw_452 md_X3_takeFrom (c_X3_takeFrom (X := X) hf2) hH [4, 5, 10, 11] rfl (by decide) rfl rfl rfl hl.1 rfl rfl (Nat.le_of_ble_eq_true rfl) dX0_takeFrom_19 ⟨Nat.le_of_ble_eq_true rfl, Nat.le_of_ble_eq_true rfl⟩ ⟨rfl, rfl⟩ ⟨Nat.le_refl _, Nat.le_refl _⟩) hH [4, 5, 10, 11] rfl rfl rfl rfl rfl (fun hz2 H locs hH => ?_)
  refine lv_aload_n hx hb dX0_takeFrom_22 rfl (lv_at hl 0 rfl) ?_
  refine lv_aload_n hx hb dX0_takeFrom_23 rfl (lv_at hl 1 rfl) ?_
  refine x_get hC fd_RX0_39 hH.1 6 rfl rfl dX0_takeFrom_24 ?_
  refine x_put (ws' := [(h0, xO 0 [.ref h1, .ref h4, .int v_o1_inForce, .int v_depth, .int v_miss, .long v_ring, .int v_steps, .int v_seed]), (h1, xO 2 [.ref h2, .ref h3, .int u1.1]), (h2, xI X 6 u1.2.1), (h3, xI X 6 u1.2.2), (h4, xO 3 [.ref h5, .ref g0, .int u2.1]), (h5, xI X 10 u2.2), (h6, xO 0 [.ref h7, .ref h10, .int v_o1_inForce, .int v_o1_depth, .int v_o1_miss, .long v_o1_ring, .int v_o1_steps, .int v_o1_seed]), (h7, xO 2 [.ref h8, .ref h9, .int v_o1_laws_count]), (h8, xI X 6 v_o1_laws_kinds), (h9, xI X 6 v_o1_laws_tunes), (h10, xO 3 [.ref h11, .ref g1, .int v_o1_people_count]), (h11, xI X 10 v_o1_people_ages)]) hC fd_RX0_39 hH 0 rfl (Nat.le_of_ble_eq_true rfl) rfl rfl dX0_takeFrom_27 rfl (fun H locs hH => ?_)
  refine lv_aload_n hx hb dX0_takeFrom_30 rfl (lv_at hl 0 rfl) ?_
  refine lv_aload_n hx hb dX0_takeFrom_31 rfl (lv_at hl 1 rfl) ?_
  refine x_get hC fd_RX0_25 hH.1 6 rfl rfl dX0_takeFrom_32 ?_
  refine x_put (ws' := [(h0, xO 0 [.ref h1, .ref h4, .int v_o1_inForce, .int v_o1_depth, .int v_miss, .long v_ring, .int v_steps, .int v_seed]), (h1, xO 2 [.ref h2, .ref h3, .int u1.1]), (h2, xI X 6 u1.2.1), (h3, xI X 6 u1.2.2), (h4, xO 3 [.ref h5, .ref g0, .int u2.1]), (h5, xI X 10 u2.2), (h6, xO 0 [.ref h7, .ref h10, .int v_o1_inForce, .int v_o1_depth, .int v_o1_miss, .long v_o1_ring, .int v_o1_steps, .int v_o1_seed]), (h7, xO 2 [.ref h8, .ref h9, .int v_o1_laws_count]), (h8, xI X 6 v_o1_laws_kinds), (h9, xI X 6 v_o1_laws_tunes), (h10, xO 3 [.ref h11, .ref g1, .int v_o1_people_count]), (h11, xI X 10 v_o1_people_ages)]) hC fd_RX0_25 hH 0 rfl (Nat.le_of_ble_eq_true rfl) rfl rfl dX0_takeFrom_35 rfl (fun H locs hH => ?_)
  refine lv_aload_n hx hb dX0_takeFrom_38 rfl (lv_at hl 0 rfl) ?_
  refine lv_aload_n hx hb dX0_takeFrom_39 rfl (lv_at hl 1 rfl) ?_
  refine x_get hC fd_RX0_42 hH.1 6 rfl rfl dX0_takeFrom_40 ?_
  refine x_put (ws' := [(h0, xO 0 [.ref h1, .ref h4, .int v_o1_inForce, .int v_o1_depth, .int v_o1_miss, .long v_ring, .int v_steps, .int v_seed]), (h1, xO 2 [.ref h2, .ref h3, .int u1.1]), (h2, xI X 6 u1.2.1), (h3, xI X 6 u1.2.2), (h4, xO 3 [.ref h5, .ref g0, .int u2.1]), (h5, xI X 10 u2.2), (h6, xO 0 [.ref h7, .ref h10, .int v_o1_inForce, .int v_o1_depth, .int v_o1_miss, .long v_o1_ring, .int v_o1_steps, .int v_o1_seed]), (h7, xO 2 [.ref h8, .ref h9, .int v_o1_laws_count]), (h8, xI X 6 v_o1_laws_kinds), (h9, xI X 6 v_o1_laws_tunes), (h10, xO 3 [.ref h11, .ref g1, .int v_o1_people_count]), (h11, xI X 10 v_o1_people_ages)]) hC fd_RX0_42 hH 0 rfl (Nat.le_of_ble_eq_true rfl) rfl rfl dX0_takeFrom_43 rfl (fun H locs hH => ?_)
  refine lv_aload_n hx hb dX0_takeFrom_46 rfl (lv_at hl 0 rfl) ?_
  refine lv_aload_n hx hb dX0_takeFrom_47 rfl (lv_at hl 1 rfl) ?_
  refine x_get hC fd_RX0_45 hH.1 6 rfl rfl dX0_takeFrom_48 ?_
  refine x_put (ws' := [(h0, xO 0 [.ref h1, .ref h4, .int v_o1_inForce, .int v_o1_depth, .int v_o1_miss, .long v_o1_ring, .int v_steps, .int v_seed]), (h1, xO 2 [.ref h2, .ref h3, .int u1.1]), (h2, xI X 6 u1.2.1), (h3, xI X 6 u1.2.2), (h4, xO 3 [.ref h5, .ref g0, .int u2.1]), (h5, xI X 10 u2.2), (h6, xO 0 [.ref h7, .ref h10, .int v_o1_inForce, .int v_o1_depth, .int v_o1_miss, .long v_o1_ring, .int v_o1_steps, .int v_o1_seed]), (h7, xO 2 [.ref h8, .ref h9, .int v_o1_laws_count]), (h8, xI X 6 v_o1_laws_kinds), (h9, xI X 6 v_o1_laws_tunes), (h10, xO 3 [.ref h11, .ref g1, .int v_o1_people_count]), (h11, xI X 10 v_o1_people_ages)]) hC fd_RX0_45 hH 0 rfl (Nat.le_of_ble_eq_true rfl) rfl rfl dX0_takeFrom_51 rfl (fun H locs hH => ?_)
  refine lv_aload_n hx hb dX0_takeFrom_54 rfl (lv_at hl 0 rfl) ?_
  refine lv_aload_n hx hb dX0_takeFrom_55 rfl (lv_at hl 1 rfl) ?_
  refine x_get hC fd_RX0_49 hH.1 6 rfl rfl dX0_takeFrom_56 ?_
  refine x_put (ws' := [(h0, xO 0 [.ref h1, .ref h4, .int v_o1_inForce, .int v_o1_depth, .int v_o1_miss, .long v_o1_ring, .int v_o1_steps, .int v_seed]), (h1, xO 2 [.ref h2, .ref h3, .int u1.1]), (h2, xI X 6 u1.2.1), (h3, xI X 6 u1.2.2), (h4, xO 3 [.ref h5, .ref g0, .int u2.1]), (h5, xI X 10 u2.2), (h6, xO 0 [.ref h7, .ref h10, .int v_o1_inForce, .int v_o1_depth, .int v_o1_miss, .long v_o1_ring, .int v_o1_steps, .int v_o1_seed]), (h7, xO 2 [.ref h8, .ref h9, .int v_o1_laws_count]), (h8, xI X 6 v_o1_laws_kinds), (h9, xI X 6 v_o1_laws_tunes), (h10, xO 3 [.ref h11, .ref g1, .int v_o1_people_count]), (h11, xI X 10 v_o1_people_ages)]) hC fd_RX0_49 hH 0 rfl (Nat.le_of_ble_eq_true rfl) rfl rfl dX0_takeFrom_59 rfl (fun H locs hH => ?_)
  refine lv_aload_n hx hb dX0_takeFrom_62 rfl (lv_at hl 0 rfl) ?_
  refine lv_aload_n hx hb dX0_takeFrom_63 rfl (lv_at hl 1 rfl) ?_
  refine x_get hC fd_RX0_29 hH.1 6 rfl rfl dX0_takeFrom_64 ?_
  refine x_put (ws' := [(h0, xO 0 [.ref h1, .ref h4, .int v_o1_inForce, .int v_o1_depth, .int v_o1_miss, .long v_o1_ring, .int v_o1_steps, .int v_o1_seed]), (h1, xO 2 [.ref h2, .ref h3, .int u1.1]), (h2, xI X 6 u1.2.1), (h3, xI X 6 u1.2.2), (h4, xO 3 [.ref h5, .ref g0, .int u2.1]), (h5, xI X 10 u2.2), (h6, xO 0 [.ref h7, .ref h10, .int v_o1_inForce, .int v_o1_depth, .int v_o1_miss, .long v_o1_ring, .int v_o1_steps, .int v_o1_seed]), (h7, xO 2 [.ref h8, .ref h9, .int v_o1_laws_count]), (h8, xI X 6 v_o1_laws_kinds), (h9, xI X 6 v_o1_laws_tunes), (h10, xO 3 [.ref h11, .ref g1, .int v_o1_people_count]), (h11, xI X 10 v_o1_people_ages)]) hC fd_RX0_29 hH 0 rfl (Nat.le_of_ble_eq_true rfl) rfl rfl dX0_takeFrom_67 rfl (fun H locs hH => ?_)
  exact x_retvw (φ := fun _ => True) (wf := fun u : Int32 × Int32 × Int32 × Int64 × Int32 × Int32 × Int32 × (Nat → Int32) × (Nat → Int32) × Int32 × (Nat → Int32) => [(h0, xO 0 [.ref h1, .ref h4, .int u.1, .int u.2.1, .int u.2.2.1, .long u.2.2.2.1, .int u.2.2.2.2.1, .int u.2.2.2.2.2.1]), (h1, xO 2 [.ref h2, .ref h3, .int u.2.2.2.2.2.2.1]), (h2, xI X 6 u.2.2.2.2.2.2.2.1), (h3, xI X 6 u.2.2.2.2.2.2.2.2.1), (h4, xO 3 [.ref h5, .ref g0, .int u.2.2.2.2.2.2.2.2.2.1]), (h5, xI X 10 u.2.2.2.2.2.2.2.2.2.2), (h6, xO 0 [.ref h7, .ref h10, .int v_o1_inForce, .int v_o1_depth, .int v_o1_miss, .long v_o1_ring, .int v_o1_steps, .int v_o1_seed]), (h7, xO 2 [.ref h8, .ref h9, .int v_o1_laws_count]), (h8, xI X 6 v_o1_laws_kinds), (h9, xI X 6 v_o1_laws_tunes), (h10, xO 3 [.ref h11, .ref g1, .int v_o1_people_count]), (h11, xI X 10 v_o1_people_ages)]) hC hr hlk trivial hf hH rfl dX0_takeFrom_70
def f_X0_hasRoom (v_steps : Int32) : Option (Int32) :=
  if (nI 40) ≤ v_steps then
    some (nI 0)
  else
  some (nI 1)
set_option maxHeartbeats 4000000 in
set_option maxRecDepth 100000 in
theorem c_X0_hasRoom {l : Launch} {X : xG} {h0 g0 g1 : Nat} {v_inForce : Int32} {v_depth : Int32} {v_miss : Int32} {v_ring : Int64} {v_steps : Int32} {v_seed : Int32} {u : Int32} (hf : f_X0_hasRoom v_steps = some u) : Met l yX0_hasRoom (xw yX0_hasRoom cX0_hasRoom 1 (some .boolean)) (xrm 0 0) (xPc [.ref h0] X [(h0, xO 0 [.ref g0, .ref g1, .int v_inForce, .int v_depth, .int v_miss, .long v_ring, .int v_steps, .int v_seed])]) (xQ (u = 0 ∨ u = 1) (.returned (some (.int u)))) 0 0 xNo := by
  refine xMet (n := 0) md_X0_hasRoom.1 (Nat.le_of_ble_eq_true rfl) ?_
  intro p e s m args below meth c ls A hC hr hlk hH hl
  have hl : lv_has ls 1 [(0, .ref h0)] := hl
  have hx := hC.1
  have hb := hC.2.1
  refine lv_aload_n hx hb dX0_hasRoom_0 rfl (lv_at hl 0 rfl) ?_
  refine x_get hC fd_RX0_49 hH.1 0 rfl rfl dX0_hasRoom_1 ?_
  refine lv_bipush (v := (nI 40)) hx hb dX0_hasRoom_4 (by decide) ?_
  refine lv_icmp_ge (tgt := 13) hx hb dX0_hasRoom_6 (by decide) (fun c1 => ?_) (fun c1 => ?_)
  · have hf := xt c1 hf
    refine lv_iconst (v := (nI 0)) hx hb dX0_hasRoom_13 (by decide) ?_
    exact x_retz hC hr hlk (Or.inl rfl) hf dX0_hasRoom_14
  · have hf := xe c1 hf
    refine lv_iconst (v := (nI 1)) hx hb dX0_hasRoom_9 (by decide) ?_
    refine lv_goto (tgt := 14) hx hb dX0_hasRoom_10 (by decide) ?_
    exact x_retz hC hr hlk (Or.inr rfl) hf dX0_hasRoom_14
def f_X0_addStep (v_ring : Int64) (v_steps : Int32) (p1 : Int32) : Option (Int64 × Int32) :=
  (f_X0_hasRoom v_steps).bind fun u1 =>
  if u1 = (nI 0) then
    some (v_ring, v_steps)
  else
  if p1 = (nI 0) then
    some (v_ring ||| (lN 0), v_steps + (nI 1))
  else
  some (v_ring ||| (xlshl (lN 1) v_steps), v_steps + (nI 1))
set_option maxHeartbeats 4000000 in
set_option maxRecDepth 100000 in
theorem c_X0_addStep {l : Launch} {X : xG} {h0 g0 g1 : Nat} {v_inForce : Int32} {v_depth : Int32} {v_miss : Int32} {v_ring : Int64} {v_steps : Int32} {v_seed : Int32} {p1 : Int32} {u : Int64 × Int32} (hf : f_X0_addStep v_ring v_steps p1 = some u) : Met l yX0_addStep (xw yX0_addStep cX0_addStep 2 none) (xrm 1 20) (xPc [.ref h0, .int p1] X [(h0, xO 0 [.ref g0, .ref g1, .int v_inForce, .int v_depth, .int v_miss, .long v_ring, .int v_steps, .int v_seed])]) (xQw True (.returned none) X [(h0, xO 0 [.ref g0, .ref g1, .int v_inForce, .int v_depth, .int v_miss, .long u.1, .int u.2, .int v_seed])] (xAs [(h0, xO 0 [.ref g0, .ref g1, .int v_inForce, .int v_depth, .int v_miss, .long v_ring, .int v_steps, .int v_seed])])) 0 0 (xAs [(h0, xO 0 [.ref g0, .ref g1, .int v_inForce, .int v_depth, .int v_miss, .long v_ring, .int v_steps, .int v_seed])]) := by
  refine xMetw (Qc := fun A => xQw True (.returned none) X [(h0, xO 0 [.ref g0, .ref g1, .int v_inForce, .int v_depth, .int v_miss, .long u.1, .int u.2, .int v_seed])] A) (n := 1) md_X0_addStep.1 (Nat.le_of_ble_eq_true rfl) ?_
  intro p e s m args below meth c ls A hC hr hlk hH hl
  have hl : lv_has ls 2 [(0, .ref h0), (1, .int p1)] := hl
  have hx := hC.1
  have hb := hC.2.1
  refine lv_aload_n hx hb dX0_addStep_0 rfl (lv_at hl 0 rfl) ?_
  obtain ⟨u1, hf1, hf⟩ := xb hf
  refine x_ran (x_runV (q0 := 0) (rest := []) (As := []) hC mw_584 md_X0_hasRoom (c_X0_hasRoom (X := X) hf1) hH [0] rfl (by decide) rfl rfl rfl hl.1 rfl rfl (Nat.le_of_ble_eq_true rfl) dX0_addStep_1 ⟨Nat.le_of_ble_eq_true rfl, Nat.le_of_ble_eq_true rfl⟩ ⟨rfl, rfl⟩ ⟨Nat.le_refl _, Nat.le_refl _⟩) rfl (fun hz1 => ?_)
  refine lv_if_eq (tgt := 40) hx hb dX0_addStep_4 (by decide) (fun c2 => ?_) (fun c2 => ?_)
  · have hf := xt c2 hf
    exact x_retvw (φ := fun _ => True) (wf := fun u : Int64 × Int32 => [(h0, xO 0 [.ref g0, .ref g1, .int v_inForce, .int v_depth, .int v_miss, .long u.1, .int u.2, .int v_seed])]) hC hr hlk trivial hf hH rfl dX0_addStep_40
  · have hf := xe c2 hf
    refine lv_aload_n hx hb dX0_addStep_7 rfl (lv_at hl 0 rfl) ?_
    refine lv_dup hx hb dX0_addStep_8 rfl ?_
    refine x_get hC fd_RX0_45 hH.1 0 rfl rfl dX0_addStep_9 ?_
    refine lv_iload_n hx hb dX0_addStep_12 rfl (lv_at hl 1 rfl) ?_
    refine lv_if_eq (tgt := 25) hx hb dX0_addStep_13 (by decide) (fun c3 => ?_) (fun c3 => ?_)
    · have hf := xt c3 hf
      refine lv_lconst (v := (lN 0)) hx hb dX0_addStep_25 (by decide) ?_
      refine lv_lor hx hb dX0_addStep_26 ?_
      refine x_put (ws' := [(h0, xO 0 [.ref g0, .ref g1, .int v_inForce, .int v_depth, .int v_miss, .long (v_ring ||| (lN 0)), .int v_steps, .int v_seed])]) hC fd_RX0_45 hH 0 rfl (Nat.le_of_ble_eq_true rfl) rfl rfl dX0_addStep_27 rfl (fun H locs hH => ?_)
      refine lv_aload_n hx hb dX0_addStep_30 rfl (lv_at hl 0 rfl) ?_
      refine lv_dup hx hb dX0_addStep_31 rfl ?_
      refine x_get hC fd_RX0_49 hH.1 0 rfl rfl dX0_addStep_32 ?_
      refine lv_iconst (v := (nI 1)) hx hb dX0_addStep_35 (by decide) ?_
      refine lv_iadd hx hb dX0_addStep_36 ?_
      refine x_put (ws' := [(h0, xO 0 [.ref g0, .ref g1, .int v_inForce, .int v_depth, .int v_miss, .long (v_ring ||| (lN 0)), .int (v_steps + (nI 1)), .int v_seed])]) hC fd_RX0_49 hH 0 rfl (Nat.le_of_ble_eq_true rfl) rfl rfl dX0_addStep_37 rfl (fun H locs hH => ?_)
      exact x_retvw (φ := fun _ => True) (wf := fun u : Int64 × Int32 => [(h0, xO 0 [.ref g0, .ref g1, .int v_inForce, .int v_depth, .int v_miss, .long u.1, .int u.2, .int v_seed])]) hC hr hlk trivial hf hH rfl dX0_addStep_40
    · have hf := xe c3 hf
      refine lv_lconst (v := (lN 1)) hx hb dX0_addStep_16 (by decide) ?_
      refine lv_aload_n hx hb dX0_addStep_17 rfl (lv_at hl 0 rfl) ?_
      refine x_get hC fd_RX0_49 hH.1 0 rfl rfl dX0_addStep_18 ?_
      refine x_lshl hx hb dX0_addStep_21 ?_
      refine lv_goto (tgt := 26) hx hb dX0_addStep_22 (by decide) ?_
      refine lv_lor hx hb dX0_addStep_26 ?_
      refine x_put (ws' := [(h0, xO 0 [.ref g0, .ref g1, .int v_inForce, .int v_depth, .int v_miss, .long (v_ring ||| (xlshl (lN 1) v_steps)), .int v_steps, .int v_seed])]) hC fd_RX0_45 hH 0 rfl (Nat.le_of_ble_eq_true rfl) rfl rfl dX0_addStep_27 rfl (fun H locs hH => ?_)
      refine lv_aload_n hx hb dX0_addStep_30 rfl (lv_at hl 0 rfl) ?_
      refine lv_dup hx hb dX0_addStep_31 rfl ?_
      refine x_get hC fd_RX0_49 hH.1 0 rfl rfl dX0_addStep_32 ?_
      refine lv_iconst (v := (nI 1)) hx hb dX0_addStep_35 (by decide) ?_
      refine lv_iadd hx hb dX0_addStep_36 ?_
      refine x_put (ws' := [(h0, xO 0 [.ref g0, .ref g1, .int v_inForce, .int v_depth, .int v_miss, .long (v_ring ||| (xlshl (lN 1) v_steps)), .int (v_steps + (nI 1)), .int v_seed])]) hC fd_RX0_49 hH 0 rfl (Nat.le_of_ble_eq_true rfl) rfl rfl dX0_addStep_37 rfl (fun H locs hH => ?_)
      exact x_retvw (φ := fun _ => True) (wf := fun u : Int64 × Int32 => [(h0, xO 0 [.ref g0, .ref g1, .int v_inForce, .int v_depth, .int v_miss, .long u.1, .int u.2, .int v_seed])]) hC hr hlk trivial hf hH rfl dX0_addStep_40
def f_X0_clearRing (v_ring : Int64) (v_steps : Int32) : Option (Int64 × Int32) :=
  some ((lN 0), (nI 0))
set_option maxHeartbeats 4000000 in
set_option maxRecDepth 100000 in
theorem c_X0_clearRing {l : Launch} {X : xG} {h0 g0 g1 : Nat} {v_inForce : Int32} {v_depth : Int32} {v_miss : Int32} {v_ring : Int64} {v_steps : Int32} {v_seed : Int32} {u : Int64 × Int32} (hf : f_X0_clearRing v_ring v_steps = some u) : Met l yX0_clearRing (xw yX0_clearRing cX0_clearRing 1 none) (xrm 0 0) (xPc [.ref h0] X [(h0, xO 0 [.ref g0, .ref g1, .int v_inForce, .int v_depth, .int v_miss, .long v_ring, .int v_steps, .int v_seed])]) (xQw True (.returned none) X [(h0, xO 0 [.ref g0, .ref g1, .int v_inForce, .int v_depth, .int v_miss, .long u.1, .int u.2, .int v_seed])] (xAs [(h0, xO 0 [.ref g0, .ref g1, .int v_inForce, .int v_depth, .int v_miss, .long v_ring, .int v_steps, .int v_seed])])) 0 0 (xAs [(h0, xO 0 [.ref g0, .ref g1, .int v_inForce, .int v_depth, .int v_miss, .long v_ring, .int v_steps, .int v_seed])]) := by
  refine xMetw (Qc := fun A => xQw True (.returned none) X [(h0, xO 0 [.ref g0, .ref g1, .int v_inForce, .int v_depth, .int v_miss, .long u.1, .int u.2, .int v_seed])] A) (n := 0) md_X0_clearRing.1 (Nat.le_of_ble_eq_true rfl) ?_
  intro p e s m args below meth c ls A hC hr hlk hH hl
  have hl : lv_has ls 1 [(0, .ref h0)] := hl
  have hx := hC.1
  have hb := hC.2.1
  refine lv_aload_n hx hb dX0_clearRing_0 rfl (lv_at hl 0 rfl) ?_
  refine lv_lconst (v := (lN 0)) hx hb dX0_clearRing_1 (by decide) ?_
  refine x_put (ws' := [(h0, xO 0 [.ref g0, .ref g1, .int v_inForce, .int v_depth, .int v_miss, .long (lN 0), .int v_steps, .int v_seed])]) hC fd_RX0_45 hH 0 rfl (Nat.le_of_ble_eq_true rfl) rfl rfl dX0_clearRing_2 rfl (fun H locs hH => ?_)
  refine lv_aload_n hx hb dX0_clearRing_5 rfl (lv_at hl 0 rfl) ?_
  refine lv_iconst (v := (nI 0)) hx hb dX0_clearRing_6 (by decide) ?_
  refine x_put (ws' := [(h0, xO 0 [.ref g0, .ref g1, .int v_inForce, .int v_depth, .int v_miss, .long (lN 0), .int (nI 0), .int v_seed])]) hC fd_RX0_49 hH 0 rfl (Nat.le_of_ble_eq_true rfl) rfl rfl dX0_clearRing_7 rfl (fun H locs hH => ?_)
  exact x_retvw (φ := fun _ => True) (wf := fun u : Int64 × Int32 => [(h0, xO 0 [.ref g0, .ref g1, .int v_inForce, .int v_depth, .int v_miss, .long u.1, .int u.2, .int v_seed])]) hC hr hlk trivial hf hH rfl dX0_clearRing_10
def f_X6_isWithin (p0 : Int32) (p1 : Int32) (p2 : Int32) : Option (Int32) :=
  if p0 < p1 then
    some (nI 0)
  else
  if p2 < p0 then
    some (nI 0)
  else
  some (nI 1)
set_option maxHeartbeats 4000000 in
set_option maxRecDepth 100000 in
theorem c_X6_isWithin {l : Launch} {X : xG} {p0 : Int32} {p1 : Int32} {p2 : Int32} {u : Int32} (hf : f_X6_isWithin p0 p1 p2 = some u) : Met l yX6_isWithin (xw yX6_isWithin cX6_isWithin 3 (some .boolean)) (xrm 0 0) (xPc [.int p0, .int p1, .int p2] X []) (xQ (u = 0 ∨ u = 1) (.returned (some (.int u)))) 0 0 xNo := by
  refine xMet (n := 3) md_X6_isWithin.1 (Nat.le_of_ble_eq_true rfl) ?_
  intro p e s m args below meth c ls A hC hr hlk hH hl
  have hl : lv_has ls 3 [(0, .int p0), (1, .int p1), (2, .int p2)] := hl
  have hx := hC.1
  have hb := hC.2.1
  refine lv_iload_n hx hb dX6_isWithin_0 rfl (lv_at hl 0 rfl) ?_
  refine lv_iload_n hx hb dX6_isWithin_1 rfl (lv_at hl 1 rfl) ?_
  refine lv_icmp_lt (tgt := 14) hx hb dX6_isWithin_2 (by decide) (fun c1 => ?_) (fun c1 => ?_)
  · have hf := xt c1 hf
    refine lv_iconst (v := (nI 0)) hx hb dX6_isWithin_14 (by decide) ?_
    exact x_retz hC hr hlk (Or.inl rfl) hf dX6_isWithin_15
  · have hf := xe c1 hf
    refine lv_iload_n hx hb dX6_isWithin_5 rfl (lv_at hl 0 rfl) ?_
    refine lv_iload_n hx hb dX6_isWithin_6 rfl (lv_at hl 2 rfl) ?_
    refine lv_icmp_gt (tgt := 14) hx hb dX6_isWithin_7 (by decide) (fun c2 => ?_) (fun c2 => ?_)
    · have hf := xt c2 hf
      refine lv_iconst (v := (nI 0)) hx hb dX6_isWithin_14 (by decide) ?_
      exact x_retz hC hr hlk (Or.inl rfl) hf dX6_isWithin_15
    · have hf := xe c2 hf
      refine lv_iconst (v := (nI 1)) hx hb dX6_isWithin_10 (by decide) ?_
      refine lv_goto (tgt := 15) hx hb dX6_isWithin_11 (by decide) ?_
      exact x_retz hC hr hlk (Or.inr rfl) hf dX6_isWithin_15
def f_X2_isThere (v_count : Int32) (p1 : Int32) : Option (Int32) :=
  (f_X6_isWithin p1 (nI 0) (v_count - (nI 1))).bind fun u1 =>
  some u1
set_option maxHeartbeats 4000000 in
set_option maxRecDepth 100000 in
theorem c_X2_isThere {l : Launch} {X : xG} {h0 g0 g1 : Nat} {v_count : Int32} {p1 : Int32} {u : Int32} (hf : f_X2_isThere v_count p1 = some u) : Met l yX2_isThere (xw yX2_isThere cX2_isThere 2 (some .boolean)) (xrm 1 22) (xPc [.ref h0, .int p1] X [(h0, xO 2 [.ref g0, .ref g1, .int v_count])]) (xQ (u = 0 ∨ u = 1) (.returned (some (.int u)))) 0 0 xNo := by
  refine xMet (n := 1) md_X2_isThere.1 (Nat.le_of_ble_eq_true rfl) ?_
  intro p e s m args below meth c ls A hC hr hlk hH hl
  have hl : lv_has ls 2 [(0, .ref h0), (1, .int p1)] := hl
  have hx := hC.1
  have hb := hC.2.1
  refine lv_iload_n hx hb dX2_isThere_0 rfl (lv_at hl 1 rfl) ?_
  refine lv_iconst (v := (nI 0)) hx hb dX2_isThere_1 (by decide) ?_
  refine lv_aload_n hx hb dX2_isThere_2 rfl (lv_at hl 0 rfl) ?_
  refine x_get hC fd_RX2_22 hH.1 0 rfl rfl dX2_isThere_3 ?_
  refine lv_iconst (v := (nI 1)) hx hb dX2_isThere_6 (by decide) ?_
  refine lv_isub hx hb dX2_isThere_7 ?_
  obtain ⟨u1, hf1, hf⟩ := xb hf
  refine x_ran (x_runSN (rest := []) (As := [.int p1, .int (nI 0), .int (v_count - (nI 1))]) hC mn_RX2_18 md_X6_isWithin (c_X6_isWithin (X := X) hf1) hH [] rfl (by decide) hl.1 rfl rfl (Nat.le_of_ble_eq_true rfl) dX2_isThere_8 ⟨Nat.le_of_ble_eq_true rfl, Nat.le_of_ble_eq_true rfl⟩ ⟨rfl, rfl⟩ ⟨Nat.le_refl _, Nat.le_refl _⟩) rfl (fun hz1 => ?_)
  exact x_retz hC hr hlk hz1 hf dX2_isThere_11
def f_X2_stepsLookedAhead (p0 : Int32) (p1 : Int32) : Option (Int32) :=
  if p0 = (nI 3) then
    some (p1 + (nI 2))
  else
  some (p1 + (nI 1))
set_option maxHeartbeats 4000000 in
set_option maxRecDepth 100000 in
theorem c_X2_stepsLookedAhead {l : Launch} {X : xG} {p0 : Int32} {p1 : Int32} {u : Int32} (hf : f_X2_stepsLookedAhead p0 p1 = some u) : Met l yX2_stepsLookedAhead (xw yX2_stepsLookedAhead cX2_stepsLookedAhead 2 (some .int)) (xrm 0 0) (xPc [.int p0, .int p1] X []) (xQ True (.returned (some (.int u)))) 0 0 xNo := by
  refine xMet (n := 2) md_X2_stepsLookedAhead.1 (Nat.le_of_ble_eq_true rfl) ?_
  intro p e s m args below meth c ls A hC hr hlk hH hl
  have hl : lv_has ls 2 [(0, .int p0), (1, .int p1)] := hl
  have hx := hC.1
  have hb := hC.2.1
  refine lv_iload_n hx hb dX2_stepsLookedAhead_0 rfl (lv_at hl 0 rfl) ?_
  refine lv_iconst (v := (nI 3)) hx hb dX2_stepsLookedAhead_1 (by decide) ?_
  refine lv_icmp_ne (tgt := 11) hx hb dX2_stepsLookedAhead_2 (by decide) (fun c1 => ?_) (fun c1 => ?_)
  · have hf := xe c1 hf
    refine lv_iload_n hx hb dX2_stepsLookedAhead_11 rfl (lv_at hl 1 rfl) ?_
    refine lv_iconst (v := (nI 1)) hx hb dX2_stepsLookedAhead_12 (by decide) ?_
    refine lv_iadd hx hb dX2_stepsLookedAhead_13 ?_
    exact x_reti hC hr hlk trivial hf dX2_stepsLookedAhead_14
  · have hf := xt c1 hf
    refine lv_iload_n hx hb dX2_stepsLookedAhead_5 rfl (lv_at hl 1 rfl) ?_
    refine lv_iconst (v := (nI 2)) hx hb dX2_stepsLookedAhead_6 (by decide) ?_
    refine lv_iadd hx hb dX2_stepsLookedAhead_7 ?_
    refine lv_goto (tgt := 14) hx hb dX2_stepsLookedAhead_8 (by decide) ?_
    exact x_reti hC hr hlk trivial hf dX2_stepsLookedAhead_14
def f_X6_isIn (p0 : Int64) (p1 : Int32) : Option (Int32) :=
  if (xcmp ((xlushr p0 p1) &&& (lN 1)) (lN 0)) = (nI 0) then
    some (nI 0)
  else
  some (nI 1)
set_option maxHeartbeats 4000000 in
set_option maxRecDepth 100000 in
theorem c_X6_isIn {l : Launch} {X : xG} {p0 : Int64} {p1 : Int32} {u : Int32} (hf : f_X6_isIn p0 p1 = some u) : Met l yX6_isIn (xw yX6_isIn cX6_isIn 3 (some .boolean)) (xrm 0 0) (xPc [.long p0, .int p1] X []) (xQ (u = 0 ∨ u = 1) (.returned (some (.int u)))) 0 0 xNo := by
  refine xMet (n := 2) md_X6_isIn.1 (Nat.le_of_ble_eq_true rfl) ?_
  intro p e s m args below meth c ls A hC hr hlk hH hl
  have hl : lv_has ls 3 [(0, .long p0), (2, .int p1)] := hl
  have hx := hC.1
  have hb := hC.2.1
  refine lv_lload_n hx hb dX6_isIn_0 rfl (lv_at hl 0 rfl) ?_
  refine lv_iload_n hx hb dX6_isIn_1 rfl (lv_at hl 1 rfl) ?_
  refine x_lushr hx hb dX6_isIn_2 ?_
  refine lv_lconst (v := (lN 1)) hx hb dX6_isIn_3 (by decide) ?_
  refine lv_land hx hb dX6_isIn_4 ?_
  refine lv_lconst (v := (lN 0)) hx hb dX6_isIn_5 (by decide) ?_
  refine x_lcmp hx hb dX6_isIn_6 ?_
  refine lv_if_eq (tgt := 14) hx hb dX6_isIn_7 (by decide) (fun c1 => ?_) (fun c1 => ?_)
  · have hf := xt c1 hf
    refine lv_iconst (v := (nI 0)) hx hb dX6_isIn_14 (by decide) ?_
    exact x_retz hC hr hlk (Or.inl rfl) hf dX6_isIn_15
  · have hf := xe c1 hf
    refine lv_iconst (v := (nI 1)) hx hb dX6_isIn_10 (by decide) ?_
    refine lv_goto (tgt := 15) hx hb dX6_isIn_11 (by decide) ?_
    exact x_retz hC hr hlk (Or.inr rfl) hf dX6_isIn_15
def f_X2_isStrokeAt (p0 : Int64) (p1 : Int32) (p2 : Int32) : Option (Int32) :=
  if p1 ≤ (nI 0) then
    some (nI 0)
  else
  if p2 < (nI 0) then
    some (nI 0)
  else
  if p1 = nI 0 then none else
  (f_X6_isIn p0 (xrem p2 p1)).bind fun u4 =>
  if u4 = (nI 0) then
    some (nI 0)
  else
  some (nI 1)
set_option maxHeartbeats 4000000 in
set_option maxRecDepth 100000 in
theorem c_X2_isStrokeAt {l : Launch} {X : xG} {p0 : Int64} {p1 : Int32} {p2 : Int32} {u : Int32} (hf : f_X2_isStrokeAt p0 p1 p2 = some u) : Met l yX2_isStrokeAt (xw yX2_isStrokeAt cX2_isStrokeAt 4 (some .boolean)) (xrm 1 22) (xPc [.long p0, .int p1, .int p2] X []) (xQ (u = 0 ∨ u = 1) (.returned (some (.int u)))) 0 0 xNo := by
  refine xMet (n := 3) md_X2_isStrokeAt.1 (Nat.le_of_ble_eq_true rfl) ?_
  intro p e s m args below meth c ls A hC hr hlk hH hl
  have hl : lv_has ls 4 [(0, .long p0), (2, .int p1), (3, .int p2)] := hl
  have hx := hC.1
  have hb := hC.2.1
  refine lv_iload_n hx hb dX2_isStrokeAt_0 rfl (lv_at hl 1 rfl) ?_
  refine lv_if_le (tgt := 22) hx hb dX2_isStrokeAt_1 (by decide) (fun c1 => ?_) (fun c1 => ?_)
  · have hf := xt c1 hf
    refine lv_iconst (v := (nI 0)) hx hb dX2_isStrokeAt_22 (by decide) ?_
    exact x_retz hC hr hlk (Or.inl rfl) hf dX2_isStrokeAt_23
  · have hf := xe c1 hf
    refine lv_iload_n hx hb dX2_isStrokeAt_4 rfl (lv_at hl 2 rfl) ?_
    refine lv_if_lt (tgt := 22) hx hb dX2_isStrokeAt_5 (by decide) (fun c2 => ?_) (fun c2 => ?_)
    · have hf := xt c2 hf
      refine lv_iconst (v := (nI 0)) hx hb dX2_isStrokeAt_22 (by decide) ?_
      exact x_retz hC hr hlk (Or.inl rfl) hf dX2_isStrokeAt_23
    · have hf := xe c2 hf
      refine lv_lload_n hx hb dX2_isStrokeAt_8 rfl (lv_at hl 0 rfl) ?_
      refine lv_iload_n hx hb dX2_isStrokeAt_9 rfl (lv_at hl 2 rfl) ?_
      refine lv_iload_n hx hb dX2_isStrokeAt_10 rfl (lv_at hl 1 rfl) ?_
      obtain ⟨n3, hf⟩ := xok hf
      refine x_irem hx hb dX2_isStrokeAt_11 n3 ?_
      obtain ⟨u4, hf4, hf⟩ := xb hf
      refine x_ran (x_runSN (rest := []) (As := [.long p0, .int (xrem p2 p1)]) hC mn_RX2_68 md_X6_isIn (c_X6_isIn (X := X) hf4) hH [] rfl (by decide) hl.1 rfl rfl (Nat.le_of_ble_eq_true rfl) dX2_isStrokeAt_12 ⟨Nat.le_of_ble_eq_true rfl, Nat.le_of_ble_eq_true rfl⟩ ⟨rfl, rfl⟩ ⟨Nat.le_refl _, Nat.le_refl _⟩) rfl (fun hz4 => ?_)
      refine lv_if_eq (tgt := 22) hx hb dX2_isStrokeAt_15 (by decide) (fun c5 => ?_) (fun c5 => ?_)
      · have hf := xt c5 hf
        refine lv_iconst (v := (nI 0)) hx hb dX2_isStrokeAt_22 (by decide) ?_
        exact x_retz hC hr hlk (Or.inl rfl) hf dX2_isStrokeAt_23
      · have hf := xe c5 hf
        refine lv_iconst (v := (nI 1)) hx hb dX2_isStrokeAt_18 (by decide) ?_
        refine lv_goto (tgt := 23) hx hb dX2_isStrokeAt_19 (by decide) ?_
        exact x_retz hC hr hlk (Or.inr rfl) hf dX2_isStrokeAt_23
def f_X2_areGaps_L13 (p0 : Int64) (p1 : Int32) (p3 : Int32) (s13 : Int32) : Option ((Int32) ⊕ (Int32)) :=
  if p3 < s13 then
    some (.inl (nI 1))
  else
  if p1 = nI 0 then none else
  (f_X6_isIn p0 (xrem s13 p1)).bind fun u5 =>
  if u5 = (nI 0) then
    some (.inr (s13 + (nI 1)))
  else
  some (.inl (nI 0))
def f_X2_areGaps (p0 : Int64) (p1 : Int32) (p2 : Int32) (p3 : Int32) : Option (Int32) :=
  if p1 ≤ (nI 0) then
    some (nI 0)
  else
  if (nI 0) ≤ p2 then
    xloop (f_X2_areGaps_L13 p0 p1 p3) xN p2
  else
  some (nI 0)
set_option maxHeartbeats 4000000 in
set_option maxRecDepth 100000 in
theorem c_X2_areGaps {l : Launch} {X : xG} {p0 : Int64} {p1 : Int32} {p2 : Int32} {p3 : Int32} {u : Int32} (hf : f_X2_areGaps p0 p1 p2 p3 = some u) : Met l yX2_areGaps (xw yX2_areGaps cX2_areGaps 6 (some .boolean)) (xrm 1 22) (xPc [.long p0, .int p1, .int p2, .int p3] X []) (xQ (u = 0 ∨ u = 1) (.returned (some (.int u)))) 0 0 xNo := by
  refine xMet (n := 4) md_X2_areGaps.1 (Nat.le_of_ble_eq_true rfl) ?_
  intro p e s m args below meth c ls A hC hr hlk hH hl
  have hl : lv_has ls 6 [(0, .long p0), (2, .int p1), (3, .int p2), (4, .int p3)] := hl
  have hx := hC.1
  have hb := hC.2.1
  have L13 : ∀ (n : Nat) (s13 : Int32), xloop (f_X2_areGaps_L13 p0 p1 p3) n s13 = some u → ∀ (ls : Array Slot), lv_has ls 6 [(0, .long p0), (2, .int p1), (4, .int p3), (5, .int s13)] → W p l e (xrm 1 22) s m args below meth c s.heap [] 0 0 (MQ below (xQ (u = 0 ∨ u = 1) (.returned (some (.int u)))) args s 0 0 xNo) (F0 m 13 ls []) := by
    intro  n
    induction n with
    | zero => intro s13 hf; exact xloop_0 hf
    | succ n ih13 =>
      intro s13 hf ls hl
      obtain ⟨o13, hf, ho13⟩ := xloop_s hf
      refine lv_iload hx hb dX2_areGaps_13 (lv_at hl 3 rfl) ?_
      refine lv_iload hx hb dX2_areGaps_15 (lv_at hl 2 rfl) ?_
      refine lv_icmp_gt (tgt := 39) hx hb dX2_areGaps_17 (by decide) (fun c3 => ?_) (fun c3 => ?_)
      · have hf := xt c3 hf
        refine lv_iconst (v := (nI 1)) hx hb dX2_areGaps_39 (by decide) ?_
        have hf := xo_ret hf ho13
        exact x_retz hC hr hlk (Or.inr rfl) hf dX2_areGaps_40
      · have hf := xe c3 hf
        refine lv_lload_n hx hb dX2_areGaps_20 rfl (lv_at hl 0 rfl) ?_
        refine lv_iload hx hb dX2_areGaps_21 (lv_at hl 3 rfl) ?_
        refine lv_iload_n hx hb dX2_areGaps_23 rfl (lv_at hl 1 rfl) ?_
        obtain ⟨n4, hf⟩ := xok hf
        refine x_irem hx hb dX2_areGaps_24 n4 ?_
        obtain ⟨u5, hf5, hf⟩ := xb hf
        refine x_ran (x_runSN (rest := []) (As := [.long p0, .int (xrem s13 p1)]) hC mn_RX2_68 md_X6_isIn (c_X6_isIn (X := X) hf5) hH [] rfl (by decide) hl.1 rfl rfl (Nat.le_of_ble_eq_true rfl) dX2_areGaps_25 ⟨Nat.le_of_ble_eq_true rfl, Nat.le_of_ble_eq_true rfl⟩ ⟨rfl, rfl⟩ ⟨Nat.le_refl _, Nat.le_refl _⟩) rfl (fun hz5 => ?_)
        refine lv_if_eq (tgt := 33) hx hb dX2_areGaps_28 (by decide) (fun c6 => ?_) (fun c6 => ?_)
        · have hf := xt c6 hf
          refine lv_iinc (v := s13 + (nI 1)) (lv' := [(5, .int (s13 + (nI 1))), (0, .long p0), (2, .int p1), (4, .int p3)]) hx hb dX2_areGaps_33 hl (k := 3) rfl rfl (by decide) rfl (fun ls hl => ?_)
          refine lv_goto (tgt := 13) hx hb dX2_areGaps_36 (by decide) ?_
          have hf := xo_go hf ho13
          exact ih13 (s13 + (nI 1)) hf ls (lv_sub hl [1, 2, 3, 0] rfl)
        · have hf := xe c6 hf
          refine lv_iconst (v := (nI 0)) hx hb dX2_areGaps_31 (by decide) ?_
          have hf := xo_ret hf ho13
          exact x_retz hC hr hlk (Or.inl rfl) hf dX2_areGaps_32
  refine lv_iload_n hx hb dX2_areGaps_0 rfl (lv_at hl 1 rfl) ?_
  refine lv_if_le (tgt := 8) hx hb dX2_areGaps_1 (by decide) (fun c1 => ?_) (fun c1 => ?_)
  · have hf := xt c1 hf
    refine lv_iconst (v := (nI 0)) hx hb dX2_areGaps_8 (by decide) ?_
    exact x_retz hC hr hlk (Or.inl rfl) hf dX2_areGaps_9
  · have hf := xe c1 hf
    refine lv_iload_n hx hb dX2_areGaps_4 rfl (lv_at hl 2 rfl) ?_
    refine lv_if_ge (tgt := 10) hx hb dX2_areGaps_5 (by decide) (fun c2 => ?_) (fun c2 => ?_)
    · have hf := xt c2 hf
      refine lv_iload_n hx hb dX2_areGaps_10 rfl (lv_at hl 2 rfl) ?_
      refine lv_istore (lv' := [(5, .int p2), (0, .long p0), (2, .int p1), (3, .int p2), (4, .int p3)]) hx hb dX2_areGaps_11 hl (by decide) rfl (fun ls hl => ?_)
      exact L13 xN p2 hf ls (lv_sub hl [1, 2, 4, 0] rfl)
    · have hf := xe c2 hf
      refine lv_iconst (v := (nI 0)) hx hb dX2_areGaps_8 (by decide) ?_
      exact x_retz hC hr hlk (Or.inl rfl) hf dX2_areGaps_9
def f_X2_isGapAt (p0 : Int64) (p1 : Int32) (p2 : Int32) : Option (Int32) :=
  if p1 ≤ (nI 0) then
    some (nI 0)
  else
  if p2 < (nI 0) then
    some (nI 0)
  else
  if p1 = nI 0 then none else
  (f_X6_isIn p0 (xrem p2 p1)).bind fun u4 =>
  if u4 = (nI 0) then
    some (nI 1)
  else
  some (nI 0)
set_option maxHeartbeats 4000000 in
set_option maxRecDepth 100000 in
theorem c_X2_isGapAt {l : Launch} {X : xG} {p0 : Int64} {p1 : Int32} {p2 : Int32} {u : Int32} (hf : f_X2_isGapAt p0 p1 p2 = some u) : Met l yX2_isGapAt (xw yX2_isGapAt cX2_isGapAt 4 (some .boolean)) (xrm 1 22) (xPc [.long p0, .int p1, .int p2] X []) (xQ (u = 0 ∨ u = 1) (.returned (some (.int u)))) 0 0 xNo := by
  refine xMet (n := 3) md_X2_isGapAt.1 (Nat.le_of_ble_eq_true rfl) ?_
  intro p e s m args below meth c ls A hC hr hlk hH hl
  have hl : lv_has ls 4 [(0, .long p0), (2, .int p1), (3, .int p2)] := hl
  have hx := hC.1
  have hb := hC.2.1
  refine lv_iload_n hx hb dX2_isGapAt_0 rfl (lv_at hl 1 rfl) ?_
  refine lv_if_le (tgt := 22) hx hb dX2_isGapAt_1 (by decide) (fun c1 => ?_) (fun c1 => ?_)
  · have hf := xt c1 hf
    refine lv_iconst (v := (nI 0)) hx hb dX2_isGapAt_22 (by decide) ?_
    exact x_retz hC hr hlk (Or.inl rfl) hf dX2_isGapAt_23
  · have hf := xe c1 hf
    refine lv_iload_n hx hb dX2_isGapAt_4 rfl (lv_at hl 2 rfl) ?_
    refine lv_if_lt (tgt := 22) hx hb dX2_isGapAt_5 (by decide) (fun c2 => ?_) (fun c2 => ?_)
    · have hf := xt c2 hf
      refine lv_iconst (v := (nI 0)) hx hb dX2_isGapAt_22 (by decide) ?_
      exact x_retz hC hr hlk (Or.inl rfl) hf dX2_isGapAt_23
    · have hf := xe c2 hf
      refine lv_lload_n hx hb dX2_isGapAt_8 rfl (lv_at hl 0 rfl) ?_
      refine lv_iload_n hx hb dX2_isGapAt_9 rfl (lv_at hl 2 rfl) ?_
      refine lv_iload_n hx hb dX2_isGapAt_10 rfl (lv_at hl 1 rfl) ?_
      obtain ⟨n3, hf⟩ := xok hf
      refine x_irem hx hb dX2_isGapAt_11 n3 ?_
      obtain ⟨u4, hf4, hf⟩ := xb hf
      refine x_ran (x_runSN (rest := []) (As := [.long p0, .int (xrem p2 p1)]) hC mn_RX2_68 md_X6_isIn (c_X6_isIn (X := X) hf4) hH [] rfl (by decide) hl.1 rfl rfl (Nat.le_of_ble_eq_true rfl) dX2_isGapAt_12 ⟨Nat.le_of_ble_eq_true rfl, Nat.le_of_ble_eq_true rfl⟩ ⟨rfl, rfl⟩ ⟨Nat.le_refl _, Nat.le_refl _⟩) rfl (fun hz4 => ?_)
      refine lv_if_ne (tgt := 22) hx hb dX2_isGapAt_15 (by decide) (fun c5 => ?_) (fun c5 => ?_)
      · have hf := xe c5 hf
        refine lv_iconst (v := (nI 0)) hx hb dX2_isGapAt_22 (by decide) ?_
        exact x_retz hC hr hlk (Or.inl rfl) hf dX2_isGapAt_23
      · have hf := xt c5 hf
        refine lv_iconst (v := (nI 1)) hx hb dX2_isGapAt_18 (by decide) ?_
        refine lv_goto (tgt := 23) hx hb dX2_isGapAt_19 (by decide) ?_
        exact x_retz hC hr hlk (Or.inr rfl) hf dX2_isGapAt_23
def f_J13_bitCount_95d88 (p0 : Int64) : Option (Int32) :=
  some ((Int64.toInt32 ((((((((p0 - ((xlushr p0 (nI 1)) &&& (lN 6148914691236517205))) &&& (lN 3689348814741910323)) + ((xlushr (p0 - ((xlushr p0 (nI 1)) &&& (lN 6148914691236517205))) (nI 2)) &&& (lN 3689348814741910323))) + (xlushr (((p0 - ((xlushr p0 (nI 1)) &&& (lN 6148914691236517205))) &&& (lN 3689348814741910323)) + ((xlushr (p0 - ((xlushr p0 (nI 1)) &&& (lN 6148914691236517205))) (nI 2)) &&& (lN 3689348814741910323))) (nI 4))) &&& (lN 1085102592571150095)) + (xlushr (((((p0 - ((xlushr p0 (nI 1)) &&& (lN 6148914691236517205))) &&& (lN 3689348814741910323)) + ((xlushr (p0 - ((xlushr p0 (nI 1)) &&& (lN 6148914691236517205))) (nI 2)) &&& (lN 3689348814741910323))) + (xlushr (((p0 - ((xlushr p0 (nI 1)) &&& (lN 6148914691236517205))) &&& (lN 3689348814741910323)) + ((xlushr (p0 - ((xlushr p0 (nI 1)) &&& (lN 6148914691236517205))) (nI 2)) &&& (lN 3689348814741910323))) (nI 4))) &&& (lN 1085102592571150095)) (nI 8))) + (xlushr ((((((p0 - ((xlushr p0 (nI 1)) &&& (lN 6148914691236517205))) &&& (lN 3689348814741910323)) + ((xlushr (p0 - ((xlushr p0 (nI 1)) &&& (lN 6148914691236517205))) (nI 2)) &&& (lN 3689348814741910323))) + (xlushr (((p0 - ((xlushr p0 (nI 1)) &&& (lN 6148914691236517205))) &&& (lN 3689348814741910323)) + ((xlushr (p0 - ((xlushr p0 (nI 1)) &&& (lN 6148914691236517205))) (nI 2)) &&& (lN 3689348814741910323))) (nI 4))) &&& (lN 1085102592571150095)) + (xlushr (((((p0 - ((xlushr p0 (nI 1)) &&& (lN 6148914691236517205))) &&& (lN 3689348814741910323)) + ((xlushr (p0 - ((xlushr p0 (nI 1)) &&& (lN 6148914691236517205))) (nI 2)) &&& (lN 3689348814741910323))) + (xlushr (((p0 - ((xlushr p0 (nI 1)) &&& (lN 6148914691236517205))) &&& (lN 3689348814741910323)) + ((xlushr (p0 - ((xlushr p0 (nI 1)) &&& (lN 6148914691236517205))) (nI 2)) &&& (lN 3689348814741910323))) (nI 4))) &&& (lN 1085102592571150095)) (nI 8))) (nI 16))) + (xlushr (((((((p0 - ((xlushr p0 (nI 1)) &&& (lN 6148914691236517205))) &&& (lN 3689348814741910323)) + ((xlushr (p0 - ((xlushr p0 (nI 1)) &&& (lN 6148914691236517205))) (nI 2)) &&& (lN 3689348814741910323))) + (xlushr (((p0 - ((xlushr p0 (nI 1)) &&& (lN 6148914691236517205))) &&& (lN 3689348814741910323)) + ((xlushr (p0 - ((xlushr p0 (nI 1)) &&& (lN 6148914691236517205))) (nI 2)) &&& (lN 3689348814741910323))) (nI 4))) &&& (lN 1085102592571150095)) + (xlushr (((((p0 - ((xlushr p0 (nI 1)) &&& (lN 6148914691236517205))) &&& (lN 3689348814741910323)) + ((xlushr (p0 - ((xlushr p0 (nI 1)) &&& (lN 6148914691236517205))) (nI 2)) &&& (lN 3689348814741910323))) + (xlushr (((p0 - ((xlushr p0 (nI 1)) &&& (lN 6148914691236517205))) &&& (lN 3689348814741910323)) + ((xlushr (p0 - ((xlushr p0 (nI 1)) &&& (lN 6148914691236517205))) (nI 2)) &&& (lN 3689348814741910323))) (nI 4))) &&& (lN 1085102592571150095)) (nI 8))) + (xlushr ((((((p0 - ((xlushr p0 (nI 1)) &&& (lN 6148914691236517205))) &&& (lN 3689348814741910323)) + ((xlushr (p0 - ((xlushr p0 (nI 1)) &&& (lN 6148914691236517205))) (nI 2)) &&& (lN 3689348814741910323))) + (xlushr (((p0 - ((xlushr p0 (nI 1)) &&& (lN 6148914691236517205))) &&& (lN 3689348814741910323)) + ((xlushr (p0 - ((xlushr p0 (nI 1)) &&& (lN 6148914691236517205))) (nI 2)) &&& (lN 3689348814741910323))) (nI 4))) &&& (lN 1085102592571150095)) + (xlushr (((((p0 - ((xlushr p0 (nI 1)) &&& (lN 6148914691236517205))) &&& (lN 3689348814741910323)) + ((xlushr (p0 - ((xlushr p0 (nI 1)) &&& (lN 6148914691236517205))) (nI 2)) &&& (lN 3689348814741910323))) + (xlushr (((p0 - ((xlushr p0 (nI 1)) &&& (lN 6148914691236517205))) &&& (lN 3689348814741910323)) + ((xlushr (p0 - ((xlushr p0 (nI 1)) &&& (lN 6148914691236517205))) (nI 2)) &&& (lN 3689348814741910323))) (nI 4))) &&& (lN 1085102592571150095)) (nI 8))) (nI 16))) (nI 32)))) &&& (nI 127))
set_option maxHeartbeats 4000000 in
set_option maxRecDepth 100000 in
theorem c_J13_bitCount_95d88 {l : Launch} {X : xG} {p0 : Int64} {u : Int32} (hf : f_J13_bitCount_95d88 p0 = some u) : Met l yJ13_bitCount_95d88 (xw yJ13_bitCount_95d88 cJ13_bitCount_95d88 2 (some .int)) (xrm 0 0) (xPc [.long p0] X []) (xQ True (.returned (some (.int u)))) 0 0 xNo := by
  refine xMet (n := 1) md_J13_bitCount_95d88.1 (Nat.le_of_ble_eq_true rfl) ?_
  intro p e s m args below meth c ls A hC hr hlk hH hl
  have hl : lv_has ls 2 [(0, .long p0)] := hl
  have hx := hC.1
  have hb := hC.2.1
  refine lv_lload_n hx hb dJ13_bitCount_95d88_0 rfl (lv_at hl 0 rfl) ?_
  refine lv_lload_n hx hb dJ13_bitCount_95d88_1 rfl (lv_at hl 0 rfl) ?_
  refine lv_iconst (v := (nI 1)) hx hb dJ13_bitCount_95d88_2 (by decide) ?_
  refine x_lushr hx hb dJ13_bitCount_95d88_3 ?_
  refine lv_ldc2 (v := (lN 6148914691236517205)) hx hb hC.2.2.2.1 (hC.2.2.2.2.1 _ mw_308) dJ13_bitCount_95d88_4 ?_
  refine lv_land hx hb dJ13_bitCount_95d88_7 ?_
  refine lv_lsub hx hb dJ13_bitCount_95d88_8 ?_
  refine lv_lstore_n (lv' := [(0, .long (p0 - ((xlushr p0 (nI 1)) &&& (lN 6148914691236517205))))]) hx hb dJ13_bitCount_95d88_9 rfl hl (by decide) rfl (fun ls hl => ?_)
  refine lv_lload_n hx hb dJ13_bitCount_95d88_10 rfl (lv_at hl 0 rfl) ?_
  refine lv_ldc2 (v := (lN 3689348814741910323)) hx hb hC.2.2.2.1 (hC.2.2.2.2.1 _ mw_309) dJ13_bitCount_95d88_11 ?_
  refine lv_land hx hb dJ13_bitCount_95d88_14 ?_
  refine lv_lload_n hx hb dJ13_bitCount_95d88_15 rfl (lv_at hl 0 rfl) ?_
  refine lv_iconst (v := (nI 2)) hx hb dJ13_bitCount_95d88_16 (by decide) ?_
  refine x_lushr hx hb dJ13_bitCount_95d88_17 ?_
  refine lv_ldc2 (v := (lN 3689348814741910323)) hx hb hC.2.2.2.1 (hC.2.2.2.2.1 _ mw_309) dJ13_bitCount_95d88_18 ?_
  refine lv_land hx hb dJ13_bitCount_95d88_21 ?_
  refine lv_ladd hx hb dJ13_bitCount_95d88_22 ?_
  refine lv_lstore_n (lv' := [(0, .long (((p0 - ((xlushr p0 (nI 1)) &&& (lN 6148914691236517205))) &&& (lN 3689348814741910323)) + ((xlushr (p0 - ((xlushr p0 (nI 1)) &&& (lN 6148914691236517205))) (nI 2)) &&& (lN 3689348814741910323))))]) hx hb dJ13_bitCount_95d88_23 rfl hl (by decide) rfl (fun ls hl => ?_)
  refine lv_lload_n hx hb dJ13_bitCount_95d88_24 rfl (lv_at hl 0 rfl) ?_
  refine lv_lload_n hx hb dJ13_bitCount_95d88_25 rfl (lv_at hl 0 rfl) ?_
  refine lv_iconst (v := (nI 4)) hx hb dJ13_bitCount_95d88_26 (by decide) ?_
  refine x_lushr hx hb dJ13_bitCount_95d88_27 ?_
  refine lv_ladd hx hb dJ13_bitCount_95d88_28 ?_
  refine lv_ldc2 (v := (lN 1085102592571150095)) hx hb hC.2.2.2.1 (hC.2.2.2.2.1 _ mw_310) dJ13_bitCount_95d88_29 ?_
  refine lv_land hx hb dJ13_bitCount_95d88_32 ?_
  refine lv_lstore_n (lv' := [(0, .long (((((p0 - ((xlushr p0 (nI 1)) &&& (lN 6148914691236517205))) &&& (lN 3689348814741910323)) + ((xlushr (p0 - ((xlushr p0 (nI 1)) &&& (lN 6148914691236517205))) (nI 2)) &&& (lN 3689348814741910323))) + (xlushr (((p0 - ((xlushr p0 (nI 1)) &&& (lN 6148914691236517205))) &&& (lN 3689348814741910323)) + ((xlushr (p0 - ((xlushr p0 (nI 1)) &&& (lN 6148914691236517205))) (nI 2)) &&& (lN 3689348814741910323))) (nI 4))) &&& (lN 1085102592571150095)))]) hx hb dJ13_bitCount_95d88_33 rfl hl (by decide) rfl (fun ls hl => ?_)
  refine lv_lload_n hx hb dJ13_bitCount_95d88_34 rfl (lv_at hl 0 rfl) ?_
  refine lv_lload_n hx hb dJ13_bitCount_95d88_35 rfl (lv_at hl 0 rfl) ?_
  refine lv_bipush (v := (nI 8)) hx hb dJ13_bitCount_95d88_36 (by decide) ?_
  refine x_lushr hx hb dJ13_bitCount_95d88_38 ?_
  refine lv_ladd hx hb dJ13_bitCount_95d88_39 ?_
  refine lv_lstore_n (lv' := [(0, .long ((((((p0 - ((xlushr p0 (nI 1)) &&& (lN 6148914691236517205))) &&& (lN 3689348814741910323)) + ((xlushr (p0 - ((xlushr p0 (nI 1)) &&& (lN 6148914691236517205))) (nI 2)) &&& (lN 3689348814741910323))) + (xlushr (((p0 - ((xlushr p0 (nI 1)) &&& (lN 6148914691236517205))) &&& (lN 3689348814741910323)) + ((xlushr (p0 - ((xlushr p0 (nI 1)) &&& (lN 6148914691236517205))) (nI 2)) &&& (lN 3689348814741910323))) (nI 4))) &&& (lN 1085102592571150095)) + (xlushr (((((p0 - ((xlushr p0 (nI 1)) &&& (lN 6148914691236517205))) &&& (lN 3689348814741910323)) + ((xlushr (p0 - ((xlushr p0 (nI 1)) &&& (lN 6148914691236517205))) (nI 2)) &&& (lN 3689348814741910323))) + (xlushr (((p0 - ((xlushr p0 (nI 1)) &&& (lN 6148914691236517205))) &&& (lN 3689348814741910323)) + ((xlushr (p0 - ((xlushr p0 (nI 1)) &&& (lN 6148914691236517205))) (nI 2)) &&& (lN 3689348814741910323))) (nI 4))) &&& (lN 1085102592571150095)) (nI 8))))]) hx hb dJ13_bitCount_95d88_40 rfl hl (by decide) rfl (fun ls hl => ?_)
  refine lv_lload_n hx hb dJ13_bitCount_95d88_41 rfl (lv_at hl 0 rfl) ?_
  refine lv_lload_n hx hb dJ13_bitCount_95d88_42 rfl (lv_at hl 0 rfl) ?_
  refine lv_bipush (v := (nI 16)) hx hb dJ13_bitCount_95d88_43 (by decide) ?_
  refine x_lushr hx hb dJ13_bitCount_95d88_45 ?_
  refine lv_ladd hx hb dJ13_bitCount_95d88_46 ?_
  refine lv_lstore_n (lv' := [(0, .long (((((((p0 - ((xlushr p0 (nI 1)) &&& (lN 6148914691236517205))) &&& (lN 3689348814741910323)) + ((xlushr (p0 - ((xlushr p0 (nI 1)) &&& (lN 6148914691236517205))) (nI 2)) &&& (lN 3689348814741910323))) + (xlushr (((p0 - ((xlushr p0 (nI 1)) &&& (lN 6148914691236517205))) &&& (lN 3689348814741910323)) + ((xlushr (p0 - ((xlushr p0 (nI 1)) &&& (lN 6148914691236517205))) (nI 2)) &&& (lN 3689348814741910323))) (nI 4))) &&& (lN 1085102592571150095)) + (xlushr (((((p0 - ((xlushr p0 (nI 1)) &&& (lN 6148914691236517205))) &&& (lN 3689348814741910323)) + ((xlushr (p0 - ((xlushr p0 (nI 1)) &&& (lN 6148914691236517205))) (nI 2)) &&& (lN 3689348814741910323))) + (xlushr (((p0 - ((xlushr p0 (nI 1)) &&& (lN 6148914691236517205))) &&& (lN 3689348814741910323)) + ((xlushr (p0 - ((xlushr p0 (nI 1)) &&& (lN 6148914691236517205))) (nI 2)) &&& (lN 3689348814741910323))) (nI 4))) &&& (lN 1085102592571150095)) (nI 8))) + (xlushr ((((((p0 - ((xlushr p0 (nI 1)) &&& (lN 6148914691236517205))) &&& (lN 3689348814741910323)) + ((xlushr (p0 - ((xlushr p0 (nI 1)) &&& (lN 6148914691236517205))) (nI 2)) &&& (lN 3689348814741910323))) + (xlushr (((p0 - ((xlushr p0 (nI 1)) &&& (lN 6148914691236517205))) &&& (lN 3689348814741910323)) + ((xlushr (p0 - ((xlushr p0 (nI 1)) &&& (lN 6148914691236517205))) (nI 2)) &&& (lN 3689348814741910323))) (nI 4))) &&& (lN 1085102592571150095)) + (xlushr (((((p0 - ((xlushr p0 (nI 1)) &&& (lN 6148914691236517205))) &&& (lN 3689348814741910323)) + ((xlushr (p0 - ((xlushr p0 (nI 1)) &&& (lN 6148914691236517205))) (nI 2)) &&& (lN 3689348814741910323))) + (xlushr (((p0 - ((xlushr p0 (nI 1)) &&& (lN 6148914691236517205))) &&& (lN 3689348814741910323)) + ((xlushr (p0 - ((xlushr p0 (nI 1)) &&& (lN 6148914691236517205))) (nI 2)) &&& (lN 3689348814741910323))) (nI 4))) &&& (lN 1085102592571150095)) (nI 8))) (nI 16))))]) hx hb dJ13_bitCount_95d88_47 rfl hl (by decide) rfl (fun ls hl => ?_)
  refine lv_lload_n hx hb dJ13_bitCount_95d88_48 rfl (lv_at hl 0 rfl) ?_
  refine lv_lload_n hx hb dJ13_bitCount_95d88_49 rfl (lv_at hl 0 rfl) ?_
  refine lv_bipush (v := (nI 32)) hx hb dJ13_bitCount_95d88_50 (by decide) ?_
  refine x_lushr hx hb dJ13_bitCount_95d88_52 ?_
  refine lv_ladd hx hb dJ13_bitCount_95d88_53 ?_
  refine lv_lstore_n (lv' := [(0, .long ((((((((p0 - ((xlushr p0 (nI 1)) &&& (lN 6148914691236517205))) &&& (lN 3689348814741910323)) + ((xlushr (p0 - ((xlushr p0 (nI 1)) &&& (lN 6148914691236517205))) (nI 2)) &&& (lN 3689348814741910323))) + (xlushr (((p0 - ((xlushr p0 (nI 1)) &&& (lN 6148914691236517205))) &&& (lN 3689348814741910323)) + ((xlushr (p0 - ((xlushr p0 (nI 1)) &&& (lN 6148914691236517205))) (nI 2)) &&& (lN 3689348814741910323))) (nI 4))) &&& (lN 1085102592571150095)) + (xlushr (((((p0 - ((xlushr p0 (nI 1)) &&& (lN 6148914691236517205))) &&& (lN 3689348814741910323)) + ((xlushr (p0 - ((xlushr p0 (nI 1)) &&& (lN 6148914691236517205))) (nI 2)) &&& (lN 3689348814741910323))) + (xlushr (((p0 - ((xlushr p0 (nI 1)) &&& (lN 6148914691236517205))) &&& (lN 3689348814741910323)) + ((xlushr (p0 - ((xlushr p0 (nI 1)) &&& (lN 6148914691236517205))) (nI 2)) &&& (lN 3689348814741910323))) (nI 4))) &&& (lN 1085102592571150095)) (nI 8))) + (xlushr ((((((p0 - ((xlushr p0 (nI 1)) &&& (lN 6148914691236517205))) &&& (lN 3689348814741910323)) + ((xlushr (p0 - ((xlushr p0 (nI 1)) &&& (lN 6148914691236517205))) (nI 2)) &&& (lN 3689348814741910323))) + (xlushr (((p0 - ((xlushr p0 (nI 1)) &&& (lN 6148914691236517205))) &&& (lN 3689348814741910323)) + ((xlushr (p0 - ((xlushr p0 (nI 1)) &&& (lN 6148914691236517205))) (nI 2)) &&& (lN 3689348814741910323))) (nI 4))) &&& (lN 1085102592571150095)) + (xlushr (((((p0 - ((xlushr p0 (nI 1)) &&& (lN 6148914691236517205))) &&& (lN 3689348814741910323)) + ((xlushr (p0 - ((xlushr p0 (nI 1)) &&& (lN 6148914691236517205))) (nI 2)) &&& (lN 3689348814741910323))) + (xlushr (((p0 - ((xlushr p0 (nI 1)) &&& (lN 6148914691236517205))) &&& (lN 3689348814741910323)) + ((xlushr (p0 - ((xlushr p0 (nI 1)) &&& (lN 6148914691236517205))) (nI 2)) &&& (lN 3689348814741910323))) (nI 4))) &&& (lN 1085102592571150095)) (nI 8))) (nI 16))) + (xlushr (((((((p0 - ((xlushr p0 (nI 1)) &&& (lN 6148914691236517205))) &&& (lN 3689348814741910323)) + ((xlushr (p0 - ((xlushr p0 (nI 1)) &&& (lN 6148914691236517205))) (nI 2)) &&& (lN 3689348814741910323))) + (xlushr (((p0 - ((xlushr p0 (nI 1)) &&& (lN 6148914691236517205))) &&& (lN 3689348814741910323)) + ((xlushr (p0 - ((xlushr p0 (nI 1)) &&& (lN 6148914691236517205))) (nI 2)) &&& (lN 3689348814741910323))) (nI 4))) &&& (lN 1085102592571150095)) + (xlushr (((((p0 - ((xlushr p0 (nI 1)) &&& (lN 6148914691236517205))) &&& (lN 3689348814741910323)) + ((xlushr (p0 - ((xlushr p0 (nI 1)) &&& (lN 6148914691236517205))) (nI 2)) &&& (lN 3689348814741910323))) + (xlushr (((p0 - ((xlushr p0 (nI 1)) &&& (lN 6148914691236517205))) &&& (lN 3689348814741910323)) + ((xlushr (p0 - ((xlushr p0 (nI 1)) &&& (lN 6148914691236517205))) (nI 2)) &&& (lN 3689348814741910323))) (nI 4))) &&& (lN 1085102592571150095)) (nI 8))) + (xlushr ((((((p0 - ((xlushr p0 (nI 1)) &&& (lN 6148914691236517205))) &&& (lN 3689348814741910323)) + ((xlushr (p0 - ((xlushr p0 (nI 1)) &&& (lN 6148914691236517205))) (nI 2)) &&& (lN 3689348814741910323))) + (xlushr (((p0 - ((xlushr p0 (nI 1)) &&& (lN 6148914691236517205))) &&& (lN 3689348814741910323)) + ((xlushr (p0 - ((xlushr p0 (nI 1)) &&& (lN 6148914691236517205))) (nI 2)) &&& (lN 3689348814741910323))) (nI 4))) &&& (lN 1085102592571150095)) + (xlushr (((((p0 - ((xlushr p0 (nI 1)) &&& (lN 6148914691236517205))) &&& (lN 3689348814741910323)) + ((xlushr (p0 - ((xlushr p0 (nI 1)) &&& (lN 6148914691236517205))) (nI 2)) &&& (lN 3689348814741910323))) + (xlushr (((p0 - ((xlushr p0 (nI 1)) &&& (lN 6148914691236517205))) &&& (lN 3689348814741910323)) + ((xlushr (p0 - ((xlushr p0 (nI 1)) &&& (lN 6148914691236517205))) (nI 2)) &&& (lN 3689348814741910323))) (nI 4))) &&& (lN 1085102592571150095)) (nI 8))) (nI 16))) (nI 32))))]) hx hb dJ13_bitCount_95d88_54 rfl hl (by decide) rfl (fun ls hl => ?_)
  refine lv_lload_n hx hb dJ13_bitCount_95d88_55 rfl (lv_at hl 0 rfl) ?_
  refine lv_l2i hx hb dJ13_bitCount_95d88_56 rfl ?_
  refine lv_bipush (v := (nI 127)) hx hb dJ13_bitCount_95d88_57 (by decide) ?_
  refine lv_iand hx hb dJ13_bitCount_95d88_59 ?_
  exact x_reti hC hr hlk trivial hf dJ13_bitCount_95d88_60
def f_X6_firstBits (p0 : Int32) : Option (Int64) :=
  some ((xlshl (lN 1) p0) - (lN 1))
set_option maxHeartbeats 4000000 in
set_option maxRecDepth 100000 in
theorem c_X6_firstBits {l : Launch} {X : xG} {p0 : Int32} {u : Int64} (hf : f_X6_firstBits p0 = some u) : Met l yX6_firstBits (xw yX6_firstBits cX6_firstBits 1 (some .long)) (xrm 0 0) (xPc [.int p0] X []) (xQ True (.returned (some (.long u)))) 0 0 xNo := by
  refine xMet (n := 1) md_X6_firstBits.1 (Nat.le_of_ble_eq_true rfl) ?_
  intro p e s m args below meth c ls A hC hr hlk hH hl
  have hl : lv_has ls 1 [(0, .int p0)] := hl
  have hx := hC.1
  have hb := hC.2.1
  refine lv_lconst (v := (lN 1)) hx hb dX6_firstBits_0 (by decide) ?_
  refine lv_iload_n hx hb dX6_firstBits_1 rfl (lv_at hl 0 rfl) ?_
  refine x_lshl hx hb dX6_firstBits_2 ?_
  refine lv_lconst (v := (lN 1)) hx hb dX6_firstBits_3 (by decide) ?_
  refine lv_lsub hx hb dX6_firstBits_4 ?_
  exact x_retl hC hr hlk trivial hf dX6_firstBits_5
def f_X2_strokesAhead (p0 : Int64) (p1 : Int32) (p2 : Int32) : Option (Int32) :=
  if p1 ≤ (nI 0) then
    some (nI 0)
  else
  if (nI 0) ≤ p2 then
    if p1 = nI 0 then none else
    (f_J13_bitCount_95d88 p0).bind fun u4 =>
    if p1 = nI 0 then none else
    (f_X6_firstBits (xrem p2 p1)).bind fun u6 =>
    (f_J13_bitCount_95d88 (p0 &&& u6)).bind fun u7 =>
    some (((p2 / p1) * u4) + u7)
  else
  some (nI 0)
set_option maxHeartbeats 4000000 in
set_option maxRecDepth 100000 in
theorem c_X2_strokesAhead {l : Launch} {X : xG} {p0 : Int64} {p1 : Int32} {p2 : Int32} {u : Int32} (hf : f_X2_strokesAhead p0 p1 p2 = some u) : Met l yX2_strokesAhead (xw yX2_strokesAhead cX2_strokesAhead 4 (some .int)) (xrm 1 21) (xPc [.long p0, .int p1, .int p2] X []) (xQ True (.returned (some (.int u)))) 0 0 xNo := by
  refine xMet (n := 3) md_X2_strokesAhead.1 (Nat.le_of_ble_eq_true rfl) ?_
  intro p e s m args below meth c ls A hC hr hlk hH hl
  have hl : lv_has ls 4 [(0, .long p0), (2, .int p1), (3, .int p2)] := hl
  have hx := hC.1
  have hb := hC.2.1
  refine lv_iload_n hx hb dX2_strokesAhead_0 rfl (lv_at hl 1 rfl) ?_
  refine lv_if_le (tgt := 8) hx hb dX2_strokesAhead_1 (by decide) (fun c1 => ?_) (fun c1 => ?_)
  · have hf := xt c1 hf
    refine lv_iconst (v := (nI 0)) hx hb dX2_strokesAhead_8 (by decide) ?_
    exact x_reti hC hr hlk trivial hf dX2_strokesAhead_9
  · have hf := xe c1 hf
    refine lv_iload_n hx hb dX2_strokesAhead_4 rfl (lv_at hl 2 rfl) ?_
    refine lv_if_ge (tgt := 10) hx hb dX2_strokesAhead_5 (by decide) (fun c2 => ?_) (fun c2 => ?_)
    · have hf := xt c2 hf
      refine lv_iload_n hx hb dX2_strokesAhead_10 rfl (lv_at hl 2 rfl) ?_
      refine lv_iload_n hx hb dX2_strokesAhead_11 rfl (lv_at hl 1 rfl) ?_
      obtain ⟨n3, hf⟩ := xok hf
      refine lv_idiv hx hb dX2_strokesAhead_12 n3 ?_
      refine lv_lload_n hx hb dX2_strokesAhead_13 rfl (lv_at hl 0 rfl) ?_
      obtain ⟨u4, hf4, hf⟩ := xb hf
      refine x_ran (x_runS (rest := [.int (p2 / p1)]) (As := [.long p0]) hC mw_304 md_J13_bitCount_95d88 (c_J13_bitCount_95d88 (X := X) hf4) hH [] rfl (by decide) hl.1 rfl rfl (Nat.le_of_ble_eq_true rfl) dX2_strokesAhead_14 ⟨Nat.le_of_ble_eq_true rfl, Nat.le_of_ble_eq_true rfl⟩ ⟨rfl, rfl⟩ ⟨Nat.le_refl _, Nat.le_refl _⟩) rfl (fun hz4 => ?_)
      refine lv_imul hx hb dX2_strokesAhead_17 ?_
      refine lv_lload_n hx hb dX2_strokesAhead_18 rfl (lv_at hl 0 rfl) ?_
      refine lv_iload_n hx hb dX2_strokesAhead_19 rfl (lv_at hl 2 rfl) ?_
      refine lv_iload_n hx hb dX2_strokesAhead_20 rfl (lv_at hl 1 rfl) ?_
      obtain ⟨n5, hf⟩ := xok hf
      refine x_irem hx hb dX2_strokesAhead_21 n5 ?_
      obtain ⟨u6, hf6, hf⟩ := xb hf
      refine x_ran (x_runSN (rest := [.long p0, .int ((p2 / p1) * u4)]) (As := [.int (xrem p2 p1)]) hC mn_RX2_78 md_X6_firstBits (c_X6_firstBits (X := X) hf6) hH [] rfl (by decide) hl.1 rfl rfl (Nat.le_of_ble_eq_true rfl) dX2_strokesAhead_22 ⟨Nat.le_of_ble_eq_true rfl, Nat.le_of_ble_eq_true rfl⟩ ⟨rfl, rfl⟩ ⟨Nat.le_refl _, Nat.le_refl _⟩) rfl (fun hz6 => ?_)
      refine lv_land hx hb dX2_strokesAhead_25 ?_
      obtain ⟨u7, hf7, hf⟩ := xb hf
      refine x_ran (x_runS (rest := [.int ((p2 / p1) * u4)]) (As := [.long (p0 &&& u6)]) hC mw_304 md_J13_bitCount_95d88 (c_J13_bitCount_95d88 (X := X) hf7) hH [] rfl (by decide) hl.1 rfl rfl (Nat.le_of_ble_eq_true rfl) dX2_strokesAhead_26 ⟨Nat.le_of_ble_eq_true rfl, Nat.le_of_ble_eq_true rfl⟩ ⟨rfl, rfl⟩ ⟨Nat.le_refl _, Nat.le_refl _⟩) rfl (fun hz7 => ?_)
      refine lv_iadd hx hb dX2_strokesAhead_29 ?_
      exact x_reti hC hr hlk trivial hf dX2_strokesAhead_30
    · have hf := xe c2 hf
      refine lv_iconst (v := (nI 0)) hx hb dX2_strokesAhead_8 (by decide) ?_
      exact x_reti hC hr hlk trivial hf dX2_strokesAhead_9
def f_X6_isMultiple (p0 : Int32) (p1 : Int32) : Option (Int32) :=
  if p1 ≤ (nI 0) then
    some (nI 0)
  else
  if p1 = nI 0 then none else
  if (xrem p0 p1) = (nI 0) then
    some (nI 1)
  else
  some (nI 0)
set_option maxHeartbeats 4000000 in
set_option maxRecDepth 100000 in
theorem c_X6_isMultiple {l : Launch} {X : xG} {p0 : Int32} {p1 : Int32} {u : Int32} (hf : f_X6_isMultiple p0 p1 = some u) : Met l yX6_isMultiple (xw yX6_isMultiple cX6_isMultiple 2 (some .boolean)) (xrm 0 0) (xPc [.int p0, .int p1] X []) (xQ (u = 0 ∨ u = 1) (.returned (some (.int u)))) 0 0 xNo := by
  refine xMet (n := 2) md_X6_isMultiple.1 (Nat.le_of_ble_eq_true rfl) ?_
  intro p e s m args below meth c ls A hC hr hlk hH hl
  have hl : lv_has ls 2 [(0, .int p0), (1, .int p1)] := hl
  have hx := hC.1
  have hb := hC.2.1
  refine lv_iload_n hx hb dX6_isMultiple_0 rfl (lv_at hl 1 rfl) ?_
  refine lv_if_le (tgt := 14) hx hb dX6_isMultiple_1 (by decide) (fun c1 => ?_) (fun c1 => ?_)
  · have hf := xt c1 hf
    refine lv_iconst (v := (nI 0)) hx hb dX6_isMultiple_14 (by decide) ?_
    exact x_retz hC hr hlk (Or.inl rfl) hf dX6_isMultiple_15
  · have hf := xe c1 hf
    refine lv_iload_n hx hb dX6_isMultiple_4 rfl (lv_at hl 0 rfl) ?_
    refine lv_iload_n hx hb dX6_isMultiple_5 rfl (lv_at hl 1 rfl) ?_
    obtain ⟨n2, hf⟩ := xok hf
    refine x_irem hx hb dX6_isMultiple_6 n2 ?_
    refine lv_if_ne (tgt := 14) hx hb dX6_isMultiple_7 (by decide) (fun c3 => ?_) (fun c3 => ?_)
    · have hf := xe c3 hf
      refine lv_iconst (v := (nI 0)) hx hb dX6_isMultiple_14 (by decide) ?_
      exact x_retz hC hr hlk (Or.inl rfl) hf dX6_isMultiple_15
    · have hf := xt c3 hf
      refine lv_iconst (v := (nI 1)) hx hb dX6_isMultiple_10 (by decide) ?_
      refine lv_goto (tgt := 15) hx hb dX6_isMultiple_11 (by decide) ?_
      exact x_retz hC hr hlk (Or.inr rfl) hf dX6_isMultiple_15
def f_X2_strikesAt (v_count : Int32) (v_kinds : (Nat → Int32)) (v_tunes : (Nat → Int32)) (p1 : Int32) (p2 : Int64) (p3 : Int32) (p4 : Int32) : Option (Int32) :=
  (f_X2_isThere v_count p1).bind fun u1 =>
  if u1 = (nI 0) then
    some (nI 0)
  else
  (f_X2_kindOf v_kinds p1).bind fun u3 =>
  (f_X2_tuneOf v_tunes p1).bind fun u4 =>
  if u3 = (nI 1) then
    (f_X2_stepsLookedAhead u3 u4).bind fun u6 =>
    (f_X2_isStrokeAt p2 p3 (p4 - u6)).bind fun u7 =>
    some u7
  else
  if u3 = (nI 2) then
    (f_X2_areGaps p2 p3 (p4 - u4) p4).bind fun u9 =>
    some u9
  else
  if u3 = (nI 3) then
    (f_X2_stepsLookedAhead u3 u4).bind fun u11 =>
    (f_X2_isStrokeAt p2 p3 (p4 - u11)).bind fun u12 =>
    some u12
  else
  if u3 = (nI 4) then
    (f_X2_isGapAt p2 p3 p4).bind fun u14 =>
    if u14 = (nI 0) then
      some (nI 0)
    else
    (f_X2_strokesAhead p2 p3 p4).bind fun u16 =>
    (f_X6_isMultiple u16 (u4 + (nI 1))).bind fun u17 =>
    if u17 = (nI 0) then
      some (nI 0)
    else
    some (nI 1)
  else
  if u3 = (nI 5) then
    (f_X6_isMultiple p4 (u4 + (nI 2))).bind fun u20 =>
    some u20
  else
  (f_X2_isGapAt p2 p3 p4).bind fun u21 =>
  some u21
set_option maxHeartbeats 4000000 in
set_option maxRecDepth 100000 in
theorem c_X2_strikesAt {l : Launch} {X : xG} {h0 h1 h2 : Nat} {v_count : Int32} {v_kinds : (Nat → Int32)} {v_tunes : (Nat → Int32)} {p1 : Int32} {p2 : Int64} {p3 : Int32} {p4 : Int32} {u : Int32} (hf : f_X2_strikesAt v_count v_kinds v_tunes p1 p2 p3 p4 = some u) : Met l yX2_strikesAt (xw yX2_strikesAt cX2_strikesAt 8 (some .boolean)) (xrm 2 47) (xPc [.ref h0, .int p1, .long p2, .int p3, .int p4] X [(h0, xO 2 [.ref h1, .ref h2, .int v_count]), (h1, xI X 6 v_kinds), (h2, xI X 6 v_tunes)]) (xQ (u = 0 ∨ u = 1) (.returned (some (.int u)))) 0 0 xNo := by
  refine xMet (n := 4) md_X2_strikesAt.1 (Nat.le_of_ble_eq_true rfl) ?_
  intro p e s m args below meth c ls A hC hr hlk hH hl
  have hl : lv_has ls 8 [(0, .ref h0), (1, .int p1), (2, .long p2), (4, .int p3), (5, .int p4)] := hl
  have hx := hC.1
  have hb := hC.2.1
  refine lv_aload_n hx hb dX2_strikesAt_0 rfl (lv_at hl 0 rfl) ?_
  refine lv_iload_n hx hb dX2_strikesAt_1 rfl (lv_at hl 1 rfl) ?_
  obtain ⟨u1, hf1, hf⟩ := xb hf
  refine x_ran (x_runV (q0 := 0) (rest := []) (As := [.int p1]) hC mw_286 md_X2_isThere (c_X2_isThere (X := X) hf1) hH [0] rfl (by decide) rfl rfl rfl hl.1 rfl rfl (Nat.le_of_ble_eq_true rfl) dX2_strikesAt_2 ⟨Nat.le_of_ble_eq_true rfl, Nat.le_of_ble_eq_true rfl⟩ ⟨rfl, rfl⟩ ⟨Nat.le_refl _, Nat.le_refl _⟩) rfl (fun hz1 => ?_)
  refine lv_if_ne (tgt := 10) hx hb dX2_strikesAt_5 (by decide) (fun c2 => ?_) (fun c2 => ?_)
  · have hf := xe c2 hf
    refine lv_aload_n hx hb dX2_strikesAt_10 rfl (lv_at hl 0 rfl) ?_
    refine lv_iload_n hx hb dX2_strikesAt_11 rfl (lv_at hl 1 rfl) ?_
    obtain ⟨u3, hf3, hf⟩ := xb hf
    refine x_ran (x_runV (q0 := 0) (rest := []) (As := [.int p1]) hC mw_287 md_X2_kindOf (c_X2_kindOf (X := X) hf3) hH [0, 1] rfl (by decide) rfl rfl rfl hl.1 rfl rfl (Nat.le_of_ble_eq_true rfl) dX2_strikesAt_12 ⟨Nat.le_of_ble_eq_true rfl, Nat.le_of_ble_eq_true rfl⟩ ⟨rfl, rfl⟩ ⟨Nat.le_refl _, Nat.le_refl _⟩) rfl (fun hz3 => ?_)
    refine lv_istore (lv' := [(6, .int u3), (0, .ref h0), (1, .int p1), (2, .long p2), (4, .int p3), (5, .int p4)]) hx hb dX2_strikesAt_15 hl (by decide) rfl (fun ls hl => ?_)
    refine lv_aload_n hx hb dX2_strikesAt_17 rfl (lv_at hl 1 rfl) ?_
    refine lv_iload_n hx hb dX2_strikesAt_18 rfl (lv_at hl 2 rfl) ?_
    obtain ⟨u4, hf4, hf⟩ := xb hf
    refine x_ran (x_runV (q0 := 0) (rest := []) (As := [.int p1]) hC mw_288 md_X2_tuneOf (c_X2_tuneOf (X := X) hf4) hH [0, 2] rfl (by decide) rfl rfl rfl hl.1 rfl rfl (Nat.le_of_ble_eq_true rfl) dX2_strikesAt_19 ⟨Nat.le_of_ble_eq_true rfl, Nat.le_of_ble_eq_true rfl⟩ ⟨rfl, rfl⟩ ⟨Nat.le_refl _, Nat.le_refl _⟩) rfl (fun hz4 => ?_)
    refine lv_istore (lv' := [(7, .int u4), (6, .int u3), (0, .ref h0), (1, .int p1), (2, .long p2), (4, .int p3), (5, .int p4)]) hx hb dX2_strikesAt_22 hl (by decide) rfl (fun ls hl => ?_)
    refine lv_iload hx hb dX2_strikesAt_24 (lv_at hl 1 rfl) ?_
    by_cases c5 : u3 = (nI 1)
    · have hf := xt c5 hf
      refine x_tin (k := (nI 1)) (tgt := 60) hx hb dX2_strikesAt_26 c5 (by decide) (by decide) ?_
      refine lv_lload_n hx hb dX2_strikesAt_60 rfl (lv_at hl 4 rfl) ?_
      refine lv_iload hx hb dX2_strikesAt_61 (lv_at hl 5 rfl) ?_
      refine lv_iload hx hb dX2_strikesAt_63 (lv_at hl 6 rfl) ?_
      refine lv_iload hx hb dX2_strikesAt_65 (lv_at hl 1 rfl) ?_
      refine lv_iload hx hb dX2_strikesAt_67 (lv_at hl 0 rfl) ?_
      obtain ⟨u6, hf6, hf⟩ := xb hf
      refine x_ran (x_runS (rest := [.int p4, .int p3, .long p2]) (As := [.int u3, .int u4]) hC mw_289 md_X2_stepsLookedAhead (c_X2_stepsLookedAhead (X := X) hf6) hH [] rfl (by decide) hl.1 rfl rfl (Nat.le_of_ble_eq_true rfl) dX2_strikesAt_69 ⟨Nat.le_of_ble_eq_true rfl, Nat.le_of_ble_eq_true rfl⟩ ⟨rfl, rfl⟩ ⟨Nat.le_refl _, Nat.le_refl _⟩) rfl (fun hz6 => ?_)
      refine lv_isub hx hb dX2_strikesAt_72 ?_
      obtain ⟨u7, hf7, hf⟩ := xb hf
      refine x_ran (x_runS (rest := []) (As := [.long p2, .int p3, .int (p4 - u6)]) hC mw_290 md_X2_isStrokeAt (c_X2_isStrokeAt (X := X) hf7) hH [] rfl (by decide) hl.1 rfl rfl (Nat.le_of_ble_eq_true rfl) dX2_strikesAt_73 ⟨Nat.le_of_ble_eq_true rfl, Nat.le_of_ble_eq_true rfl⟩ ⟨rfl, rfl⟩ ⟨Nat.le_refl _, Nat.le_refl _⟩) rfl (fun hz7 => ?_)
      exact x_retz hC hr hlk hz7 hf dX2_strikesAt_76
    · have hf := xe c5 hf
      by_cases c8 : u3 = (nI 2)
      · have hf := xt c8 hf
        refine x_tin (k := (nI 2)) (tgt := 77) hx hb dX2_strikesAt_26 c8 (by decide) (by decide) ?_
        refine lv_lload_n hx hb dX2_strikesAt_77 rfl (lv_at hl 4 rfl) ?_
        refine lv_iload hx hb dX2_strikesAt_78 (lv_at hl 5 rfl) ?_
        refine lv_iload hx hb dX2_strikesAt_80 (lv_at hl 6 rfl) ?_
        refine lv_iload hx hb dX2_strikesAt_82 (lv_at hl 0 rfl) ?_
        refine lv_isub hx hb dX2_strikesAt_84 ?_
        refine lv_iload hx hb dX2_strikesAt_85 (lv_at hl 6 rfl) ?_
        obtain ⟨u9, hf9, hf⟩ := xb hf
        refine x_ran (x_runS (rest := []) (As := [.long p2, .int p3, .int (p4 - u4), .int p4]) hC mw_295 md_X2_areGaps (c_X2_areGaps (X := X) hf9) hH [] rfl (by decide) hl.1 rfl rfl (Nat.le_of_ble_eq_true rfl) dX2_strikesAt_87 ⟨Nat.le_of_ble_eq_true rfl, Nat.le_of_ble_eq_true rfl⟩ ⟨rfl, rfl⟩ ⟨Nat.le_refl _, Nat.le_refl _⟩) rfl (fun hz9 => ?_)
        exact x_retz hC hr hlk hz9 hf dX2_strikesAt_90
      · have hf := xe c8 hf
        by_cases c10 : u3 = (nI 3)
        · have hf := xt c10 hf
          refine x_tin (k := (nI 3)) (tgt := 60) hx hb dX2_strikesAt_26 c10 (by decide) (by decide) ?_
          refine lv_lload_n hx hb dX2_strikesAt_60 rfl (lv_at hl 4 rfl) ?_
          refine lv_iload hx hb dX2_strikesAt_61 (lv_at hl 5 rfl) ?_
          refine lv_iload hx hb dX2_strikesAt_63 (lv_at hl 6 rfl) ?_
          refine lv_iload hx hb dX2_strikesAt_65 (lv_at hl 1 rfl) ?_
          refine lv_iload hx hb dX2_strikesAt_67 (lv_at hl 0 rfl) ?_
          obtain ⟨u11, hf11, hf⟩ := xb hf
          refine x_ran (x_runS (rest := [.int p4, .int p3, .long p2]) (As := [.int u3, .int u4]) hC mw_289 md_X2_stepsLookedAhead (c_X2_stepsLookedAhead (X := X) hf11) hH [] rfl (by decide) hl.1 rfl rfl (Nat.le_of_ble_eq_true rfl) dX2_strikesAt_69 ⟨Nat.le_of_ble_eq_true rfl, Nat.le_of_ble_eq_true rfl⟩ ⟨rfl, rfl⟩ ⟨Nat.le_refl _, Nat.le_refl _⟩) rfl (fun hz11 => ?_)
          refine lv_isub hx hb dX2_strikesAt_72 ?_
          obtain ⟨u12, hf12, hf⟩ := xb hf
          refine x_ran (x_runS (rest := []) (As := [.long p2, .int p3, .int (p4 - u11)]) hC mw_290 md_X2_isStrokeAt (c_X2_isStrokeAt (X := X) hf12) hH [] rfl (by decide) hl.1 rfl rfl (Nat.le_of_ble_eq_true rfl) dX2_strikesAt_73 ⟨Nat.le_of_ble_eq_true rfl, Nat.le_of_ble_eq_true rfl⟩ ⟨rfl, rfl⟩ ⟨Nat.le_refl _, Nat.le_refl _⟩) rfl (fun hz12 => ?_)
          exact x_retz hC hr hlk hz12 hf dX2_strikesAt_76
        · have hf := xe c10 hf
          by_cases c13 : u3 = (nI 4)
          · have hf := xt c13 hf
            refine x_tin (k := (nI 4)) (tgt := 91) hx hb dX2_strikesAt_26 c13 (by decide) (by decide) ?_
            refine lv_lload_n hx hb dX2_strikesAt_91 rfl (lv_at hl 4 rfl) ?_
            refine lv_iload hx hb dX2_strikesAt_92 (lv_at hl 5 rfl) ?_
            refine lv_iload hx hb dX2_strikesAt_94 (lv_at hl 6 rfl) ?_
            obtain ⟨u14, hf14, hf⟩ := xb hf
            refine x_ran (x_runS (rest := []) (As := [.long p2, .int p3, .int p4]) hC mw_298 md_X2_isGapAt (c_X2_isGapAt (X := X) hf14) hH [] rfl (by decide) hl.1 rfl rfl (Nat.le_of_ble_eq_true rfl) dX2_strikesAt_96 ⟨Nat.le_of_ble_eq_true rfl, Nat.le_of_ble_eq_true rfl⟩ ⟨rfl, rfl⟩ ⟨Nat.le_refl _, Nat.le_refl _⟩) rfl (fun hz14 => ?_)
            refine lv_if_eq (tgt := 124) hx hb dX2_strikesAt_99 (by decide) (fun c15 => ?_) (fun c15 => ?_)
            · have hf := xt c15 hf
              refine lv_iconst (v := (nI 0)) hx hb dX2_strikesAt_124 (by decide) ?_
              exact x_retz hC hr hlk (Or.inl rfl) hf dX2_strikesAt_125
            · have hf := xe c15 hf
              refine lv_lload_n hx hb dX2_strikesAt_102 rfl (lv_at hl 4 rfl) ?_
              refine lv_iload hx hb dX2_strikesAt_103 (lv_at hl 5 rfl) ?_
              refine lv_iload hx hb dX2_strikesAt_105 (lv_at hl 6 rfl) ?_
              obtain ⟨u16, hf16, hf⟩ := xb hf
              refine x_ran (x_runS (rest := []) (As := [.long p2, .int p3, .int p4]) hC mw_301 md_X2_strokesAhead (c_X2_strokesAhead (X := X) hf16) hH [] rfl (by decide) hl.1 rfl rfl (Nat.le_of_ble_eq_true rfl) dX2_strikesAt_107 ⟨Nat.le_of_ble_eq_true rfl, Nat.le_of_ble_eq_true rfl⟩ ⟨rfl, rfl⟩ ⟨Nat.le_refl _, Nat.le_refl _⟩) rfl (fun hz16 => ?_)
              refine lv_iload hx hb dX2_strikesAt_110 (lv_at hl 0 rfl) ?_
              refine lv_iconst (v := (nI 1)) hx hb dX2_strikesAt_112 (by decide) ?_
              refine lv_iadd hx hb dX2_strikesAt_113 ?_
              obtain ⟨u17, hf17, hf⟩ := xb hf
              refine x_ran (x_runSN (rest := []) (As := [.int u16, .int (u4 + (nI 1))]) hC mn_RX2_64 md_X6_isMultiple (c_X6_isMultiple (X := X) hf17) hH [] rfl (by decide) hl.1 rfl rfl (Nat.le_of_ble_eq_true rfl) dX2_strikesAt_114 ⟨Nat.le_of_ble_eq_true rfl, Nat.le_of_ble_eq_true rfl⟩ ⟨rfl, rfl⟩ ⟨Nat.le_refl _, Nat.le_refl _⟩) rfl (fun hz17 => ?_)
              refine lv_if_eq (tgt := 124) hx hb dX2_strikesAt_117 (by decide) (fun c18 => ?_) (fun c18 => ?_)
              · have hf := xt c18 hf
                refine lv_iconst (v := (nI 0)) hx hb dX2_strikesAt_124 (by decide) ?_
                exact x_retz hC hr hlk (Or.inl rfl) hf dX2_strikesAt_125
              · have hf := xe c18 hf
                refine lv_iconst (v := (nI 1)) hx hb dX2_strikesAt_120 (by decide) ?_
                refine lv_goto (tgt := 125) hx hb dX2_strikesAt_121 (by decide) ?_
                exact x_retz hC hr hlk (Or.inr rfl) hf dX2_strikesAt_125
          · have hf := xe c13 hf
            by_cases c19 : u3 = (nI 5)
            · have hf := xt c19 hf
              refine x_tin (k := (nI 5)) (tgt := 126) hx hb dX2_strikesAt_26 c19 (by decide) (by decide) ?_
              refine lv_iload hx hb dX2_strikesAt_126 (lv_at hl 6 rfl) ?_
              refine lv_iload hx hb dX2_strikesAt_128 (lv_at hl 0 rfl) ?_
              refine lv_iconst (v := (nI 2)) hx hb dX2_strikesAt_130 (by decide) ?_
              refine lv_iadd hx hb dX2_strikesAt_131 ?_
              obtain ⟨u20, hf20, hf⟩ := xb hf
              refine x_ran (x_runSN (rest := []) (As := [.int p4, .int (u4 + (nI 2))]) hC mn_RX2_64 md_X6_isMultiple (c_X6_isMultiple (X := X) hf20) hH [] rfl (by decide) hl.1 rfl rfl (Nat.le_of_ble_eq_true rfl) dX2_strikesAt_132 ⟨Nat.le_of_ble_eq_true rfl, Nat.le_of_ble_eq_true rfl⟩ ⟨rfl, rfl⟩ ⟨Nat.le_refl _, Nat.le_refl _⟩) rfl (fun hz20 => ?_)
              exact x_retz hC hr hlk hz20 hf dX2_strikesAt_135
            · have hf := xe c19 hf
              refine x_tout (tgt := 136) hx hb dX2_strikesAt_26 (fun j hj => match j, hj with | 0, _ => c5 | 1, _ => c8 | 2, _ => c10 | 3, _ => c13 | 4, _ => c19 | _ + 5, hj => absurd hj (by simp <;> omega)) (by decide) ?_
              refine lv_lload_n hx hb dX2_strikesAt_136 rfl (lv_at hl 4 rfl) ?_
              refine lv_iload hx hb dX2_strikesAt_137 (lv_at hl 5 rfl) ?_
              refine lv_iload hx hb dX2_strikesAt_139 (lv_at hl 6 rfl) ?_
              obtain ⟨u21, hf21, hf⟩ := xb hf
              refine x_ran (x_runS (rest := []) (As := [.long p2, .int p3, .int p4]) hC mw_298 md_X2_isGapAt (c_X2_isGapAt (X := X) hf21) hH [] rfl (by decide) hl.1 rfl rfl (Nat.le_of_ble_eq_true rfl) dX2_strikesAt_141 ⟨Nat.le_of_ble_eq_true rfl, Nat.le_of_ble_eq_true rfl⟩ ⟨rfl, rfl⟩ ⟨Nat.le_refl _, Nat.le_refl _⟩) rfl (fun hz21 => ?_)
              exact x_retz hC hr hlk hz21 hf dX2_strikesAt_144
  · have hf := xt c2 hf
    refine lv_iconst (v := (nI 0)) hx hb dX2_strikesAt_8 (by decide) ?_
    exact x_retz hC hr hlk (Or.inl rfl) hf dX2_strikesAt_9
def f_X0_wouldStrike (v_inForce : Int32) (v_ring : Int64) (v_steps : Int32) (v_laws_count : Int32) (v_laws_kinds : (Nat → Int32)) (v_laws_tunes : (Nat → Int32)) (p1 : Int32) : Option (Int32) :=
  (f_X2_strikesAt v_laws_count v_laws_kinds v_laws_tunes v_inForce v_ring v_steps p1).bind fun u1 =>
  some u1
set_option maxHeartbeats 4000000 in
set_option maxRecDepth 100000 in
theorem c_X0_wouldStrike {l : Launch} {X : xG} {h0 h1 h2 h3 g0 : Nat} {v_inForce : Int32} {v_depth : Int32} {v_miss : Int32} {v_ring : Int64} {v_steps : Int32} {v_seed : Int32} {v_laws_count : Int32} {v_laws_kinds : (Nat → Int32)} {v_laws_tunes : (Nat → Int32)} {p1 : Int32} {u : Int32} (hf : f_X0_wouldStrike v_inForce v_ring v_steps v_laws_count v_laws_kinds v_laws_tunes p1 = some u) : Met l yX0_wouldStrike (xw yX0_wouldStrike cX0_wouldStrike 2 (some .boolean)) (xrm 3 74) (xPc [.ref h0, .int p1] X [(h0, xO 0 [.ref h1, .ref g0, .int v_inForce, .int v_depth, .int v_miss, .long v_ring, .int v_steps, .int v_seed]), (h1, xO 2 [.ref h2, .ref h3, .int v_laws_count]), (h2, xI X 6 v_laws_kinds), (h3, xI X 6 v_laws_tunes)]) (xQ (u = 0 ∨ u = 1) (.returned (some (.int u)))) 0 0 xNo := by
  refine xMet (n := 1) md_X0_wouldStrike.1 (Nat.le_of_ble_eq_true rfl) ?_
  intro p e s m args below meth c ls A hC hr hlk hH hl
  have hl : lv_has ls 2 [(0, .ref h0), (1, .int p1)] := hl
  have hx := hC.1
  have hb := hC.2.1
  refine lv_aload_n hx hb dX0_wouldStrike_0 rfl (lv_at hl 0 rfl) ?_
  refine x_get hC fd_RX0_12 hH.1 0 rfl rfl dX0_wouldStrike_1 ?_
  refine lv_aload_n hx hb dX0_wouldStrike_4 rfl (lv_at hl 0 rfl) ?_
  refine x_get hC fd_RX0_39 hH.1 0 rfl rfl dX0_wouldStrike_5 ?_
  refine lv_aload_n hx hb dX0_wouldStrike_8 rfl (lv_at hl 0 rfl) ?_
  refine x_get hC fd_RX0_45 hH.1 0 rfl rfl dX0_wouldStrike_9 ?_
  refine lv_aload_n hx hb dX0_wouldStrike_12 rfl (lv_at hl 0 rfl) ?_
  refine x_get hC fd_RX0_49 hH.1 0 rfl rfl dX0_wouldStrike_13 ?_
  refine lv_iload_n hx hb dX0_wouldStrike_16 rfl (lv_at hl 1 rfl) ?_
  obtain ⟨u1, hf1, hf⟩ := xb hf
  refine x_ran (x_runV (q0 := 0) (rest := []) (As := [.int v_inForce, .long v_ring, .int v_steps, .int p1]) hC mw_697 md_X2_strikesAt (c_X2_strikesAt (X := X) hf1) hH [1, 2, 3] rfl (by decide) rfl rfl rfl hl.1 rfl rfl (Nat.le_of_ble_eq_true rfl) dX0_wouldStrike_17 ⟨Nat.le_of_ble_eq_true rfl, Nat.le_of_ble_eq_true rfl⟩ ⟨rfl, rfl⟩ ⟨Nat.le_refl _, Nat.le_refl _⟩) rfl (fun hz1 => ?_)
  exact x_retz hC hr hlk hz1 hf dX0_wouldStrike_20
def f_X2_struck_L6 (v_count : Int32) (v_kinds : (Nat → Int32)) (v_tunes : (Nat → Int32)) (p1 : Int32) (p2 : Int64) (p3 : Int32) (p4 : Int32) (s6 : Int64 × Int32) : Option ((Int64) ⊕ (Int64 × Int32)) :=
  if p3 ≤ s6.2 then
    some (.inl s6.1)
  else
  (f_X2_strikesAt v_count v_kinds v_tunes p1 p2 p3 (p4 + s6.2)).bind fun u2 =>
  if u2 = (nI 0) then
    some (.inr (s6.1, s6.2 + (nI 1)))
  else
  some (.inr (s6.1 ||| (xlshl (lN 1) s6.2), s6.2 + (nI 1)))
def f_X2_struck (v_count : Int32) (v_kinds : (Nat → Int32)) (v_tunes : (Nat → Int32)) (p1 : Int32) (p2 : Int64) (p3 : Int32) (p4 : Int32) : Option (Int64) :=
  xloop (f_X2_struck_L6 v_count v_kinds v_tunes p1 p2 p3 p4) xN ((lN 0), (nI 0))
set_option maxHeartbeats 4000000 in
set_option maxRecDepth 100000 in
theorem c_X2_struck {l : Launch} {X : xG} {h0 h1 h2 : Nat} {v_count : Int32} {v_kinds : (Nat → Int32)} {v_tunes : (Nat → Int32)} {p1 : Int32} {p2 : Int64} {p3 : Int32} {p4 : Int32} {u : Int64} (hf : f_X2_struck v_count v_kinds v_tunes p1 p2 p3 p4 = some u) : Met l yX2_struck (xw yX2_struck cX2_struck 9 (some .long)) (xrm 3 74) (xPc [.ref h0, .int p1, .long p2, .int p3, .int p4] X [(h0, xO 2 [.ref h1, .ref h2, .int v_count]), (h1, xI X 6 v_kinds), (h2, xI X 6 v_tunes)]) (xQ True (.returned (some (.long u)))) 0 0 xNo := by
  refine xMet (n := 4) md_X2_struck.1 (Nat.le_of_ble_eq_true rfl) ?_
  intro p e s m args below meth c ls A hC hr hlk hH hl
  have hl : lv_has ls 9 [(0, .ref h0), (1, .int p1), (2, .long p2), (4, .int p3), (5, .int p4)] := hl
  have hx := hC.1
  have hb := hC.2.1
  have L6 : ∀ (n : Nat) (s6 : Int64 × Int32), xloop (f_X2_struck_L6 v_count v_kinds v_tunes p1 p2 p3 p4) n s6 = some u → ∀ (ls : Array Slot), lv_has ls 9 [(0, .ref h0), (1, .int p1), (2, .long p2), (4, .int p3), (5, .int p4), (6, .long s6.1), (8, .int s6.2)] → W p l e (xrm 3 74) s m args below meth c s.heap [] 0 0 (MQ below (xQ True (.returned (some (.long u)))) args s 0 0 xNo) (F0 m 6 ls []) := by
    intro  n
    induction n with
    | zero => intro s6 hf; exact xloop_0 hf
    | succ n ih6 =>
      intro s6 hf ls hl
      obtain ⟨o6, hf, ho6⟩ := xloop_s hf
      refine lv_iload hx hb dX2_struck_6 (lv_at hl 6 rfl) ?_
      refine lv_iload hx hb dX2_struck_8 (lv_at hl 3 rfl) ?_
      refine lv_icmp_ge (tgt := 44) hx hb dX2_struck_10 (by decide) (fun c1 => ?_) (fun c1 => ?_)
      · have hf := xt c1 hf
        refine lv_lload hx hb dX2_struck_44 (lv_at hl 5 rfl) ?_
        have hf := xo_ret hf ho6
        exact x_retl hC hr hlk trivial hf dX2_struck_46
      · have hf := xe c1 hf
        refine lv_aload_n hx hb dX2_struck_13 rfl (lv_at hl 0 rfl) ?_
        refine lv_iload_n hx hb dX2_struck_14 rfl (lv_at hl 1 rfl) ?_
        refine lv_lload_n hx hb dX2_struck_15 rfl (lv_at hl 2 rfl) ?_
        refine lv_iload hx hb dX2_struck_16 (lv_at hl 3 rfl) ?_
        refine lv_iload hx hb dX2_struck_18 (lv_at hl 4 rfl) ?_
        refine lv_iload hx hb dX2_struck_20 (lv_at hl 6 rfl) ?_
        refine lv_iadd hx hb dX2_struck_22 ?_
        obtain ⟨u2, hf2, hf⟩ := xb hf
        refine x_ran (x_runV (q0 := 0) (rest := []) (As := [.int p1, .long p2, .int p3, .int (p4 + s6.2)]) hC mw_282 md_X2_strikesAt (c_X2_strikesAt (X := X) hf2) hH [0, 1, 2] rfl (by decide) rfl rfl rfl hl.1 rfl rfl (Nat.le_of_ble_eq_true rfl) dX2_struck_23 ⟨Nat.le_of_ble_eq_true rfl, Nat.le_of_ble_eq_true rfl⟩ ⟨rfl, rfl⟩ ⟨Nat.le_refl _, Nat.le_refl _⟩) rfl (fun hz2 => ?_)
        refine lv_if_eq (tgt := 38) hx hb dX2_struck_26 (by decide) (fun c3 => ?_) (fun c3 => ?_)
        · have hf := xt c3 hf
          refine lv_iinc (v := s6.2 + (nI 1)) (lv' := [(8, .int (s6.2 + (nI 1))), (0, .ref h0), (1, .int p1), (2, .long p2), (4, .int p3), (5, .int p4), (6, .long s6.1)]) hx hb dX2_struck_38 hl (k := 6) rfl rfl (by decide) rfl (fun ls hl => ?_)
          refine lv_goto (tgt := 6) hx hb dX2_struck_41 (by decide) ?_
          have hf := xo_go hf ho6
          exact ih6 (s6.1, s6.2 + (nI 1)) hf ls (lv_sub hl [1, 2, 3, 4, 5, 6, 0] rfl)
        · have hf := xe c3 hf
          refine lv_lload hx hb dX2_struck_29 (lv_at hl 5 rfl) ?_
          refine lv_lconst (v := (lN 1)) hx hb dX2_struck_31 (by decide) ?_
          refine lv_iload hx hb dX2_struck_32 (lv_at hl 6 rfl) ?_
          refine x_lshl hx hb dX2_struck_34 ?_
          refine lv_lor hx hb dX2_struck_35 ?_
          refine lv_lstore (lv' := [(6, .long (s6.1 ||| (xlshl (lN 1) s6.2))), (0, .ref h0), (1, .int p1), (2, .long p2), (4, .int p3), (5, .int p4), (8, .int s6.2)]) hx hb dX2_struck_36 hl (by decide) rfl (fun ls hl => ?_)
          refine lv_iinc (v := s6.2 + (nI 1)) (lv' := [(8, .int (s6.2 + (nI 1))), (6, .long (s6.1 ||| (xlshl (lN 1) s6.2))), (0, .ref h0), (1, .int p1), (2, .long p2), (4, .int p3), (5, .int p4)]) hx hb dX2_struck_38 hl (k := 6) rfl rfl (by decide) rfl (fun ls hl => ?_)
          refine lv_goto (tgt := 6) hx hb dX2_struck_41 (by decide) ?_
          have hf := xo_go hf ho6
          exact ih6 (s6.1 ||| (xlshl (lN 1) s6.2), s6.2 + (nI 1)) hf ls (lv_sub hl [2, 3, 4, 5, 6, 1, 0] rfl)
  refine lv_lconst (v := (lN 0)) hx hb dX2_struck_0 (by decide) ?_
  refine lv_lstore (lv' := [(6, .long (lN 0)), (0, .ref h0), (1, .int p1), (2, .long p2), (4, .int p3), (5, .int p4)]) hx hb dX2_struck_1 hl (by decide) rfl (fun ls hl => ?_)
  refine lv_iconst (v := (nI 0)) hx hb dX2_struck_3 (by decide) ?_
  refine lv_istore (lv' := [(8, .int (nI 0)), (6, .long (lN 0)), (0, .ref h0), (1, .int p1), (2, .long p2), (4, .int p3), (5, .int p4)]) hx hb dX2_struck_4 hl (by decide) rfl (fun ls hl => ?_)
  exact L6 xN ((lN 0), (nI 0)) hf ls (lv_sub hl [2, 3, 4, 5, 6, 1, 0] rfl)
def f_X0_struck (v_steps : Int32) (v_laws_count : Int32) (v_laws_kinds : (Nat → Int32)) (v_laws_tunes : (Nat → Int32)) (p1 : Int32) (p2 : Int64) : Option (Int64) :=
  (f_X2_struck v_laws_count v_laws_kinds v_laws_tunes p1 p2 v_steps (nI 0)).bind fun u1 =>
  some u1
set_option maxHeartbeats 4000000 in
set_option maxRecDepth 100000 in
theorem c_X0_struck {l : Launch} {X : xG} {h0 h1 h2 h3 g0 : Nat} {v_inForce : Int32} {v_depth : Int32} {v_miss : Int32} {v_ring : Int64} {v_steps : Int32} {v_seed : Int32} {v_laws_count : Int32} {v_laws_kinds : (Nat → Int32)} {v_laws_tunes : (Nat → Int32)} {p1 : Int32} {p2 : Int64} {u : Int64} (hf : f_X0_struck v_steps v_laws_count v_laws_kinds v_laws_tunes p1 p2 = some u) : Met l yX0_struck (xw yX0_struck cX0_struck 4 (some .long)) (xrm 4 102) (xPc [.ref h0, .int p1, .long p2] X [(h0, xO 0 [.ref h1, .ref g0, .int v_inForce, .int v_depth, .int v_miss, .long v_ring, .int v_steps, .int v_seed]), (h1, xO 2 [.ref h2, .ref h3, .int v_laws_count]), (h2, xI X 6 v_laws_kinds), (h3, xI X 6 v_laws_tunes)]) (xQ True (.returned (some (.long u)))) 0 0 xNo := by
  refine xMet (n := 2) md_X0_struck.1 (Nat.le_of_ble_eq_true rfl) ?_
  intro p e s m args below meth c ls A hC hr hlk hH hl
  have hl : lv_has ls 4 [(0, .ref h0), (1, .int p1), (2, .long p2)] := hl
  have hx := hC.1
  have hb := hC.2.1
  refine lv_aload_n hx hb dX0_struck_0 rfl (lv_at hl 0 rfl) ?_
  refine x_get hC fd_RX0_12 hH.1 0 rfl rfl dX0_struck_1 ?_
  refine lv_iload_n hx hb dX0_struck_4 rfl (lv_at hl 1 rfl) ?_
  refine lv_lload_n hx hb dX0_struck_5 rfl (lv_at hl 2 rfl) ?_
  refine lv_aload_n hx hb dX0_struck_6 rfl (lv_at hl 0 rfl) ?_
  refine x_get hC fd_RX0_49 hH.1 0 rfl rfl dX0_struck_7 ?_
  refine lv_iconst (v := (nI 0)) hx hb dX0_struck_10 (by decide) ?_
  obtain ⟨u1, hf1, hf⟩ := xb hf
  refine x_ran (x_runV (q0 := 0) (rest := []) (As := [.int p1, .long p2, .int v_steps, .int (nI 0)]) hC mw_278 md_X2_struck (c_X2_struck (X := X) hf1) hH [1, 2, 3] rfl (by decide) rfl rfl rfl hl.1 rfl rfl (Nat.le_of_ble_eq_true rfl) dX0_struck_11 ⟨Nat.le_of_ble_eq_true rfl, Nat.le_of_ble_eq_true rfl⟩ ⟨rfl, rfl⟩ ⟨Nat.le_refl _, Nat.le_refl _⟩) rfl (fun hz1 => ?_)
  exact x_retl hC hr hlk trivial hf dX0_struck_14
def f_X0_timesStruck (v_steps : Int32) (v_laws_count : Int32) (v_laws_kinds : (Nat → Int32)) (v_laws_tunes : (Nat → Int32)) (p1 : Int32) (p2 : Int64) : Option (Int32) :=
  (f_X0_struck v_steps v_laws_count v_laws_kinds v_laws_tunes p1 p2).bind fun u1 =>
  (f_J13_bitCount_95d88 u1).bind fun u2 =>
  some u2
set_option maxHeartbeats 4000000 in
set_option maxRecDepth 100000 in
theorem c_X0_timesStruck {l : Launch} {X : xG} {h0 h1 h2 h3 g0 : Nat} {v_inForce : Int32} {v_depth : Int32} {v_miss : Int32} {v_ring : Int64} {v_steps : Int32} {v_seed : Int32} {v_laws_count : Int32} {v_laws_kinds : (Nat → Int32)} {v_laws_tunes : (Nat → Int32)} {p1 : Int32} {p2 : Int64} {u : Int32} (hf : f_X0_timesStruck v_steps v_laws_count v_laws_kinds v_laws_tunes p1 p2 = some u) : Met l yX0_timesStruck (xw yX0_timesStruck cX0_timesStruck 4 (some .int)) (xrm 5 125) (xPc [.ref h0, .int p1, .long p2] X [(h0, xO 0 [.ref h1, .ref g0, .int v_inForce, .int v_depth, .int v_miss, .long v_ring, .int v_steps, .int v_seed]), (h1, xO 2 [.ref h2, .ref h3, .int v_laws_count]), (h2, xI X 6 v_laws_kinds), (h3, xI X 6 v_laws_tunes)]) (xQ True (.returned (some (.int u)))) 0 0 xNo := by
  refine xMet (n := 2) md_X0_timesStruck.1 (Nat.le_of_ble_eq_true rfl) ?_
  intro p e s m args below meth c ls A hC hr hlk hH hl
  have hl : lv_has ls 4 [(0, .ref h0), (1, .int p1), (2, .long p2)] := hl
  have hx := hC.1
  have hb := hC.2.1
  refine lv_aload_n hx hb dX0_timesStruck_0 rfl (lv_at hl 0 rfl) ?_
  refine lv_iload_n hx hb dX0_timesStruck_1 rfl (lv_at hl 1 rfl) ?_
  refine lv_lload_n hx hb dX0_timesStruck_2 rfl (lv_at hl 2 rfl) ?_
  obtain ⟨u1, hf1, hf⟩ := xb hf
  refine x_ran (x_runV (q0 := 0) (rest := []) (As := [.int p1, .long p2]) hC mw_273 md_X0_struck (c_X0_struck (X := X) hf1) hH [0, 1, 2, 3] rfl (by decide) rfl rfl rfl hl.1 rfl rfl (Nat.le_of_ble_eq_true rfl) dX0_timesStruck_3 ⟨Nat.le_of_ble_eq_true rfl, Nat.le_of_ble_eq_true rfl⟩ ⟨rfl, rfl⟩ ⟨Nat.le_refl _, Nat.le_refl _⟩) rfl (fun hz1 => ?_)
  obtain ⟨u2, hf2, hf⟩ := xb hf
  refine x_ran (x_runS (rest := []) (As := [.long u1]) hC mw_315 md_J13_bitCount_95d88 (c_J13_bitCount_95d88 (X := X) hf2) hH [] rfl (by decide) hl.1 rfl rfl (Nat.le_of_ble_eq_true rfl) dX0_timesStruck_6 ⟨Nat.le_of_ble_eq_true rfl, Nat.le_of_ble_eq_true rfl⟩ ⟨rfl, rfl⟩ ⟨Nat.le_refl _, Nat.le_refl _⟩) rfl (fun hz2 => ?_)
  exact x_reti hC hr hlk trivial hf dX0_timesStruck_9
def f_X0_struckInRepetition (v_inForce : Int32) (v_ring : Int64) (v_steps : Int32) (v_laws_count : Int32) (v_laws_kinds : (Nat → Int32)) (v_laws_tunes : (Nat → Int32)) (p1 : Int32) : Option (Int64) :=
  (f_X2_struck v_laws_count v_laws_kinds v_laws_tunes v_inForce v_ring v_steps (p1 * v_steps)).bind fun u1 =>
  some u1
set_option maxHeartbeats 4000000 in
set_option maxRecDepth 100000 in
theorem c_X0_struckInRepetition {l : Launch} {X : xG} {h0 h1 h2 h3 g0 : Nat} {v_inForce : Int32} {v_depth : Int32} {v_miss : Int32} {v_ring : Int64} {v_steps : Int32} {v_seed : Int32} {v_laws_count : Int32} {v_laws_kinds : (Nat → Int32)} {v_laws_tunes : (Nat → Int32)} {p1 : Int32} {u : Int64} (hf : f_X0_struckInRepetition v_inForce v_ring v_steps v_laws_count v_laws_kinds v_laws_tunes p1 = some u) : Met l yX0_struckInRepetition (xw yX0_struckInRepetition cX0_struckInRepetition 2 (some .long)) (xrm 4 102) (xPc [.ref h0, .int p1] X [(h0, xO 0 [.ref h1, .ref g0, .int v_inForce, .int v_depth, .int v_miss, .long v_ring, .int v_steps, .int v_seed]), (h1, xO 2 [.ref h2, .ref h3, .int v_laws_count]), (h2, xI X 6 v_laws_kinds), (h3, xI X 6 v_laws_tunes)]) (xQ True (.returned (some (.long u)))) 0 0 xNo := by
  refine xMet (n := 1) md_X0_struckInRepetition.1 (Nat.le_of_ble_eq_true rfl) ?_
  intro p e s m args below meth c ls A hC hr hlk hH hl
  have hl : lv_has ls 2 [(0, .ref h0), (1, .int p1)] := hl
  have hx := hC.1
  have hb := hC.2.1
  refine lv_aload_n hx hb dX0_struckInRepetition_0 rfl (lv_at hl 0 rfl) ?_
  refine x_get hC fd_RX0_12 hH.1 0 rfl rfl dX0_struckInRepetition_1 ?_
  refine lv_aload_n hx hb dX0_struckInRepetition_4 rfl (lv_at hl 0 rfl) ?_
  refine x_get hC fd_RX0_39 hH.1 0 rfl rfl dX0_struckInRepetition_5 ?_
  refine lv_aload_n hx hb dX0_struckInRepetition_8 rfl (lv_at hl 0 rfl) ?_
  refine x_get hC fd_RX0_45 hH.1 0 rfl rfl dX0_struckInRepetition_9 ?_
  refine lv_aload_n hx hb dX0_struckInRepetition_12 rfl (lv_at hl 0 rfl) ?_
  refine x_get hC fd_RX0_49 hH.1 0 rfl rfl dX0_struckInRepetition_13 ?_
  refine lv_iload_n hx hb dX0_struckInRepetition_16 rfl (lv_at hl 1 rfl) ?_
  refine lv_aload_n hx hb dX0_struckInRepetition_17 rfl (lv_at hl 0 rfl) ?_
  refine x_get hC fd_RX0_49 hH.1 0 rfl rfl dX0_struckInRepetition_18 ?_
  refine lv_imul hx hb dX0_struckInRepetition_21 ?_
  obtain ⟨u1, hf1, hf⟩ := xb hf
  refine x_ran (x_runV (q0 := 0) (rest := []) (As := [.int v_inForce, .long v_ring, .int v_steps, .int (p1 * v_steps)]) hC mw_278 md_X2_struck (c_X2_struck (X := X) hf1) hH [1, 2, 3] rfl (by decide) rfl rfl rfl hl.1 rfl rfl (Nat.le_of_ble_eq_true rfl) dX0_struckInRepetition_22 ⟨Nat.le_of_ble_eq_true rfl, Nat.le_of_ble_eq_true rfl⟩ ⟨rfl, rfl⟩ ⟨Nat.le_refl _, Nat.le_refl _⟩) rfl (fun hz1 => ?_)
  exact x_retl hC hr hlk trivial hf dX0_struckInRepetition_25
def f_X0_risen (v_ring : Int64) (v_steps : Int32) (v_laws_count : Int32) (v_laws_kinds : (Nat → Int32)) (v_laws_tunes : (Nat → Int32)) (p1 : Int32) (p2 : Int32) : Option (Int64) :=
  (f_X0_struck v_steps v_laws_count v_laws_kinds v_laws_tunes p1 v_ring).bind fun u1 =>
  (f_X6_firstBits v_steps).bind fun u2 =>
  some ((xlshl u1 p2) &&& u2)
set_option maxHeartbeats 4000000 in
set_option maxRecDepth 100000 in
theorem c_X0_risen {l : Launch} {X : xG} {h0 h1 h2 h3 g0 : Nat} {v_inForce : Int32} {v_depth : Int32} {v_miss : Int32} {v_ring : Int64} {v_steps : Int32} {v_seed : Int32} {v_laws_count : Int32} {v_laws_kinds : (Nat → Int32)} {v_laws_tunes : (Nat → Int32)} {p1 : Int32} {p2 : Int32} {u : Int64} (hf : f_X0_risen v_ring v_steps v_laws_count v_laws_kinds v_laws_tunes p1 p2 = some u) : Met l yX0_risen (xw yX0_risen cX0_risen 3 (some .long)) (xrm 5 125) (xPc [.ref h0, .int p1, .int p2] X [(h0, xO 0 [.ref h1, .ref g0, .int v_inForce, .int v_depth, .int v_miss, .long v_ring, .int v_steps, .int v_seed]), (h1, xO 2 [.ref h2, .ref h3, .int v_laws_count]), (h2, xI X 6 v_laws_kinds), (h3, xI X 6 v_laws_tunes)]) (xQ True (.returned (some (.long u)))) 0 0 xNo := by
  refine xMet (n := 2) md_X0_risen.1 (Nat.le_of_ble_eq_true rfl) ?_
  intro p e s m args below meth c ls A hC hr hlk hH hl
  have hl : lv_has ls 3 [(0, .ref h0), (1, .int p1), (2, .int p2)] := hl
  have hx := hC.1
  have hb := hC.2.1
  refine lv_aload_n hx hb dX0_risen_0 rfl (lv_at hl 0 rfl) ?_
  refine lv_iload_n hx hb dX0_risen_1 rfl (lv_at hl 1 rfl) ?_
  refine lv_aload_n hx hb dX0_risen_2 rfl (lv_at hl 0 rfl) ?_
  refine x_get hC fd_RX0_45 hH.1 0 rfl rfl dX0_risen_3 ?_
  obtain ⟨u1, hf1, hf⟩ := xb hf
  refine x_ran (x_runV (q0 := 0) (rest := []) (As := [.int p1, .long v_ring]) hC mw_273 md_X0_struck (c_X0_struck (X := X) hf1) hH [0, 1, 2, 3] rfl (by decide) rfl rfl rfl hl.1 rfl rfl (Nat.le_of_ble_eq_true rfl) dX0_risen_6 ⟨Nat.le_of_ble_eq_true rfl, Nat.le_of_ble_eq_true rfl⟩ ⟨rfl, rfl⟩ ⟨Nat.le_refl _, Nat.le_refl _⟩) rfl (fun hz1 => ?_)
  refine lv_iload_n hx hb dX0_risen_9 rfl (lv_at hl 2 rfl) ?_
  refine x_lshl hx hb dX0_risen_10 ?_
  refine lv_aload_n hx hb dX0_risen_11 rfl (lv_at hl 0 rfl) ?_
  refine x_get hC fd_RX0_49 hH.1 0 rfl rfl dX0_risen_12 ?_
  obtain ⟨u2, hf2, hf⟩ := xb hf
  refine x_ran (x_runSN (rest := [.long (xlshl u1 p2)]) (As := [.int v_steps]) hC mn_RX0_73 md_X6_firstBits (c_X6_firstBits (X := X) hf2) hH [] rfl (by decide) hl.1 rfl rfl (Nat.le_of_ble_eq_true rfl) dX0_risen_15 ⟨Nat.le_of_ble_eq_true rfl, Nat.le_of_ble_eq_true rfl⟩ ⟨rfl, rfl⟩ ⟨Nat.le_refl _, Nat.le_refl _⟩) rfl (fun hz2 => ?_)
  refine lv_land hx hb dX0_risen_18 ?_
  exact x_retl hC hr hlk trivial hf dX0_risen_19
def f_X0_sounds (v_inForce : Int32) (v_depth : Int32) (v_laws_count : Int32) (v_laws_kinds : (Nat → Int32)) (v_laws_tunes : (Nat → Int32)) (p1 : Int64) (p2 : Int32) (p3 : Int32) : Option (Int64) :=
  (f_X2_struck v_laws_count v_laws_kinds v_laws_tunes v_inForce p1 p2 (nI 0)).bind fun u1 =>
  (f_X6_firstBits p2).bind fun u2 =>
  if p3 = (nI 0) then
    some (p1 ||| ((xlshl u1 v_depth) &&& u2))
  else
  if p3 = (nI 2) then
    (f_X6_firstBits p2).bind fun u5 =>
    some (((p1 ||| ((xlshl u1 v_depth) &&& u2)) ^^^ (-1 : Int64)) &&& u5)
  else
  some (p1 &&& ((xlshl u1 v_depth) &&& u2))
set_option maxHeartbeats 4000000 in
set_option maxRecDepth 100000 in
theorem c_X0_sounds {l : Launch} {X : xG} {h0 h1 h2 h3 g0 : Nat} {v_inForce : Int32} {v_depth : Int32} {v_miss : Int32} {v_ring : Int64} {v_steps : Int32} {v_seed : Int32} {v_laws_count : Int32} {v_laws_kinds : (Nat → Int32)} {v_laws_tunes : (Nat → Int32)} {p1 : Int64} {p2 : Int32} {p3 : Int32} {u : Int64} (hf : f_X0_sounds v_inForce v_depth v_laws_count v_laws_kinds v_laws_tunes p1 p2 p3 = some u) : Met l yX0_sounds (xw yX0_sounds cX0_sounds 7 (some .long)) (xrm 4 102) (xPc [.ref h0, .long p1, .int p2, .int p3] X [(h0, xO 0 [.ref h1, .ref g0, .int v_inForce, .int v_depth, .int v_miss, .long v_ring, .int v_steps, .int v_seed]), (h1, xO 2 [.ref h2, .ref h3, .int v_laws_count]), (h2, xI X 6 v_laws_kinds), (h3, xI X 6 v_laws_tunes)]) (xQ True (.returned (some (.long u)))) 0 0 xNo := by
  refine xMet (n := 3) md_X0_sounds.1 (Nat.le_of_ble_eq_true rfl) ?_
  intro p e s m args below meth c ls A hC hr hlk hH hl
  have hl : lv_has ls 7 [(0, .ref h0), (1, .long p1), (3, .int p2), (4, .int p3)] := hl
  have hx := hC.1
  have hb := hC.2.1
  refine lv_aload_n hx hb dX0_sounds_0 rfl (lv_at hl 0 rfl) ?_
  refine x_get hC fd_RX0_12 hH.1 0 rfl rfl dX0_sounds_1 ?_
  refine lv_aload_n hx hb dX0_sounds_4 rfl (lv_at hl 0 rfl) ?_
  refine x_get hC fd_RX0_39 hH.1 0 rfl rfl dX0_sounds_5 ?_
  refine lv_lload_n hx hb dX0_sounds_8 rfl (lv_at hl 1 rfl) ?_
  refine lv_iload_n hx hb dX0_sounds_9 rfl (lv_at hl 2 rfl) ?_
  refine lv_iconst (v := (nI 0)) hx hb dX0_sounds_10 (by decide) ?_
  obtain ⟨u1, hf1, hf⟩ := xb hf
  refine x_ran (x_runV (q0 := 0) (rest := []) (As := [.int v_inForce, .long p1, .int p2, .int (nI 0)]) hC mw_278 md_X2_struck (c_X2_struck (X := X) hf1) hH [1, 2, 3] rfl (by decide) rfl rfl rfl hl.1 rfl rfl (Nat.le_of_ble_eq_true rfl) dX0_sounds_11 ⟨Nat.le_of_ble_eq_true rfl, Nat.le_of_ble_eq_true rfl⟩ ⟨rfl, rfl⟩ ⟨Nat.le_refl _, Nat.le_refl _⟩) rfl (fun hz1 => ?_)
  refine lv_aload_n hx hb dX0_sounds_14 rfl (lv_at hl 0 rfl) ?_
  refine x_get hC fd_RX0_25 hH.1 0 rfl rfl dX0_sounds_15 ?_
  refine x_lshl hx hb dX0_sounds_18 ?_
  refine lv_iload_n hx hb dX0_sounds_19 rfl (lv_at hl 2 rfl) ?_
  obtain ⟨u2, hf2, hf⟩ := xb hf
  refine x_ran (x_runSN (rest := [.long (xlshl u1 v_depth)]) (As := [.int p2]) hC mn_RX0_73 md_X6_firstBits (c_X6_firstBits (X := X) hf2) hH [] rfl (by decide) hl.1 rfl rfl (Nat.le_of_ble_eq_true rfl) dX0_sounds_20 ⟨Nat.le_of_ble_eq_true rfl, Nat.le_of_ble_eq_true rfl⟩ ⟨rfl, rfl⟩ ⟨Nat.le_refl _, Nat.le_refl _⟩) rfl (fun hz2 => ?_)
  refine lv_land hx hb dX0_sounds_23 ?_
  refine lv_lstore (lv' := [(5, .long ((xlshl u1 v_depth) &&& u2)), (0, .ref h0), (1, .long p1), (3, .int p2), (4, .int p3)]) hx hb dX0_sounds_24 hl (by decide) rfl (fun ls hl => ?_)
  refine lv_iload hx hb dX0_sounds_26 (lv_at hl 4 rfl) ?_
  by_cases c3 : p3 = (nI 0)
  · have hf := xt c3 hf
    refine lv_lookup (off := 28) (tgt := 56) hx hb dX0_sounds_28 (by decide) (by rw [c3]; decide) (by decide) ?_
    refine lv_lload_n hx hb dX0_sounds_56 rfl (lv_at hl 2 rfl) ?_
    refine lv_lload hx hb dX0_sounds_57 (lv_at hl 0 rfl) ?_
    refine lv_lor hx hb dX0_sounds_59 ?_
    exact x_retl hC hr hlk trivial hf dX0_sounds_60
  · have hf := xe c3 hf
    by_cases c4 : p3 = (nI 2)
    · have hf := xt c4 hf
      refine lv_lookup (off := 33) (tgt := 61) hx hb dX0_sounds_28 (by decide) (by rw [c4]; decide) (by decide) ?_
      refine lv_lload_n hx hb dX0_sounds_61 rfl (lv_at hl 2 rfl) ?_
      refine lv_lload hx hb dX0_sounds_62 (lv_at hl 0 rfl) ?_
      refine lv_lor hx hb dX0_sounds_64 ?_
      refine lv_ldc2 (v := (-1 : Int64)) hx hb hC.2.2.2.1 (hC.2.2.2.2.1 _ mw_723) dX0_sounds_65 ?_
      refine lv_lxor hx hb dX0_sounds_68 ?_
      refine lv_iload_n hx hb dX0_sounds_69 rfl (lv_at hl 3 rfl) ?_
      obtain ⟨u5, hf5, hf⟩ := xb hf
      refine x_ran (x_runSN (rest := [.long ((p1 ||| ((xlshl u1 v_depth) &&& u2)) ^^^ (-1 : Int64))]) (As := [.int p2]) hC mn_RX0_73 md_X6_firstBits (c_X6_firstBits (X := X) hf5) hH [] rfl (by decide) hl.1 rfl rfl (Nat.le_of_ble_eq_true rfl) dX0_sounds_70 ⟨Nat.le_of_ble_eq_true rfl, Nat.le_of_ble_eq_true rfl⟩ ⟨rfl, rfl⟩ ⟨Nat.le_refl _, Nat.le_refl _⟩) rfl (fun hz5 => ?_)
      refine lv_land hx hb dX0_sounds_73 ?_
      exact x_retl hC hr hlk trivial hf dX0_sounds_74
    · have hf := xe c4 hf
      refine lv_lookup (off := 47) (tgt := 75) hx hb dX0_sounds_28 (by decide) (x_lout2 c3 c4) (by decide) ?_
      refine lv_lload_n hx hb dX0_sounds_75 rfl (lv_at hl 2 rfl) ?_
      refine lv_lload hx hb dX0_sounds_76 (lv_at hl 0 rfl) ?_
      refine lv_land hx hb dX0_sounds_78 ?_
      exact x_retl hC hr hlk trivial hf dX0_sounds_79
def f_X0_turnedAbout_L4 (v_ring : Int64) (v_steps : Int32) (s4 : Int64 × Int32) : Option ((Int64) ⊕ (Int64 × Int32)) :=
  if v_steps ≤ s4.2 then
    some (.inl s4.1)
  else
  some (.inr ((xlshl s4.1 (nI 1)) ||| ((xlushr v_ring s4.2) &&& (lN 1)), s4.2 + (nI 1)))
def f_X0_turnedAbout (v_ring : Int64) (v_steps : Int32) : Option (Int64) :=
  xloop (f_X0_turnedAbout_L4 v_ring v_steps) xN ((lN 0), (nI 0))
set_option maxHeartbeats 4000000 in
set_option maxRecDepth 100000 in
theorem c_X0_turnedAbout {l : Launch} {X : xG} {h0 g0 g1 : Nat} {v_inForce : Int32} {v_depth : Int32} {v_miss : Int32} {v_ring : Int64} {v_steps : Int32} {v_seed : Int32} {u : Int64} (hf : f_X0_turnedAbout v_ring v_steps = some u) : Met l yX0_turnedAbout (xw yX0_turnedAbout cX0_turnedAbout 4 (some .long)) (xrm 0 0) (xPc [.ref h0] X [(h0, xO 0 [.ref g0, .ref g1, .int v_inForce, .int v_depth, .int v_miss, .long v_ring, .int v_steps, .int v_seed])]) (xQ True (.returned (some (.long u)))) 0 0 xNo := by
  refine xMet (n := 0) md_X0_turnedAbout.1 (Nat.le_of_ble_eq_true rfl) ?_
  intro p e s m args below meth c ls A hC hr hlk hH hl
  have hl : lv_has ls 4 [(0, .ref h0)] := hl
  have hx := hC.1
  have hb := hC.2.1
  have L4 : ∀ (n : Nat) (s4 : Int64 × Int32), xloop (f_X0_turnedAbout_L4 v_ring v_steps) n s4 = some u → ∀ (ls : Array Slot), lv_has ls 4 [(0, .ref h0), (1, .long s4.1), (3, .int s4.2)] → W p l e (xrm 0 0) s m args below meth c s.heap [] 0 0 (MQ below (xQ True (.returned (some (.long u)))) args s 0 0 xNo) (F0 m 4 ls []) := by
    intro  n
    induction n with
    | zero => intro s4 hf; exact xloop_0 hf
    | succ n ih4 =>
      intro s4 hf ls hl
      obtain ⟨o4, hf, ho4⟩ := xloop_s hf
      refine lv_iload_n hx hb dX0_turnedAbout_4 rfl (lv_at hl 2 rfl) ?_
      refine lv_aload_n hx hb dX0_turnedAbout_5 rfl (lv_at hl 0 rfl) ?_
      refine x_get hC fd_RX0_49 hH.1 0 rfl rfl dX0_turnedAbout_6 ?_
      refine lv_icmp_ge (tgt := 31) hx hb dX0_turnedAbout_9 (by decide) (fun c1 => ?_) (fun c1 => ?_)
      · have hf := xt c1 hf
        refine lv_lload_n hx hb dX0_turnedAbout_31 rfl (lv_at hl 1 rfl) ?_
        have hf := xo_ret hf ho4
        exact x_retl hC hr hlk trivial hf dX0_turnedAbout_32
      · have hf := xe c1 hf
        refine lv_lload_n hx hb dX0_turnedAbout_12 rfl (lv_at hl 1 rfl) ?_
        refine lv_iconst (v := (nI 1)) hx hb dX0_turnedAbout_13 (by decide) ?_
        refine x_lshl hx hb dX0_turnedAbout_14 ?_
        refine lv_aload_n hx hb dX0_turnedAbout_15 rfl (lv_at hl 0 rfl) ?_
        refine x_get hC fd_RX0_45 hH.1 0 rfl rfl dX0_turnedAbout_16 ?_
        refine lv_iload_n hx hb dX0_turnedAbout_19 rfl (lv_at hl 2 rfl) ?_
        refine x_lushr hx hb dX0_turnedAbout_20 ?_
        refine lv_lconst (v := (lN 1)) hx hb dX0_turnedAbout_21 (by decide) ?_
        refine lv_land hx hb dX0_turnedAbout_22 ?_
        refine lv_lor hx hb dX0_turnedAbout_23 ?_
        refine lv_lstore_n (lv' := [(1, .long ((xlshl s4.1 (nI 1)) ||| ((xlushr v_ring s4.2) &&& (lN 1)))), (0, .ref h0), (3, .int s4.2)]) hx hb dX0_turnedAbout_24 rfl hl (by decide) rfl (fun ls hl => ?_)
        refine lv_iinc (v := s4.2 + (nI 1)) (lv' := [(3, .int (s4.2 + (nI 1))), (1, .long ((xlshl s4.1 (nI 1)) ||| ((xlushr v_ring s4.2) &&& (lN 1)))), (0, .ref h0)]) hx hb dX0_turnedAbout_25 hl (k := 2) rfl rfl (by decide) rfl (fun ls hl => ?_)
        refine lv_goto (tgt := 4) hx hb dX0_turnedAbout_28 (by decide) ?_
        have hf := xo_go hf ho4
        exact ih4 ((xlshl s4.1 (nI 1)) ||| ((xlushr v_ring s4.2) &&& (lN 1)), s4.2 + (nI 1)) hf ls (lv_sub hl [2, 1, 0] rfl)
  refine lv_lconst (v := (lN 0)) hx hb dX0_turnedAbout_0 (by decide) ?_
  refine lv_lstore_n (lv' := [(1, .long (lN 0)), (0, .ref h0)]) hx hb dX0_turnedAbout_1 rfl hl (by decide) rfl (fun ls hl => ?_)
  refine lv_iconst (v := (nI 0)) hx hb dX0_turnedAbout_2 (by decide) ?_
  refine lv_istore_n (lv' := [(3, .int (nI 0)), (1, .long (lN 0)), (0, .ref h0)]) hx hb dX0_turnedAbout_3 rfl hl (by decide) rfl (fun ls hl => ?_)
  exact L4 xN ((lN 0), (nI 0)) hf ls (lv_sub hl [2, 1, 0] rfl)
def f_X0_partedBy_J85 (s29 : Int32 × Int32 × Int32) (j85_8 : Int32) (j85_s0 : Int32) (j85_s1 : Int32) : Option ((Int32) ⊕ (Int32 × Int32 × Int32)) :=
  if j85_8 = (nI 0) then
    some (.inr (j85_s0 + j85_s1, s29.2.1 + (nI 1), s29.2.2 + (nI 1)))
  else
  some (.inr (j85_s0 + j85_s1, s29.2.1 + (nI 0), s29.2.2 + (nI 1)))
def f_X0_partedBy_L29 (v_steps : Int32) (v_laws_count : Int32) (v_laws_kinds : (Nat → Int32)) (v_laws_tunes : (Nat → Int32)) (p1 : Int32) (x29_3 : Int64) (s29 : Int32 × Int32 × Int32) : Option ((Int32) ⊕ (Int32 × Int32 × Int32)) :=
  if v_laws_count ≤ s29.2.2 then
    some (.inl (xmin s29.1 s29.2.1))
  else
  (f_X6_isIn (Int32.toInt64 p1) s29.2.2).bind fun u3 =>
  if u3 = (nI 0) then
    some (.inr (s29.1, s29.2.1, s29.2.2 + (nI 1)))
  else
  (f_X2_strikesAt v_laws_count v_laws_kinds v_laws_tunes s29.2.2 x29_3 (v_steps + (nI 1)) v_steps).bind fun u5 =>
  if u5 = (nI 0) then
    f_X0_partedBy_J85 s29 u5 s29.1 (nI 0)
  else
  f_X0_partedBy_J85 s29 u5 s29.1 (nI 1)
def f_X0_partedBy_J18 (v_steps : Int32) (v_laws_count : Int32) (v_laws_kinds : (Nat → Int32)) (v_laws_tunes : (Nat → Int32)) (p1 : Int32) (j18_s0 : Int64) (j18_s1 : Int64) : Option (Int32) :=
  xloop (f_X0_partedBy_L29 v_steps v_laws_count v_laws_kinds v_laws_tunes p1 (j18_s0 ||| j18_s1)) xN ((nI 0), (nI 0), (nI 0))
def f_X0_partedBy (v_ring : Int64) (v_steps : Int32) (v_laws_count : Int32) (v_laws_kinds : (Nat → Int32)) (v_laws_tunes : (Nat → Int32)) (p1 : Int32) (p2 : Int32) : Option (Int32) :=
  if p2 = (nI 0) then
    f_X0_partedBy_J18 v_steps v_laws_count v_laws_kinds v_laws_tunes p1 v_ring (lN 0)
  else
  f_X0_partedBy_J18 v_steps v_laws_count v_laws_kinds v_laws_tunes p1 v_ring (xlshl (lN 1) v_steps)
set_option maxHeartbeats 4000000 in
set_option maxRecDepth 100000 in
theorem c_X0_partedBy {l : Launch} {X : xG} {h0 h1 h2 h3 g0 : Nat} {v_inForce : Int32} {v_depth : Int32} {v_miss : Int32} {v_ring : Int64} {v_steps : Int32} {v_seed : Int32} {v_laws_count : Int32} {v_laws_kinds : (Nat → Int32)} {v_laws_tunes : (Nat → Int32)} {p1 : Int32} {p2 : Int32} {u : Int32} (hf : f_X0_partedBy v_ring v_steps v_laws_count v_laws_kinds v_laws_tunes p1 p2 = some u) : Met l yX0_partedBy (xw yX0_partedBy cX0_partedBy 9 (some .int)) (xrm 3 74) (xPc [.ref h0, .int p1, .int p2] X [(h0, xO 0 [.ref h1, .ref g0, .int v_inForce, .int v_depth, .int v_miss, .long v_ring, .int v_steps, .int v_seed]), (h1, xO 2 [.ref h2, .ref h3, .int v_laws_count]), (h2, xI X 6 v_laws_kinds), (h3, xI X 6 v_laws_tunes)]) (xQ True (.returned (some (.int u)))) 0 0 xNo := by
  refine xMet (n := 2) md_X0_partedBy.1 (Nat.le_of_ble_eq_true rfl) ?_
  intro p e s m args below meth c ls A hC hr hlk hH hl
  have hl : lv_has ls 9 [(0, .ref h0), (1, .int p1), (2, .int p2)] := hl
  have hx := hC.1
  have hb := hC.2.1
  have L29 : ∀ (x29_3 : Int64) (n : Nat) (s29 : Int32 × Int32 × Int32), xloop (f_X0_partedBy_L29 v_steps v_laws_count v_laws_kinds v_laws_tunes p1 x29_3) n s29 = some u → ∀ (ls : Array Slot), lv_has ls 9 [(0, .ref h0), (1, .int p1), (3, .long x29_3), (5, .int s29.1), (6, .int s29.2.1), (7, .int s29.2.2)] → W p l e (xrm 3 74) s m args below meth c s.heap [] 0 0 (MQ below (xQ True (.returned (some (.int u)))) args s 0 0 xNo) (F0 m 29 ls []) := by
    intro x29_3 n
    induction n with
    | zero => intro s29 hf; exact xloop_0 hf
    | succ n ih29 =>
      intro s29 hf ls hl
      obtain ⟨o29, hf, ho29⟩ := xloop_s hf
      have J85 : ∀ (j85_8 : Int32) (j85_s0 : Int32) (j85_s1 : Int32), f_X0_partedBy_J85 s29 j85_8 j85_s0 j85_s1 = some o29 → ∀ (ls : Array Slot), lv_has ls 9 [(0, .ref h0), (1, .int p1), (3, .long x29_3), (6, .int s29.2.1), (7, .int s29.2.2), (8, .int j85_8)] → W p l e (xrm 3 74) s m args below meth c s.heap [] 0 0 (MQ below (xQ True (.returned (some (.int u)))) args s 0 0 xNo) (F0 m 85 ls [.int j85_s1, .int j85_s0]) := by
        intro j85_8 j85_s0 j85_s1 hf ls hl
        refine lv_iadd hx hb dX0_partedBy_85 ?_
        refine lv_istore (lv' := [(5, .int (j85_s0 + j85_s1)), (0, .ref h0), (1, .int p1), (3, .long x29_3), (6, .int s29.2.1), (7, .int s29.2.2), (8, .int j85_8)]) hx hb dX0_partedBy_86 hl (by decide) rfl (fun ls hl => ?_)
        refine lv_iload hx hb dX0_partedBy_88 (lv_at hl 4 rfl) ?_
        refine lv_iload hx hb dX0_partedBy_90 (lv_at hl 6 rfl) ?_
        refine lv_if_eq (tgt := 99) hx hb dX0_partedBy_92 (by decide) (fun c7 => ?_) (fun c7 => ?_)
        · have hf := xt c7 hf
          refine lv_iconst (v := (nI 1)) hx hb dX0_partedBy_99 (by decide) ?_
          refine lv_iadd hx hb dX0_partedBy_100 ?_
          refine lv_istore (lv' := [(6, .int (s29.2.1 + (nI 1))), (5, .int (j85_s0 + j85_s1)), (0, .ref h0), (1, .int p1), (3, .long x29_3), (7, .int s29.2.2), (8, .int j85_8)]) hx hb dX0_partedBy_101 hl (by decide) rfl (fun ls hl => ?_)
          refine lv_iinc (v := s29.2.2 + (nI 1)) (lv' := [(7, .int (s29.2.2 + (nI 1))), (6, .int (s29.2.1 + (nI 1))), (5, .int (j85_s0 + j85_s1)), (0, .ref h0), (1, .int p1), (3, .long x29_3), (8, .int j85_8)]) hx hb dX0_partedBy_103 hl (k := 5) rfl rfl (by decide) rfl (fun ls hl => ?_)
          refine lv_goto (tgt := 29) hx hb dX0_partedBy_106 (by decide) ?_
          have hf := xo_go hf ho29
          exact ih29 (j85_s0 + j85_s1, s29.2.1 + (nI 1), s29.2.2 + (nI 1)) hf ls (lv_sub hl [3, 4, 5, 2, 1, 0] rfl)
        · have hf := xe c7 hf
          refine lv_iconst (v := (nI 0)) hx hb dX0_partedBy_95 (by decide) ?_
          refine lv_goto (tgt := 100) hx hb dX0_partedBy_96 (by decide) ?_
          refine lv_iadd hx hb dX0_partedBy_100 ?_
          refine lv_istore (lv' := [(6, .int (s29.2.1 + (nI 0))), (5, .int (j85_s0 + j85_s1)), (0, .ref h0), (1, .int p1), (3, .long x29_3), (7, .int s29.2.2), (8, .int j85_8)]) hx hb dX0_partedBy_101 hl (by decide) rfl (fun ls hl => ?_)
          refine lv_iinc (v := s29.2.2 + (nI 1)) (lv' := [(7, .int (s29.2.2 + (nI 1))), (6, .int (s29.2.1 + (nI 0))), (5, .int (j85_s0 + j85_s1)), (0, .ref h0), (1, .int p1), (3, .long x29_3), (8, .int j85_8)]) hx hb dX0_partedBy_103 hl (k := 5) rfl rfl (by decide) rfl (fun ls hl => ?_)
          refine lv_goto (tgt := 29) hx hb dX0_partedBy_106 (by decide) ?_
          have hf := xo_go hf ho29
          exact ih29 (j85_s0 + j85_s1, s29.2.1 + (nI 0), s29.2.2 + (nI 1)) hf ls (lv_sub hl [3, 4, 5, 2, 1, 0] rfl)
      refine lv_iload hx hb dX0_partedBy_29 (lv_at hl 5 rfl) ?_
      refine lv_aload_n hx hb dX0_partedBy_31 rfl (lv_at hl 0 rfl) ?_
      refine x_get hC fd_RX0_12 hH.1 0 rfl rfl dX0_partedBy_32 ?_
      refine x_getN hC fd_RX0_79 hH.1 1 rfl rfl dX0_partedBy_35 ?_
      refine lv_icmp_ge (tgt := 109) hx hb dX0_partedBy_38 (by decide) (fun c2 => ?_) (fun c2 => ?_)
      · have hf := xt c2 hf
        refine lv_iload hx hb dX0_partedBy_109 (lv_at hl 3 rfl) ?_
        refine lv_iload hx hb dX0_partedBy_111 (lv_at hl 4 rfl) ?_
        refine x_min hC hl.1 mw_1051 mw_476 mw_477 mw_478 (Nat.le_of_ble_eq_true rfl) (Nat.le_of_ble_eq_true rfl) (Nat.le_refl _) (Nat.le_refl _) dX0_partedBy_113 ?_
        have hf := xo_ret hf ho29
        exact x_reti hC hr hlk trivial hf dX0_partedBy_116
      · have hf := xe c2 hf
        refine lv_iload_n hx hb dX0_partedBy_41 rfl (lv_at hl 1 rfl) ?_
        refine lv_i2l hx hb dX0_partedBy_42 rfl ?_
        refine lv_iload hx hb dX0_partedBy_43 (lv_at hl 5 rfl) ?_
        obtain ⟨u3, hf3, hf⟩ := xb hf
        refine x_ran (x_runSN (rest := []) (As := [.long (Int32.toInt64 p1), .int s29.2.2]) hC mn_RX0_82 md_X6_isIn (c_X6_isIn (X := X) hf3) hH [] rfl (by decide) hl.1 rfl rfl (Nat.le_of_ble_eq_true rfl) dX0_partedBy_45 ⟨Nat.le_of_ble_eq_true rfl, Nat.le_of_ble_eq_true rfl⟩ ⟨rfl, rfl⟩ ⟨Nat.le_refl _, Nat.le_refl _⟩) rfl (fun hz3 => ?_)
        refine lv_if_eq (tgt := 103) hx hb dX0_partedBy_48 (by decide) (fun c4 => ?_) (fun c4 => ?_)
        · have hf := xt c4 hf
          refine lv_iinc (v := s29.2.2 + (nI 1)) (lv' := [(7, .int (s29.2.2 + (nI 1))), (0, .ref h0), (1, .int p1), (3, .long x29_3), (5, .int s29.1), (6, .int s29.2.1)]) hx hb dX0_partedBy_103 hl (k := 5) rfl rfl (by decide) rfl (fun ls hl => ?_)
          refine lv_goto (tgt := 29) hx hb dX0_partedBy_106 (by decide) ?_
          have hf := xo_go hf ho29
          exact ih29 (s29.1, s29.2.1, s29.2.2 + (nI 1)) hf ls (lv_sub hl [1, 2, 3, 4, 5, 0] rfl)
        · have hf := xe c4 hf
          refine lv_aload_n hx hb dX0_partedBy_51 rfl (lv_at hl 0 rfl) ?_
          refine x_get hC fd_RX0_12 hH.1 0 rfl rfl dX0_partedBy_52 ?_
          refine lv_iload hx hb dX0_partedBy_55 (lv_at hl 5 rfl) ?_
          refine lv_lload_n hx hb dX0_partedBy_57 rfl (lv_at hl 2 rfl) ?_
          refine lv_aload_n hx hb dX0_partedBy_58 rfl (lv_at hl 0 rfl) ?_
          refine x_get hC fd_RX0_49 hH.1 0 rfl rfl dX0_partedBy_59 ?_
          refine lv_iconst (v := (nI 1)) hx hb dX0_partedBy_62 (by decide) ?_
          refine lv_iadd hx hb dX0_partedBy_63 ?_
          refine lv_aload_n hx hb dX0_partedBy_64 rfl (lv_at hl 0 rfl) ?_
          refine x_get hC fd_RX0_49 hH.1 0 rfl rfl dX0_partedBy_65 ?_
          obtain ⟨u5, hf5, hf⟩ := xb hf
          refine x_ran (x_runV (q0 := 0) (rest := []) (As := [.int s29.2.2, .long x29_3, .int (v_steps + (nI 1)), .int v_steps]) hC mw_697 md_X2_strikesAt (c_X2_strikesAt (X := X) hf5) hH [1, 2, 3] rfl (by decide) rfl rfl rfl hl.1 rfl rfl (Nat.le_of_ble_eq_true rfl) dX0_partedBy_68 ⟨Nat.le_of_ble_eq_true rfl, Nat.le_of_ble_eq_true rfl⟩ ⟨rfl, rfl⟩ ⟨Nat.le_refl _, Nat.le_refl _⟩) rfl (fun hz5 => ?_)
          refine lv_istore (lv' := [(8, .int u5), (0, .ref h0), (1, .int p1), (3, .long x29_3), (5, .int s29.1), (6, .int s29.2.1), (7, .int s29.2.2)]) hx hb dX0_partedBy_71 hl (by decide) rfl (fun ls hl => ?_)
          refine lv_iload hx hb dX0_partedBy_73 (lv_at hl 4 rfl) ?_
          refine lv_iload hx hb dX0_partedBy_75 (lv_at hl 0 rfl) ?_
          refine lv_if_eq (tgt := 84) hx hb dX0_partedBy_77 (by decide) (fun c6 => ?_) (fun c6 => ?_)
          · have hf := xt c6 hf
            refine lv_iconst (v := (nI 0)) hx hb dX0_partedBy_84 (by decide) ?_
            exact J85 u5 s29.1 (nI 0) hf ls (lv_sub hl [1, 2, 3, 5, 6, 0] rfl)
          · have hf := xe c6 hf
            refine lv_iconst (v := (nI 1)) hx hb dX0_partedBy_80 (by decide) ?_
            refine lv_goto (tgt := 85) hx hb dX0_partedBy_81 (by decide) ?_
            exact J85 u5 s29.1 (nI 1) hf ls (lv_sub hl [1, 2, 3, 5, 6, 0] rfl)
  have J18 : ∀ (j18_s0 : Int64) (j18_s1 : Int64), f_X0_partedBy_J18 v_steps v_laws_count v_laws_kinds v_laws_tunes p1 j18_s0 j18_s1 = some u → ∀ (ls : Array Slot), lv_has ls 9 [(0, .ref h0), (1, .int p1)] → W p l e (xrm 3 74) s m args below meth c s.heap [] 0 0 (MQ below (xQ True (.returned (some (.int u)))) args s 0 0 xNo) (F0 m 18 ls [.long j18_s1, .long j18_s0]) := by
    intro j18_s0 j18_s1 hf ls hl
    refine lv_lor hx hb dX0_partedBy_18 ?_
    refine lv_lstore_n (lv' := [(3, .long (j18_s0 ||| j18_s1)), (0, .ref h0), (1, .int p1)]) hx hb dX0_partedBy_19 rfl hl (by decide) rfl (fun ls hl => ?_)
    refine lv_iconst (v := (nI 0)) hx hb dX0_partedBy_20 (by decide) ?_
    refine lv_istore (lv' := [(5, .int (nI 0)), (3, .long (j18_s0 ||| j18_s1)), (0, .ref h0), (1, .int p1)]) hx hb dX0_partedBy_21 hl (by decide) rfl (fun ls hl => ?_)
    refine lv_iconst (v := (nI 0)) hx hb dX0_partedBy_23 (by decide) ?_
    refine lv_istore (lv' := [(6, .int (nI 0)), (5, .int (nI 0)), (3, .long (j18_s0 ||| j18_s1)), (0, .ref h0), (1, .int p1)]) hx hb dX0_partedBy_24 hl (by decide) rfl (fun ls hl => ?_)
    refine lv_iconst (v := (nI 0)) hx hb dX0_partedBy_26 (by decide) ?_
    refine lv_istore (lv' := [(7, .int (nI 0)), (6, .int (nI 0)), (5, .int (nI 0)), (3, .long (j18_s0 ||| j18_s1)), (0, .ref h0), (1, .int p1)]) hx hb dX0_partedBy_27 hl (by decide) rfl (fun ls hl => ?_)
    exact L29 (j18_s0 ||| j18_s1) xN ((nI 0), (nI 0), (nI 0)) hf ls (lv_sub hl [4, 5, 3, 2, 1, 0] rfl)
  refine lv_aload_n hx hb dX0_partedBy_0 rfl (lv_at hl 0 rfl) ?_
  refine x_get hC fd_RX0_45 hH.1 0 rfl rfl dX0_partedBy_1 ?_
  refine lv_iload_n hx hb dX0_partedBy_4 rfl (lv_at hl 2 rfl) ?_
  refine lv_if_eq (tgt := 17) hx hb dX0_partedBy_5 (by decide) (fun c1 => ?_) (fun c1 => ?_)
  · have hf := xt c1 hf
    refine lv_lconst (v := (lN 0)) hx hb dX0_partedBy_17 (by decide) ?_
    exact J18 v_ring (lN 0) hf ls (lv_sub hl [0, 1] rfl)
  · have hf := xe c1 hf
    refine lv_lconst (v := (lN 1)) hx hb dX0_partedBy_8 (by decide) ?_
    refine lv_aload_n hx hb dX0_partedBy_9 rfl (lv_at hl 0 rfl) ?_
    refine x_get hC fd_RX0_49 hH.1 0 rfl rfl dX0_partedBy_10 ?_
    refine x_lshl hx hb dX0_partedBy_13 ?_
    refine lv_goto (tgt := 18) hx hb dX0_partedBy_14 (by decide) ?_
    exact J18 v_ring (xlshl (lN 1) v_steps) hf ls (lv_sub hl [0, 1] rfl)
def f_J6_bitCount_0f7a4 (p0 : Int32) : Option (Int32) :=
  some ((((((((p0 - ((xushr p0 (nI 1)) &&& (nI 1431655765))) &&& (nI 858993459)) + ((xushr (p0 - ((xushr p0 (nI 1)) &&& (nI 1431655765))) (nI 2)) &&& (nI 858993459))) + (xushr (((p0 - ((xushr p0 (nI 1)) &&& (nI 1431655765))) &&& (nI 858993459)) + ((xushr (p0 - ((xushr p0 (nI 1)) &&& (nI 1431655765))) (nI 2)) &&& (nI 858993459))) (nI 4))) &&& (nI 252645135)) + (xushr (((((p0 - ((xushr p0 (nI 1)) &&& (nI 1431655765))) &&& (nI 858993459)) + ((xushr (p0 - ((xushr p0 (nI 1)) &&& (nI 1431655765))) (nI 2)) &&& (nI 858993459))) + (xushr (((p0 - ((xushr p0 (nI 1)) &&& (nI 1431655765))) &&& (nI 858993459)) + ((xushr (p0 - ((xushr p0 (nI 1)) &&& (nI 1431655765))) (nI 2)) &&& (nI 858993459))) (nI 4))) &&& (nI 252645135)) (nI 8))) + (xushr ((((((p0 - ((xushr p0 (nI 1)) &&& (nI 1431655765))) &&& (nI 858993459)) + ((xushr (p0 - ((xushr p0 (nI 1)) &&& (nI 1431655765))) (nI 2)) &&& (nI 858993459))) + (xushr (((p0 - ((xushr p0 (nI 1)) &&& (nI 1431655765))) &&& (nI 858993459)) + ((xushr (p0 - ((xushr p0 (nI 1)) &&& (nI 1431655765))) (nI 2)) &&& (nI 858993459))) (nI 4))) &&& (nI 252645135)) + (xushr (((((p0 - ((xushr p0 (nI 1)) &&& (nI 1431655765))) &&& (nI 858993459)) + ((xushr (p0 - ((xushr p0 (nI 1)) &&& (nI 1431655765))) (nI 2)) &&& (nI 858993459))) + (xushr (((p0 - ((xushr p0 (nI 1)) &&& (nI 1431655765))) &&& (nI 858993459)) + ((xushr (p0 - ((xushr p0 (nI 1)) &&& (nI 1431655765))) (nI 2)) &&& (nI 858993459))) (nI 4))) &&& (nI 252645135)) (nI 8))) (nI 16))) &&& (nI 63))
set_option maxHeartbeats 4000000 in
set_option maxRecDepth 100000 in
theorem c_J6_bitCount_0f7a4 {l : Launch} {X : xG} {p0 : Int32} {u : Int32} (hf : f_J6_bitCount_0f7a4 p0 = some u) : Met l yJ6_bitCount_0f7a4 (xw yJ6_bitCount_0f7a4 cJ6_bitCount_0f7a4 1 (some .int)) (xrm 0 0) (xPc [.int p0] X []) (xQ True (.returned (some (.int u)))) 0 0 xNo := by
  refine xMet (n := 1) md_J6_bitCount_0f7a4.1 (Nat.le_of_ble_eq_true rfl) ?_
  intro p e s m args below meth c ls A hC hr hlk hH hl
  have hl : lv_has ls 1 [(0, .int p0)] := hl
  have hx := hC.1
  have hb := hC.2.1
  refine lv_iload_n hx hb dJ6_bitCount_0f7a4_0 rfl (lv_at hl 0 rfl) ?_
  refine lv_iload_n hx hb dJ6_bitCount_0f7a4_1 rfl (lv_at hl 0 rfl) ?_
  refine lv_iconst (v := (nI 1)) hx hb dJ6_bitCount_0f7a4_2 (by decide) ?_
  refine x_iushr hx hb dJ6_bitCount_0f7a4_3 ?_
  refine lv_ldcw (v := (nI 1431655765)) hx hb hC.2.2.2.1 (hC.2.2.2.2.1 _ mw_952) dJ6_bitCount_0f7a4_4 ?_
  refine lv_iand hx hb dJ6_bitCount_0f7a4_7 ?_
  refine lv_isub hx hb dJ6_bitCount_0f7a4_8 ?_
  refine lv_istore_n (lv' := [(0, .int (p0 - ((xushr p0 (nI 1)) &&& (nI 1431655765))))]) hx hb dJ6_bitCount_0f7a4_9 rfl hl (by decide) rfl (fun ls hl => ?_)
  refine lv_iload_n hx hb dJ6_bitCount_0f7a4_10 rfl (lv_at hl 0 rfl) ?_
  refine lv_ldcw (v := (nI 858993459)) hx hb hC.2.2.2.1 (hC.2.2.2.2.1 _ mw_953) dJ6_bitCount_0f7a4_11 ?_
  refine lv_iand hx hb dJ6_bitCount_0f7a4_14 ?_
  refine lv_iload_n hx hb dJ6_bitCount_0f7a4_15 rfl (lv_at hl 0 rfl) ?_
  refine lv_iconst (v := (nI 2)) hx hb dJ6_bitCount_0f7a4_16 (by decide) ?_
  refine x_iushr hx hb dJ6_bitCount_0f7a4_17 ?_
  refine lv_ldcw (v := (nI 858993459)) hx hb hC.2.2.2.1 (hC.2.2.2.2.1 _ mw_953) dJ6_bitCount_0f7a4_18 ?_
  refine lv_iand hx hb dJ6_bitCount_0f7a4_21 ?_
  refine lv_iadd hx hb dJ6_bitCount_0f7a4_22 ?_
  refine lv_istore_n (lv' := [(0, .int (((p0 - ((xushr p0 (nI 1)) &&& (nI 1431655765))) &&& (nI 858993459)) + ((xushr (p0 - ((xushr p0 (nI 1)) &&& (nI 1431655765))) (nI 2)) &&& (nI 858993459))))]) hx hb dJ6_bitCount_0f7a4_23 rfl hl (by decide) rfl (fun ls hl => ?_)
  refine lv_iload_n hx hb dJ6_bitCount_0f7a4_24 rfl (lv_at hl 0 rfl) ?_
  refine lv_iload_n hx hb dJ6_bitCount_0f7a4_25 rfl (lv_at hl 0 rfl) ?_
  refine lv_iconst (v := (nI 4)) hx hb dJ6_bitCount_0f7a4_26 (by decide) ?_
  refine x_iushr hx hb dJ6_bitCount_0f7a4_27 ?_
  refine lv_iadd hx hb dJ6_bitCount_0f7a4_28 ?_
  refine lv_ldcw (v := (nI 252645135)) hx hb hC.2.2.2.1 (hC.2.2.2.2.1 _ mw_954) dJ6_bitCount_0f7a4_29 ?_
  refine lv_iand hx hb dJ6_bitCount_0f7a4_32 ?_
  refine lv_istore_n (lv' := [(0, .int (((((p0 - ((xushr p0 (nI 1)) &&& (nI 1431655765))) &&& (nI 858993459)) + ((xushr (p0 - ((xushr p0 (nI 1)) &&& (nI 1431655765))) (nI 2)) &&& (nI 858993459))) + (xushr (((p0 - ((xushr p0 (nI 1)) &&& (nI 1431655765))) &&& (nI 858993459)) + ((xushr (p0 - ((xushr p0 (nI 1)) &&& (nI 1431655765))) (nI 2)) &&& (nI 858993459))) (nI 4))) &&& (nI 252645135)))]) hx hb dJ6_bitCount_0f7a4_33 rfl hl (by decide) rfl (fun ls hl => ?_)
  refine lv_iload_n hx hb dJ6_bitCount_0f7a4_34 rfl (lv_at hl 0 rfl) ?_
  refine lv_iload_n hx hb dJ6_bitCount_0f7a4_35 rfl (lv_at hl 0 rfl) ?_
  refine lv_bipush (v := (nI 8)) hx hb dJ6_bitCount_0f7a4_36 (by decide) ?_
  refine x_iushr hx hb dJ6_bitCount_0f7a4_38 ?_
  refine lv_iadd hx hb dJ6_bitCount_0f7a4_39 ?_
  refine lv_istore_n (lv' := [(0, .int ((((((p0 - ((xushr p0 (nI 1)) &&& (nI 1431655765))) &&& (nI 858993459)) + ((xushr (p0 - ((xushr p0 (nI 1)) &&& (nI 1431655765))) (nI 2)) &&& (nI 858993459))) + (xushr (((p0 - ((xushr p0 (nI 1)) &&& (nI 1431655765))) &&& (nI 858993459)) + ((xushr (p0 - ((xushr p0 (nI 1)) &&& (nI 1431655765))) (nI 2)) &&& (nI 858993459))) (nI 4))) &&& (nI 252645135)) + (xushr (((((p0 - ((xushr p0 (nI 1)) &&& (nI 1431655765))) &&& (nI 858993459)) + ((xushr (p0 - ((xushr p0 (nI 1)) &&& (nI 1431655765))) (nI 2)) &&& (nI 858993459))) + (xushr (((p0 - ((xushr p0 (nI 1)) &&& (nI 1431655765))) &&& (nI 858993459)) + ((xushr (p0 - ((xushr p0 (nI 1)) &&& (nI 1431655765))) (nI 2)) &&& (nI 858993459))) (nI 4))) &&& (nI 252645135)) (nI 8))))]) hx hb dJ6_bitCount_0f7a4_40 rfl hl (by decide) rfl (fun ls hl => ?_)
  refine lv_iload_n hx hb dJ6_bitCount_0f7a4_41 rfl (lv_at hl 0 rfl) ?_
  refine lv_iload_n hx hb dJ6_bitCount_0f7a4_42 rfl (lv_at hl 0 rfl) ?_
  refine lv_bipush (v := (nI 16)) hx hb dJ6_bitCount_0f7a4_43 (by decide) ?_
  refine x_iushr hx hb dJ6_bitCount_0f7a4_45 ?_
  refine lv_iadd hx hb dJ6_bitCount_0f7a4_46 ?_
  refine lv_istore_n (lv' := [(0, .int (((((((p0 - ((xushr p0 (nI 1)) &&& (nI 1431655765))) &&& (nI 858993459)) + ((xushr (p0 - ((xushr p0 (nI 1)) &&& (nI 1431655765))) (nI 2)) &&& (nI 858993459))) + (xushr (((p0 - ((xushr p0 (nI 1)) &&& (nI 1431655765))) &&& (nI 858993459)) + ((xushr (p0 - ((xushr p0 (nI 1)) &&& (nI 1431655765))) (nI 2)) &&& (nI 858993459))) (nI 4))) &&& (nI 252645135)) + (xushr (((((p0 - ((xushr p0 (nI 1)) &&& (nI 1431655765))) &&& (nI 858993459)) + ((xushr (p0 - ((xushr p0 (nI 1)) &&& (nI 1431655765))) (nI 2)) &&& (nI 858993459))) + (xushr (((p0 - ((xushr p0 (nI 1)) &&& (nI 1431655765))) &&& (nI 858993459)) + ((xushr (p0 - ((xushr p0 (nI 1)) &&& (nI 1431655765))) (nI 2)) &&& (nI 858993459))) (nI 4))) &&& (nI 252645135)) (nI 8))) + (xushr ((((((p0 - ((xushr p0 (nI 1)) &&& (nI 1431655765))) &&& (nI 858993459)) + ((xushr (p0 - ((xushr p0 (nI 1)) &&& (nI 1431655765))) (nI 2)) &&& (nI 858993459))) + (xushr (((p0 - ((xushr p0 (nI 1)) &&& (nI 1431655765))) &&& (nI 858993459)) + ((xushr (p0 - ((xushr p0 (nI 1)) &&& (nI 1431655765))) (nI 2)) &&& (nI 858993459))) (nI 4))) &&& (nI 252645135)) + (xushr (((((p0 - ((xushr p0 (nI 1)) &&& (nI 1431655765))) &&& (nI 858993459)) + ((xushr (p0 - ((xushr p0 (nI 1)) &&& (nI 1431655765))) (nI 2)) &&& (nI 858993459))) + (xushr (((p0 - ((xushr p0 (nI 1)) &&& (nI 1431655765))) &&& (nI 858993459)) + ((xushr (p0 - ((xushr p0 (nI 1)) &&& (nI 1431655765))) (nI 2)) &&& (nI 858993459))) (nI 4))) &&& (nI 252645135)) (nI 8))) (nI 16))))]) hx hb dJ6_bitCount_0f7a4_47 rfl hl (by decide) rfl (fun ls hl => ?_)
  refine lv_iload_n hx hb dJ6_bitCount_0f7a4_48 rfl (lv_at hl 0 rfl) ?_
  refine lv_bipush (v := (nI 63)) hx hb dJ6_bitCount_0f7a4_49 (by decide) ?_
  refine lv_iand hx hb dJ6_bitCount_0f7a4_51 ?_
  exact x_reti hC hr hlk trivial hf dJ6_bitCount_0f7a4_52
def f_X0_loudestRing_L8 (v_inForce : Int32) (v_depth : Int32) (v_laws_count : Int32) (v_laws_kinds : (Nat → Int32)) (v_laws_tunes : (Nat → Int32)) (p1 : Int32) (p2 : Int32) (s8 : Int32 × Int32 × Int32) : Option ((Int32) ⊕ (Int32 × Int32 × Int32)) :=
  if (xshl (nI 1) p1) ≤ s8.2.2 then
    some (.inl s8.1)
  else
  (f_J6_bitCount_0f7a4 s8.2.2).bind fun u2 =>
  if u2 = p2 then
    (f_X0_sounds v_inForce v_depth v_laws_count v_laws_kinds v_laws_tunes (Int32.toInt64 s8.2.2) p1 (nI 0)).bind fun u4 =>
    (f_J13_bitCount_95d88 u4).bind fun u5 =>
    if u5 ≤ s8.2.1 then
      some (.inr (s8.1, s8.2.1, s8.2.2 + (nI 1)))
    else
    some (.inr (s8.2.2, u5, s8.2.2 + (nI 1)))
  else
  some (.inr (s8.1, s8.2.1, s8.2.2 + (nI 1)))
def f_X0_loudestRing (v_inForce : Int32) (v_depth : Int32) (v_laws_count : Int32) (v_laws_kinds : (Nat → Int32)) (v_laws_tunes : (Nat → Int32)) (p1 : Int32) (p2 : Int32) : Option (Int32) :=
  xloop (f_X0_loudestRing_L8 v_inForce v_depth v_laws_count v_laws_kinds v_laws_tunes p1 p2) xN ((-1 : Int32), (-1 : Int32), (nI 0))
set_option maxHeartbeats 4000000 in
set_option maxRecDepth 100000 in
theorem c_X0_loudestRing {l : Launch} {X : xG} {h0 h1 h2 h3 g0 : Nat} {v_inForce : Int32} {v_depth : Int32} {v_miss : Int32} {v_ring : Int64} {v_steps : Int32} {v_seed : Int32} {v_laws_count : Int32} {v_laws_kinds : (Nat → Int32)} {v_laws_tunes : (Nat → Int32)} {p1 : Int32} {p2 : Int32} {u : Int32} (hf : f_X0_loudestRing v_inForce v_depth v_laws_count v_laws_kinds v_laws_tunes p1 p2 = some u) : Met l yX0_loudestRing (xw yX0_loudestRing cX0_loudestRing 7 (some .int)) (xrm 5 128) (xPc [.ref h0, .int p1, .int p2] X [(h0, xO 0 [.ref h1, .ref g0, .int v_inForce, .int v_depth, .int v_miss, .long v_ring, .int v_steps, .int v_seed]), (h1, xO 2 [.ref h2, .ref h3, .int v_laws_count]), (h2, xI X 6 v_laws_kinds), (h3, xI X 6 v_laws_tunes)]) (xQ True (.returned (some (.int u)))) 0 0 xNo := by
  refine xMet (n := 2) md_X0_loudestRing.1 (Nat.le_of_ble_eq_true rfl) ?_
  intro p e s m args below meth c ls A hC hr hlk hH hl
  have hl : lv_has ls 7 [(0, .ref h0), (1, .int p1), (2, .int p2)] := hl
  have hx := hC.1
  have hb := hC.2.1
  have L8 : ∀ (n : Nat) (s8 : Int32 × Int32 × Int32), xloop (f_X0_loudestRing_L8 v_inForce v_depth v_laws_count v_laws_kinds v_laws_tunes p1 p2) n s8 = some u → ∀ (ls : Array Slot), lv_has ls 7 [(0, .ref h0), (1, .int p1), (2, .int p2), (3, .int s8.1), (4, .int s8.2.1), (5, .int s8.2.2)] → W p l e (xrm 5 128) s m args below meth c s.heap [] 0 0 (MQ below (xQ True (.returned (some (.int u)))) args s 0 0 xNo) (F0 m 8 ls []) := by
    intro  n
    induction n with
    | zero => intro s8 hf; exact xloop_0 hf
    | succ n ih8 =>
      intro s8 hf ls hl
      obtain ⟨o8, hf, ho8⟩ := xloop_s hf
      refine lv_iload hx hb dX0_loudestRing_8 (lv_at hl 5 rfl) ?_
      refine lv_iconst (v := (nI 1)) hx hb dX0_loudestRing_10 (by decide) ?_
      refine lv_iload_n hx hb dX0_loudestRing_11 rfl (lv_at hl 1 rfl) ?_
      refine x_ishl hx hb dX0_loudestRing_12 ?_
      refine lv_icmp_ge (tgt := 59) hx hb dX0_loudestRing_13 (by decide) (fun c1 => ?_) (fun c1 => ?_)
      · have hf := xt c1 hf
        refine lv_iload_n hx hb dX0_loudestRing_59 rfl (lv_at hl 3 rfl) ?_
        have hf := xo_ret hf ho8
        exact x_reti hC hr hlk trivial hf dX0_loudestRing_60
      · have hf := xe c1 hf
        refine lv_iload hx hb dX0_loudestRing_16 (lv_at hl 5 rfl) ?_
        obtain ⟨u2, hf2, hf⟩ := xb hf
        refine x_ran (x_runS (rest := []) (As := [.int s8.2.2]) hC mw_1069 md_J6_bitCount_0f7a4 (c_J6_bitCount_0f7a4 (X := X) hf2) hH [] rfl (by decide) hl.1 rfl rfl (Nat.le_of_ble_eq_true rfl) dX0_loudestRing_18 ⟨Nat.le_of_ble_eq_true rfl, Nat.le_of_ble_eq_true rfl⟩ ⟨rfl, rfl⟩ ⟨Nat.le_refl _, Nat.le_refl _⟩) rfl (fun hz2 => ?_)
        refine lv_iload_n hx hb dX0_loudestRing_21 rfl (lv_at hl 2 rfl) ?_
        refine lv_icmp_ne (tgt := 53) hx hb dX0_loudestRing_22 (by decide) (fun c3 => ?_) (fun c3 => ?_)
        · have hf := xe c3 hf
          refine lv_iinc (v := s8.2.2 + (nI 1)) (lv' := [(5, .int (s8.2.2 + (nI 1))), (0, .ref h0), (1, .int p1), (2, .int p2), (3, .int s8.1), (4, .int s8.2.1)]) hx hb dX0_loudestRing_53 hl (k := 5) rfl rfl (by decide) rfl (fun ls hl => ?_)
          refine lv_goto (tgt := 8) hx hb dX0_loudestRing_56 (by decide) ?_
          have hf := xo_go hf ho8
          exact ih8 (s8.1, s8.2.1, s8.2.2 + (nI 1)) hf ls (lv_sub hl [1, 2, 3, 4, 5, 0] rfl)
        · have hf := xt c3 hf
          refine lv_aload_n hx hb dX0_loudestRing_25 rfl (lv_at hl 0 rfl) ?_
          refine lv_iload hx hb dX0_loudestRing_26 (lv_at hl 5 rfl) ?_
          refine lv_i2l hx hb dX0_loudestRing_28 rfl ?_
          refine lv_iload_n hx hb dX0_loudestRing_29 rfl (lv_at hl 1 rfl) ?_
          refine lv_iconst (v := (nI 0)) hx hb dX0_loudestRing_30 (by decide) ?_
          obtain ⟨u4, hf4, hf⟩ := xb hf
          refine x_ran (x_runV (q0 := 0) (rest := []) (As := [.long (Int32.toInt64 s8.2.2), .int p1, .int (nI 0)]) hC mw_1070 md_X0_sounds (c_X0_sounds (X := X) hf4) hH [0, 1, 2, 3] rfl (by decide) rfl rfl rfl hl.1 rfl rfl (Nat.le_of_ble_eq_true rfl) dX0_loudestRing_31 ⟨Nat.le_of_ble_eq_true rfl, Nat.le_of_ble_eq_true rfl⟩ ⟨rfl, rfl⟩ ⟨Nat.le_refl _, Nat.le_refl _⟩) rfl (fun hz4 => ?_)
          obtain ⟨u5, hf5, hf⟩ := xb hf
          refine x_ran (x_runS (rest := []) (As := [.long u4]) hC mw_315 md_J13_bitCount_95d88 (c_J13_bitCount_95d88 (X := X) hf5) hH [] rfl (by decide) hl.1 rfl rfl (Nat.le_of_ble_eq_true rfl) dX0_loudestRing_34 ⟨Nat.le_of_ble_eq_true rfl, Nat.le_of_ble_eq_true rfl⟩ ⟨rfl, rfl⟩ ⟨Nat.le_refl _, Nat.le_refl _⟩) rfl (fun hz5 => ?_)
          refine lv_istore (lv' := [(6, .int u5), (0, .ref h0), (1, .int p1), (2, .int p2), (3, .int s8.1), (4, .int s8.2.1), (5, .int s8.2.2)]) hx hb dX0_loudestRing_37 hl (by decide) rfl (fun ls hl => ?_)
          refine lv_iload hx hb dX0_loudestRing_39 (lv_at hl 0 rfl) ?_
          refine lv_iload hx hb dX0_loudestRing_41 (lv_at hl 5 rfl) ?_
          refine lv_icmp_le (tgt := 53) hx hb dX0_loudestRing_43 (by decide) (fun c6 => ?_) (fun c6 => ?_)
          · have hf := xt c6 hf
            refine lv_iinc (v := s8.2.2 + (nI 1)) (lv' := [(5, .int (s8.2.2 + (nI 1))), (6, .int u5), (0, .ref h0), (1, .int p1), (2, .int p2), (3, .int s8.1), (4, .int s8.2.1)]) hx hb dX0_loudestRing_53 hl (k := 6) rfl rfl (by decide) rfl (fun ls hl => ?_)
            refine lv_goto (tgt := 8) hx hb dX0_loudestRing_56 (by decide) ?_
            have hf := xo_go hf ho8
            exact ih8 (s8.1, s8.2.1, s8.2.2 + (nI 1)) hf ls (lv_sub hl [2, 3, 4, 5, 6, 0] rfl)
          · have hf := xe c6 hf
            refine lv_iload hx hb dX0_loudestRing_46 (lv_at hl 6 rfl) ?_
            refine lv_istore_n (lv' := [(3, .int s8.2.2), (6, .int u5), (0, .ref h0), (1, .int p1), (2, .int p2), (4, .int s8.2.1), (5, .int s8.2.2)]) hx hb dX0_loudestRing_48 rfl hl (by decide) rfl (fun ls hl => ?_)
            refine lv_iload hx hb dX0_loudestRing_49 (lv_at hl 1 rfl) ?_
            refine lv_istore (lv' := [(4, .int u5), (3, .int s8.2.2), (6, .int u5), (0, .ref h0), (1, .int p1), (2, .int p2), (5, .int s8.2.2)]) hx hb dX0_loudestRing_51 hl (by decide) rfl (fun ls hl => ?_)
            refine lv_iinc (v := s8.2.2 + (nI 1)) (lv' := [(5, .int (s8.2.2 + (nI 1))), (4, .int u5), (3, .int s8.2.2), (6, .int u5), (0, .ref h0), (1, .int p1), (2, .int p2)]) hx hb dX0_loudestRing_53 hl (k := 6) rfl rfl (by decide) rfl (fun ls hl => ?_)
            refine lv_goto (tgt := 8) hx hb dX0_loudestRing_56 (by decide) ?_
            have hf := xo_go hf ho8
            exact ih8 (s8.2.2, u5, s8.2.2 + (nI 1)) hf ls (lv_sub hl [4, 5, 6, 2, 1, 0] rfl)
  refine lv_iconst (v := (-1 : Int32)) hx hb dX0_loudestRing_0 (by decide) ?_
  refine lv_istore_n (lv' := [(3, .int (-1 : Int32)), (0, .ref h0), (1, .int p1), (2, .int p2)]) hx hb dX0_loudestRing_1 rfl hl (by decide) rfl (fun ls hl => ?_)
  refine lv_iconst (v := (-1 : Int32)) hx hb dX0_loudestRing_2 (by decide) ?_
  refine lv_istore (lv' := [(4, .int (-1 : Int32)), (3, .int (-1 : Int32)), (0, .ref h0), (1, .int p1), (2, .int p2)]) hx hb dX0_loudestRing_3 hl (by decide) rfl (fun ls hl => ?_)
  refine lv_iconst (v := (nI 0)) hx hb dX0_loudestRing_5 (by decide) ?_
  refine lv_istore (lv' := [(5, .int (nI 0)), (4, .int (-1 : Int32)), (3, .int (-1 : Int32)), (0, .ref h0), (1, .int p1), (2, .int p2)]) hx hb dX0_loudestRing_6 hl (by decide) rfl (fun ls hl => ?_)
  exact L8 xN ((-1 : Int32), (-1 : Int32), (nI 0)) hf ls (lv_sub hl [3, 4, 5, 2, 1, 0] rfl)
def f_X0_leastRingHeardAt_L10 (v_inForce : Int32) (v_depth : Int32) (v_laws_count : Int32) (v_laws_kinds : (Nat → Int32)) (v_laws_tunes : (Nat → Int32)) (p1 : Int32) (p2 : Int32) (s10 : Int32 × Int32 × Int32) : Option ((Int32) ⊕ (Int32 × Int32 × Int32)) :=
  if (xshl (nI 1) p1) ≤ s10.2.2 then
    some (.inl s10.1)
  else
  (f_J6_bitCount_0f7a4 s10.2.2).bind fun u2 =>
  if s10.2.1 ≤ u2 then
    some (.inr (s10.1, s10.2.1, s10.2.2 + (nI 1)))
  else
  (f_X0_sounds v_inForce v_depth v_laws_count v_laws_kinds v_laws_tunes (Int32.toInt64 s10.2.2) p1 (nI 0)).bind fun u4 =>
  if (xcmp u4 (Int32.toInt64 p2)) = (nI 0) then
    some (.inr (s10.2.2, u2, s10.2.2 + (nI 1)))
  else
  some (.inr (s10.1, s10.2.1, s10.2.2 + (nI 1)))
def f_X0_leastRingHeardAt (v_inForce : Int32) (v_depth : Int32) (v_laws_count : Int32) (v_laws_kinds : (Nat → Int32)) (v_laws_tunes : (Nat → Int32)) (p1 : Int32) (p2 : Int32) : Option (Int32) :=
  xloop (f_X0_leastRingHeardAt_L10 v_inForce v_depth v_laws_count v_laws_kinds v_laws_tunes p1 p2) xN ((-1 : Int32), p1 + (nI 1), (nI 0))
set_option maxHeartbeats 4000000 in
set_option maxRecDepth 100000 in
theorem c_X0_leastRingHeardAt {l : Launch} {X : xG} {h0 h1 h2 h3 g0 : Nat} {v_inForce : Int32} {v_depth : Int32} {v_miss : Int32} {v_ring : Int64} {v_steps : Int32} {v_seed : Int32} {v_laws_count : Int32} {v_laws_kinds : (Nat → Int32)} {v_laws_tunes : (Nat → Int32)} {p1 : Int32} {p2 : Int32} {u : Int32} (hf : f_X0_leastRingHeardAt v_inForce v_depth v_laws_count v_laws_kinds v_laws_tunes p1 p2 = some u) : Met l yX0_leastRingHeardAt (xw yX0_leastRingHeardAt cX0_leastRingHeardAt 7 (some .int)) (xrm 5 128) (xPc [.ref h0, .int p1, .int p2] X [(h0, xO 0 [.ref h1, .ref g0, .int v_inForce, .int v_depth, .int v_miss, .long v_ring, .int v_steps, .int v_seed]), (h1, xO 2 [.ref h2, .ref h3, .int v_laws_count]), (h2, xI X 6 v_laws_kinds), (h3, xI X 6 v_laws_tunes)]) (xQ True (.returned (some (.int u)))) 0 0 xNo := by
  refine xMet (n := 2) md_X0_leastRingHeardAt.1 (Nat.le_of_ble_eq_true rfl) ?_
  intro p e s m args below meth c ls A hC hr hlk hH hl
  have hl : lv_has ls 7 [(0, .ref h0), (1, .int p1), (2, .int p2)] := hl
  have hx := hC.1
  have hb := hC.2.1
  have L10 : ∀ (n : Nat) (s10 : Int32 × Int32 × Int32), xloop (f_X0_leastRingHeardAt_L10 v_inForce v_depth v_laws_count v_laws_kinds v_laws_tunes p1 p2) n s10 = some u → ∀ (ls : Array Slot), lv_has ls 7 [(0, .ref h0), (1, .int p1), (2, .int p2), (3, .int s10.1), (4, .int s10.2.1), (5, .int s10.2.2)] → W p l e (xrm 5 128) s m args below meth c s.heap [] 0 0 (MQ below (xQ True (.returned (some (.int u)))) args s 0 0 xNo) (F0 m 10 ls []) := by
    intro  n
    induction n with
    | zero => intro s10 hf; exact xloop_0 hf
    | succ n ih10 =>
      intro s10 hf ls hl
      obtain ⟨o10, hf, ho10⟩ := xloop_s hf
      refine lv_iload hx hb dX0_leastRingHeardAt_10 (lv_at hl 5 rfl) ?_
      refine lv_iconst (v := (nI 1)) hx hb dX0_leastRingHeardAt_12 (by decide) ?_
      refine lv_iload_n hx hb dX0_leastRingHeardAt_13 rfl (lv_at hl 1 rfl) ?_
      refine x_ishl hx hb dX0_leastRingHeardAt_14 ?_
      refine lv_icmp_ge (tgt := 60) hx hb dX0_leastRingHeardAt_15 (by decide) (fun c1 => ?_) (fun c1 => ?_)
      · have hf := xt c1 hf
        refine lv_iload_n hx hb dX0_leastRingHeardAt_60 rfl (lv_at hl 3 rfl) ?_
        have hf := xo_ret hf ho10
        exact x_reti hC hr hlk trivial hf dX0_leastRingHeardAt_61
      · have hf := xe c1 hf
        refine lv_iload hx hb dX0_leastRingHeardAt_18 (lv_at hl 5 rfl) ?_
        obtain ⟨u2, hf2, hf⟩ := xb hf
        refine x_ran (x_runS (rest := []) (As := [.int s10.2.2]) hC mw_1069 md_J6_bitCount_0f7a4 (c_J6_bitCount_0f7a4 (X := X) hf2) hH [] rfl (by decide) hl.1 rfl rfl (Nat.le_of_ble_eq_true rfl) dX0_leastRingHeardAt_20 ⟨Nat.le_of_ble_eq_true rfl, Nat.le_of_ble_eq_true rfl⟩ ⟨rfl, rfl⟩ ⟨Nat.le_refl _, Nat.le_refl _⟩) rfl (fun hz2 => ?_)
        refine lv_istore (lv' := [(6, .int u2), (0, .ref h0), (1, .int p1), (2, .int p2), (3, .int s10.1), (4, .int s10.2.1), (5, .int s10.2.2)]) hx hb dX0_leastRingHeardAt_23 hl (by decide) rfl (fun ls hl => ?_)
        refine lv_iload hx hb dX0_leastRingHeardAt_25 (lv_at hl 0 rfl) ?_
        refine lv_iload hx hb dX0_leastRingHeardAt_27 (lv_at hl 5 rfl) ?_
        refine lv_icmp_ge (tgt := 54) hx hb dX0_leastRingHeardAt_29 (by decide) (fun c3 => ?_) (fun c3 => ?_)
        · have hf := xt c3 hf
          refine lv_iinc (v := s10.2.2 + (nI 1)) (lv' := [(5, .int (s10.2.2 + (nI 1))), (6, .int u2), (0, .ref h0), (1, .int p1), (2, .int p2), (3, .int s10.1), (4, .int s10.2.1)]) hx hb dX0_leastRingHeardAt_54 hl (k := 6) rfl rfl (by decide) rfl (fun ls hl => ?_)
          refine lv_goto (tgt := 10) hx hb dX0_leastRingHeardAt_57 (by decide) ?_
          have hf := xo_go hf ho10
          exact ih10 (s10.1, s10.2.1, s10.2.2 + (nI 1)) hf ls (lv_sub hl [2, 3, 4, 5, 6, 0] rfl)
        · have hf := xe c3 hf
          refine lv_aload_n hx hb dX0_leastRingHeardAt_32 rfl (lv_at hl 1 rfl) ?_
          refine lv_iload hx hb dX0_leastRingHeardAt_33 (lv_at hl 6 rfl) ?_
          refine lv_i2l hx hb dX0_leastRingHeardAt_35 rfl ?_
          refine lv_iload_n hx hb dX0_leastRingHeardAt_36 rfl (lv_at hl 2 rfl) ?_
          refine lv_iconst (v := (nI 0)) hx hb dX0_leastRingHeardAt_37 (by decide) ?_
          obtain ⟨u4, hf4, hf⟩ := xb hf
          refine x_ran (x_runV (q0 := 0) (rest := []) (As := [.long (Int32.toInt64 s10.2.2), .int p1, .int (nI 0)]) hC mw_1070 md_X0_sounds (c_X0_sounds (X := X) hf4) hH [0, 1, 2, 3] rfl (by decide) rfl rfl rfl hl.1 rfl rfl (Nat.le_of_ble_eq_true rfl) dX0_leastRingHeardAt_38 ⟨Nat.le_of_ble_eq_true rfl, Nat.le_of_ble_eq_true rfl⟩ ⟨rfl, rfl⟩ ⟨Nat.le_refl _, Nat.le_refl _⟩) rfl (fun hz4 => ?_)
          refine lv_iload_n hx hb dX0_leastRingHeardAt_41 rfl (lv_at hl 3 rfl) ?_
          refine lv_i2l hx hb dX0_leastRingHeardAt_42 rfl ?_
          refine x_lcmp hx hb dX0_leastRingHeardAt_43 ?_
          refine lv_if_ne (tgt := 54) hx hb dX0_leastRingHeardAt_44 (by decide) (fun c5 => ?_) (fun c5 => ?_)
          · have hf := xe c5 hf
            refine lv_iinc (v := s10.2.2 + (nI 1)) (lv' := [(5, .int (s10.2.2 + (nI 1))), (6, .int u2), (0, .ref h0), (1, .int p1), (2, .int p2), (3, .int s10.1), (4, .int s10.2.1)]) hx hb dX0_leastRingHeardAt_54 hl (k := 6) rfl rfl (by decide) rfl (fun ls hl => ?_)
            refine lv_goto (tgt := 10) hx hb dX0_leastRingHeardAt_57 (by decide) ?_
            have hf := xo_go hf ho10
            exact ih10 (s10.1, s10.2.1, s10.2.2 + (nI 1)) hf ls (lv_sub hl [2, 3, 4, 5, 6, 0] rfl)
          · have hf := xt c5 hf
            refine lv_iload hx hb dX0_leastRingHeardAt_47 (lv_at hl 6 rfl) ?_
            refine lv_istore_n (lv' := [(3, .int s10.2.2), (6, .int u2), (0, .ref h0), (1, .int p1), (2, .int p2), (4, .int s10.2.1), (5, .int s10.2.2)]) hx hb dX0_leastRingHeardAt_49 rfl hl (by decide) rfl (fun ls hl => ?_)
            refine lv_iload hx hb dX0_leastRingHeardAt_50 (lv_at hl 1 rfl) ?_
            refine lv_istore (lv' := [(4, .int u2), (3, .int s10.2.2), (6, .int u2), (0, .ref h0), (1, .int p1), (2, .int p2), (5, .int s10.2.2)]) hx hb dX0_leastRingHeardAt_52 hl (by decide) rfl (fun ls hl => ?_)
            refine lv_iinc (v := s10.2.2 + (nI 1)) (lv' := [(5, .int (s10.2.2 + (nI 1))), (4, .int u2), (3, .int s10.2.2), (6, .int u2), (0, .ref h0), (1, .int p1), (2, .int p2)]) hx hb dX0_leastRingHeardAt_54 hl (k := 6) rfl rfl (by decide) rfl (fun ls hl => ?_)
            refine lv_goto (tgt := 10) hx hb dX0_leastRingHeardAt_57 (by decide) ?_
            have hf := xo_go hf ho10
            exact ih10 (s10.2.2, u2, s10.2.2 + (nI 1)) hf ls (lv_sub hl [4, 5, 6, 2, 1, 0] rfl)
  refine lv_iconst (v := (-1 : Int32)) hx hb dX0_leastRingHeardAt_0 (by decide) ?_
  refine lv_istore_n (lv' := [(3, .int (-1 : Int32)), (0, .ref h0), (1, .int p1), (2, .int p2)]) hx hb dX0_leastRingHeardAt_1 rfl hl (by decide) rfl (fun ls hl => ?_)
  refine lv_iload_n hx hb dX0_leastRingHeardAt_2 rfl (lv_at hl 2 rfl) ?_
  refine lv_iconst (v := (nI 1)) hx hb dX0_leastRingHeardAt_3 (by decide) ?_
  refine lv_iadd hx hb dX0_leastRingHeardAt_4 ?_
  refine lv_istore (lv' := [(4, .int (p1 + (nI 1))), (3, .int (-1 : Int32)), (0, .ref h0), (1, .int p1), (2, .int p2)]) hx hb dX0_leastRingHeardAt_5 hl (by decide) rfl (fun ls hl => ?_)
  refine lv_iconst (v := (nI 0)) hx hb dX0_leastRingHeardAt_7 (by decide) ?_
  refine lv_istore (lv' := [(5, .int (nI 0)), (4, .int (p1 + (nI 1))), (3, .int (-1 : Int32)), (0, .ref h0), (1, .int p1), (2, .int p2)]) hx hb dX0_leastRingHeardAt_8 hl (by decide) rfl (fun ls hl => ?_)
  exact L10 xN ((-1 : Int32), p1 + (nI 1), (nI 0)) hf ls (lv_sub hl [3, 4, 5, 2, 1, 0] rfl)
def f_X0_draw (v_seed : Int32) (p1 : Int32) : Option (Int32 × Int32) :=
  if p1 ≤ (nI 0) then
    some ((nI 0), (v_seed * (nI 1103515245)) + (nI 12345))
  else
  if p1 = nI 0 then none else
  some (xrem (xushr ((v_seed * (nI 1103515245)) + (nI 12345)) (nI 16)) p1, (v_seed * (nI 1103515245)) + (nI 12345))
set_option maxHeartbeats 4000000 in
set_option maxRecDepth 100000 in
theorem c_X0_draw {l : Launch} {X : xG} {h0 g0 g1 : Nat} {v_inForce : Int32} {v_depth : Int32} {v_miss : Int32} {v_ring : Int64} {v_steps : Int32} {v_seed : Int32} {p1 : Int32} {u : Int32 × Int32} (hf : f_X0_draw v_seed p1 = some u) : Met l yX0_draw (xw yX0_draw cX0_draw 2 (some .int)) (xrm 0 0) (xPc [.ref h0, .int p1] X [(h0, xO 0 [.ref g0, .ref g1, .int v_inForce, .int v_depth, .int v_miss, .long v_ring, .int v_steps, .int v_seed])]) (xQw True (.returned (some (.int u.1))) X [(h0, xO 0 [.ref g0, .ref g1, .int v_inForce, .int v_depth, .int v_miss, .long v_ring, .int v_steps, .int u.2])] (xAs [(h0, xO 0 [.ref g0, .ref g1, .int v_inForce, .int v_depth, .int v_miss, .long v_ring, .int v_steps, .int v_seed])])) 0 0 (xAs [(h0, xO 0 [.ref g0, .ref g1, .int v_inForce, .int v_depth, .int v_miss, .long v_ring, .int v_steps, .int v_seed])]) := by
  refine xMetw (Qc := fun A => xQw True (.returned (some (.int u.1))) X [(h0, xO 0 [.ref g0, .ref g1, .int v_inForce, .int v_depth, .int v_miss, .long v_ring, .int v_steps, .int u.2])] A) (n := 1) md_X0_draw.1 (Nat.le_of_ble_eq_true rfl) ?_
  intro p e s m args below meth c ls A hC hr hlk hH hl
  have hl : lv_has ls 2 [(0, .ref h0), (1, .int p1)] := hl
  have hx := hC.1
  have hb := hC.2.1
  refine lv_aload_n hx hb dX0_draw_0 rfl (lv_at hl 0 rfl) ?_
  refine lv_aload_n hx hb dX0_draw_1 rfl (lv_at hl 0 rfl) ?_
  refine x_get hC fd_RX0_29 hH.1 0 rfl rfl dX0_draw_2 ?_
  refine lv_ldc (v := (nI 1103515245)) hx hb hC.2.2.2.1 (hC.2.2.2.2.1 _ mw_1298) dX0_draw_5 ?_
  refine lv_imul hx hb dX0_draw_7 ?_
  refine lv_sipush (v := (nI 12345)) hx hb dX0_draw_8 (by decide) ?_
  refine lv_iadd hx hb dX0_draw_11 ?_
  refine x_put (ws' := [(h0, xO 0 [.ref g0, .ref g1, .int v_inForce, .int v_depth, .int v_miss, .long v_ring, .int v_steps, .int ((v_seed * (nI 1103515245)) + (nI 12345))])]) hC fd_RX0_29 hH 0 rfl (Nat.le_of_ble_eq_true rfl) rfl rfl dX0_draw_12 rfl (fun H locs hH => ?_)
  refine lv_iload_n hx hb dX0_draw_15 rfl (lv_at hl 1 rfl) ?_
  refine lv_if_le (tgt := 31) hx hb dX0_draw_16 (by decide) (fun c1 => ?_) (fun c1 => ?_)
  · have hf := xt c1 hf
    refine lv_iconst (v := (nI 0)) hx hb dX0_draw_31 (by decide) ?_
    exact x_retiw (φ := fun _ => True) (f := fun u : Int32 × Int32 => u.1) (wf := fun u : Int32 × Int32 => [(h0, xO 0 [.ref g0, .ref g1, .int v_inForce, .int v_depth, .int v_miss, .long v_ring, .int v_steps, .int u.2])]) hC hr hlk trivial hf hH rfl rfl dX0_draw_32
  · have hf := xe c1 hf
    refine lv_aload_n hx hb dX0_draw_19 rfl (lv_at hl 0 rfl) ?_
    refine x_get hC fd_RX0_29 hH.1 0 rfl rfl dX0_draw_20 ?_
    refine lv_bipush (v := (nI 16)) hx hb dX0_draw_23 (by decide) ?_
    refine x_iushr hx hb dX0_draw_25 ?_
    refine lv_iload_n hx hb dX0_draw_26 rfl (lv_at hl 1 rfl) ?_
    obtain ⟨n2, hf⟩ := xok hf
    refine x_irem hx hb dX0_draw_27 n2 ?_
    refine lv_goto (tgt := 32) hx hb dX0_draw_28 (by decide) ?_
    exact x_retiw (φ := fun _ => True) (f := fun u : Int32 × Int32 => u.1) (wf := fun u : Int32 × Int32 => [(h0, xO 0 [.ref g0, .ref g1, .int v_inForce, .int v_depth, .int v_miss, .long v_ring, .int v_steps, .int u.2])]) hC hr hlk trivial hf hH rfl rfl dX0_draw_32
def f_X0_strikesInTruth (v_inForce : Int32) (v_miss : Int32) (v_ring : Int64) (v_steps : Int32) (v_seed : Int32) (v_laws_count : Int32) (v_laws_kinds : (Nat → Int32)) (v_laws_tunes : (Nat → Int32)) (p1 : Int32) : Option (Int32 × Int64 × Int32 × Int32) :=
  (f_X0_addStep v_ring v_steps p1).bind fun u1 =>
  (f_X0_wouldStrike v_inForce u1.1 u1.2 v_laws_count v_laws_kinds v_laws_tunes (u1.2 - (nI 1))).bind fun u2 =>
  if u2 = (nI 0) then
    some ((nI 0), u1.1, u1.2, v_seed)
  else
  (f_X0_draw v_seed (nI 100)).bind fun u4 =>
  if u4.1 < v_miss then
    some ((nI 0), u1.1, u1.2, u4.2)
  else
  some ((nI 1), u1.1, u1.2, u4.2)
set_option maxHeartbeats 4000000 in
set_option maxRecDepth 100000 in
theorem c_X0_strikesInTruth {l : Launch} {X : xG} {h0 h1 h2 h3 g0 : Nat} {v_inForce : Int32} {v_depth : Int32} {v_miss : Int32} {v_ring : Int64} {v_steps : Int32} {v_seed : Int32} {v_laws_count : Int32} {v_laws_kinds : (Nat → Int32)} {v_laws_tunes : (Nat → Int32)} {p1 : Int32} {u : Int32 × Int64 × Int32 × Int32} (hf : f_X0_strikesInTruth v_inForce v_miss v_ring v_steps v_seed v_laws_count v_laws_kinds v_laws_tunes p1 = some u) : Met l yX0_strikesInTruth (xw yX0_strikesInTruth cX0_strikesInTruth 2 (some .boolean)) (xrm 4 95) (xPc [.ref h0, .int p1] X [(h0, xO 0 [.ref h1, .ref g0, .int v_inForce, .int v_depth, .int v_miss, .long v_ring, .int v_steps, .int v_seed]), (h1, xO 2 [.ref h2, .ref h3, .int v_laws_count]), (h2, xI X 6 v_laws_kinds), (h3, xI X 6 v_laws_tunes)]) (xQw (u.1 = 0 ∨ u.1 = 1) (.returned (some (.int u.1))) X [(h0, xO 0 [.ref h1, .ref g0, .int v_inForce, .int v_depth, .int v_miss, .long u.2.1, .int u.2.2.1, .int u.2.2.2]), (h1, xO 2 [.ref h2, .ref h3, .int v_laws_count]), (h2, xI X 6 v_laws_kinds), (h3, xI X 6 v_laws_tunes)] (xAs [(h0, xO 0 [.ref h1, .ref g0, .int v_inForce, .int v_depth, .int v_miss, .long v_ring, .int v_steps, .int v_seed]), (h1, xO 2 [.ref h2, .ref h3, .int v_laws_count]), (h2, xI X 6 v_laws_kinds), (h3, xI X 6 v_laws_tunes)])) 0 0 (xAs [(h0, xO 0 [.ref h1, .ref g0, .int v_inForce, .int v_depth, .int v_miss, .long v_ring, .int v_steps, .int v_seed]), (h1, xO 2 [.ref h2, .ref h3, .int v_laws_count]), (h2, xI X 6 v_laws_kinds), (h3, xI X 6 v_laws_tunes)]) := by
  refine xMetw (Qc := fun A => xQw (u.1 = 0 ∨ u.1 = 1) (.returned (some (.int u.1))) X [(h0, xO 0 [.ref h1, .ref g0, .int v_inForce, .int v_depth, .int v_miss, .long u.2.1, .int u.2.2.1, .int u.2.2.2]), (h1, xO 2 [.ref h2, .ref h3, .int v_laws_count]), (h2, xI X 6 v_laws_kinds), (h3, xI X 6 v_laws_tunes)] A) (n := 1) md_X0_strikesInTruth.1 (Nat.le_of_ble_eq_true rfl) ?_
  intro p e s m args below meth c ls A hC hr hlk hH hl
  have hl : lv_has ls 2 [(0, .ref h0), (1, .int p1)] := hl
  have hx := hC.1
  have hb := hC.2.1
  refine lv_aload_n hx hb dX0_strikesInTruth_0 rfl (lv_at hl 0 rfl) ?_
  refine lv_iload_n hx hb dX0_strikesInTruth_1 rfl (lv_at hl 1 rfl) ?_
  obtain ⟨u1, hf1, hf⟩ := xb hf
  refine x_ranw (ws' := [(h0, xO 0 [.ref h1, .ref g0, .int v_inForce, .int v_depth, .int v_miss, .long u1.1, .int u1.2, .int v_seed]), (h1, xO 2 [.ref h2, .ref h3, .int v_laws_count]), (h2, xI X 6 v_laws_kinds), (h3, xI X 6 v_laws_tunes)]) (x_runV (q0 := 0) (rest := []) (As := [.int p1]) hC mw_1292 md_X0_addStep (c_X0_addStep (X := X) hf1) hH [0] rfl (by decide) rfl rfl rfl hl.1 rfl rfl (Nat.le_of_ble_eq_true rfl) dX0_strikesInTruth_2 ⟨Nat.le_of_ble_eq_true rfl, Nat.le_of_ble_eq_true rfl⟩ ⟨rfl, rfl⟩ ⟨Nat.le_refl _, Nat.le_refl _⟩) hH [0] rfl rfl rfl rfl rfl (fun hz1 H locs hH => ?_)
  refine lv_aload_n hx hb dX0_strikesInTruth_5 rfl (lv_at hl 0 rfl) ?_
  refine lv_aload_n hx hb dX0_strikesInTruth_6 rfl (lv_at hl 0 rfl) ?_
  refine x_get hC fd_RX0_49 hH.1 0 rfl rfl dX0_strikesInTruth_7 ?_
  refine lv_iconst (v := (nI 1)) hx hb dX0_strikesInTruth_10 (by decide) ?_
  refine lv_isub hx hb dX0_strikesInTruth_11 ?_
  obtain ⟨u2, hf2, hf⟩ := xb hf
  refine x_ran (x_runV (q0 := 0) (rest := []) (As := [.int (u1.2 - (nI 1))]) hC mw_1293 md_X0_wouldStrike (c_X0_wouldStrike (X := X) hf2) hH [0, 1, 2, 3] rfl (by decide) rfl rfl rfl hl.1 rfl rfl (Nat.le_of_ble_eq_true rfl) dX0_strikesInTruth_12 ⟨Nat.le_of_ble_eq_true rfl, Nat.le_of_ble_eq_true rfl⟩ ⟨rfl, rfl⟩ ⟨Nat.le_refl _, Nat.le_refl _⟩) rfl (fun hz2 => ?_)
  refine lv_if_eq (tgt := 35) hx hb dX0_strikesInTruth_15 (by decide) (fun c3 => ?_) (fun c3 => ?_)
  · have hf := xt c3 hf
    refine lv_iconst (v := (nI 0)) hx hb dX0_strikesInTruth_35 (by decide) ?_
    exact x_retzw (f := fun u : Int32 × Int64 × Int32 × Int32 => u.1) (wf := fun u : Int32 × Int64 × Int32 × Int32 => [(h0, xO 0 [.ref h1, .ref g0, .int v_inForce, .int v_depth, .int v_miss, .long u.2.1, .int u.2.2.1, .int u.2.2.2]), (h1, xO 2 [.ref h2, .ref h3, .int v_laws_count]), (h2, xI X 6 v_laws_kinds), (h3, xI X 6 v_laws_tunes)]) hC hr hlk (Or.inl rfl) hf hH rfl rfl dX0_strikesInTruth_36
  · have hf := xe c3 hf
    refine lv_aload_n hx hb dX0_strikesInTruth_18 rfl (lv_at hl 0 rfl) ?_
    refine lv_bipush (v := (nI 100)) hx hb dX0_strikesInTruth_19 (by decide) ?_
    obtain ⟨u4, hf4, hf⟩ := xb hf
    refine x_ranw (ws' := [(h0, xO 0 [.ref h1, .ref g0, .int v_inForce, .int v_depth, .int v_miss, .long u1.1, .int u1.2, .int u4.2]), (h1, xO 2 [.ref h2, .ref h3, .int v_laws_count]), (h2, xI X 6 v_laws_kinds), (h3, xI X 6 v_laws_tunes)]) (x_runV (q0 := 0) (rest := []) (As := [.int (nI 100)]) hC mw_1294 md_X0_draw (c_X0_draw (X := X) hf4) hH [0] rfl (by decide) rfl rfl rfl hl.1 rfl rfl (Nat.le_of_ble_eq_true rfl) dX0_strikesInTruth_21 ⟨Nat.le_of_ble_eq_true rfl, Nat.le_of_ble_eq_true rfl⟩ ⟨rfl, rfl⟩ ⟨Nat.le_refl _, Nat.le_refl _⟩) hH [0] rfl rfl rfl rfl rfl (fun hz4 H locs hH => ?_)
    refine lv_aload_n hx hb dX0_strikesInTruth_24 rfl (lv_at hl 0 rfl) ?_
    refine x_get hC fd_RX0_42 hH.1 0 rfl rfl dX0_strikesInTruth_25 ?_
    refine lv_icmp_lt (tgt := 35) hx hb dX0_strikesInTruth_28 (by decide) (fun c5 => ?_) (fun c5 => ?_)
    · have hf := xt c5 hf
      refine lv_iconst (v := (nI 0)) hx hb dX0_strikesInTruth_35 (by decide) ?_
      exact x_retzw (f := fun u : Int32 × Int64 × Int32 × Int32 => u.1) (wf := fun u : Int32 × Int64 × Int32 × Int32 => [(h0, xO 0 [.ref h1, .ref g0, .int v_inForce, .int v_depth, .int v_miss, .long u.2.1, .int u.2.2.1, .int u.2.2.2]), (h1, xO 2 [.ref h2, .ref h3, .int v_laws_count]), (h2, xI X 6 v_laws_kinds), (h3, xI X 6 v_laws_tunes)]) hC hr hlk (Or.inl rfl) hf hH rfl rfl dX0_strikesInTruth_36
    · have hf := xe c5 hf
      refine lv_iconst (v := (nI 1)) hx hb dX0_strikesInTruth_31 (by decide) ?_
      refine lv_goto (tgt := 36) hx hb dX0_strikesInTruth_32 (by decide) ?_
      exact x_retzw (f := fun u : Int32 × Int64 × Int32 × Int32 => u.1) (wf := fun u : Int32 × Int64 × Int32 × Int32 => [(h0, xO 0 [.ref h1, .ref g0, .int v_inForce, .int v_depth, .int v_miss, .long u.2.1, .int u.2.2.1, .int u.2.2.2]), (h1, xO 2 [.ref h2, .ref h3, .int v_laws_count]), (h2, xI X 6 v_laws_kinds), (h3, xI X 6 v_laws_tunes)]) hC hr hlk (Or.inr rfl) hf hH rfl rfl dX0_strikesInTruth_36
def f_X5_rewind (v_tokenEnd : Int32) : Option (Int32) :=
  some (nI 0)
set_option maxHeartbeats 4000000 in
set_option maxRecDepth 100000 in
theorem c_X5_rewind {l : Launch} {X : xG} {h0 g0 : Nat} {v_size : Int32} {v_token : Int32} {v_tokenStart : Int32} {v_tokenEnd : Int32} {u : Int32} (hf : f_X5_rewind v_tokenEnd = some u) : Met l yX5_rewind (xw yX5_rewind cX5_rewind 1 none) (xrm 0 0) (xPc [.ref h0] X [(h0, xO 5 [.ref g0, .int v_size, .int v_token, .int v_tokenStart, .int v_tokenEnd])]) (xQw True (.returned none) X [(h0, xO 5 [.ref g0, .int v_size, .int v_token, .int v_tokenStart, .int u])] (xAs [(h0, xO 5 [.ref g0, .int v_size, .int v_token, .int v_tokenStart, .int v_tokenEnd])])) 0 0 (xAs [(h0, xO 5 [.ref g0, .int v_size, .int v_token, .int v_tokenStart, .int v_tokenEnd])]) := by
  refine xMetw (Qc := fun A => xQw True (.returned none) X [(h0, xO 5 [.ref g0, .int v_size, .int v_token, .int v_tokenStart, .int u])] A) (n := 0) md_X5_rewind.1 (Nat.le_of_ble_eq_true rfl) ?_
  intro p e s m args below meth c ls A hC hr hlk hH hl
  have hl : lv_has ls 1 [(0, .ref h0)] := hl
  have hx := hC.1
  have hb := hC.2.1
  refine lv_aload_n hx hb dX5_rewind_0 rfl (lv_at hl 0 rfl) ?_
  refine lv_iconst (v := (nI 0)) hx hb dX5_rewind_1 (by decide) ?_
  refine x_put (ws' := [(h0, xO 5 [.ref g0, .int v_size, .int v_token, .int v_tokenStart, .int (nI 0)])]) hC fd_RX5_19 hH 0 rfl (Nat.le_of_ble_eq_true rfl) rfl rfl dX5_rewind_2 rfl (fun H locs hH => ?_)
  exact x_retvw (φ := fun _ => True) (wf := fun u : Int32 => [(h0, xO 5 [.ref g0, .int v_size, .int v_token, .int v_tokenStart, .int u])]) hC hr hlk trivial hf hH rfl dX5_rewind_5
def f_X5_byteAt (v_size : Int32) (v_bytes : (Nat → Int32)) (p1 : Int32) : Option (Int32) :=
  if p1 < (nI 0) then
    some (-1 : Int32)
  else
  if v_size ≤ p1 then
    some (-1 : Int32)
  else
  if (nI 250) ≤ p1 then
    some (-1 : Int32)
  else
  if xout p1 250 then none else
  some (v_bytes (xat p1))
set_option maxHeartbeats 4000000 in
set_option maxRecDepth 100000 in
theorem c_X5_byteAt {l : Launch} {X : xG} {h0 h1 : Nat} {v_size : Int32} {v_token : Int32} {v_tokenStart : Int32} {v_tokenEnd : Int32} {v_bytes : (Nat → Int32)} {p1 : Int32} {u : Int32} (hf : f_X5_byteAt v_size v_bytes p1 = some u) : Met l yX5_byteAt (xw yX5_byteAt cX5_byteAt 2 (some .int)) (xrm 0 0) (xPc [.ref h0, .int p1] X [(h0, xO 5 [.ref h1, .int v_size, .int v_token, .int v_tokenStart, .int v_tokenEnd]), (h1, xI X 250 v_bytes)]) (xQ True (.returned (some (.int u)))) 0 0 xNo := by
  refine xMet (n := 1) md_X5_byteAt.1 (Nat.le_of_ble_eq_true rfl) ?_
  intro p e s m args below meth c ls A hC hr hlk hH hl
  have hl : lv_has ls 2 [(0, .ref h0), (1, .int p1)] := hl
  have hx := hC.1
  have hb := hC.2.1
  refine lv_iload_n hx hb dX5_byteAt_0 rfl (lv_at hl 1 rfl) ?_
  refine lv_if_lt (tgt := 30) hx hb dX5_byteAt_1 (by decide) (fun c1 => ?_) (fun c1 => ?_)
  · have hf := xt c1 hf
    refine lv_iconst (v := (-1 : Int32)) hx hb dX5_byteAt_30 (by decide) ?_
    exact x_reti hC hr hlk trivial hf dX5_byteAt_31
  · have hf := xe c1 hf
    refine lv_iload_n hx hb dX5_byteAt_4 rfl (lv_at hl 1 rfl) ?_
    refine lv_aload_n hx hb dX5_byteAt_5 rfl (lv_at hl 0 rfl) ?_
    refine x_get hC fd_RX5_15 hH.1 0 rfl rfl dX5_byteAt_6 ?_
    refine lv_icmp_ge (tgt := 30) hx hb dX5_byteAt_9 (by decide) (fun c2 => ?_) (fun c2 => ?_)
    · have hf := xt c2 hf
      refine lv_iconst (v := (-1 : Int32)) hx hb dX5_byteAt_30 (by decide) ?_
      exact x_reti hC hr hlk trivial hf dX5_byteAt_31
    · have hf := xe c2 hf
      refine lv_iload_n hx hb dX5_byteAt_12 rfl (lv_at hl 1 rfl) ?_
      refine lv_aload_n hx hb dX5_byteAt_13 rfl (lv_at hl 0 rfl) ?_
      refine x_get hC fd_RX5_11 hH.1 0 rfl rfl dX5_byteAt_14 ?_
      refine x_alen hC hH.1 1 rfl (v := (nI 250)) (by decide) dX5_byteAt_17 ?_
      refine lv_icmp_ge (tgt := 30) hx hb dX5_byteAt_18 (by decide) (fun c3 => ?_) (fun c3 => ?_)
      · have hf := xt c3 hf
        refine lv_iconst (v := (-1 : Int32)) hx hb dX5_byteAt_30 (by decide) ?_
        exact x_reti hC hr hlk trivial hf dX5_byteAt_31
      · have hf := xe c3 hf
        refine lv_aload_n hx hb dX5_byteAt_21 rfl (lv_at hl 0 rfl) ?_
        refine x_get hC fd_RX5_11 hH.1 0 rfl rfl dX5_byteAt_22 ?_
        refine lv_iload_n hx hb dX5_byteAt_25 rfl (lv_at hl 1 rfl) ?_
        obtain ⟨n4, hf⟩ := xok hf
        refine x_iald hC hH.1 1 rfl n4 dX5_byteAt_26 ?_
        refine lv_goto (tgt := 31) hx hb dX5_byteAt_27 (by decide) ?_
        exact x_reti hC hr hlk trivial hf dX5_byteAt_31
