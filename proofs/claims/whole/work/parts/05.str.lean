-- the JDK's String.length and charAt, over the seven constants
def f_J0_length_8abf5 (i : Nat) : Option Int32 := if 7 ≤ i then none else some (nI (xLen.getD i 0))
def f_J0_charAt_5068e (i : Nat) (k : Int32) : Option Int32 := if 7 ≤ i then none else if xout k (xLen.getD i 0) then none else some ((xByt.getD i []).getD (xat k) 0 &&& 255)
section XSX
variable {p : Program} {l : Launch} {e : Env} {R : Room} {s : State} {m : MethodId} {args : Array Value} {below : List Frame} {meth : Method} {c : Code} {H : Heap} {locs : List Loc} {cells slots : Nat} {Q : State → Prop}
variable {cc : ByteArray} {pc nL : Nat} {ls : Array Slot} {rest : List Value} {own : String} {X : xG} {A : Nat → Prop}
theorem x_rett {φ : Prop} {v : Int32} {ty : FieldType} (hC : XC p s m args c cc nL own X A) (hr : meth.sig.returnType = some ty) (hn : narrow ty (.int v) = .int v) (hlk : meth.locks = false) (hφ : φ) (hdg : decode cc pc = .ok (.ireturn, 1)) : W p l e R s m args below meth c s.heap [] cells slots (MQ below (xQ φ (.returned (some (.int v)))) args s cells slots xNo) (F0 m pc ls [.int v]) :=
  W.zret hC.1 hC.2.1 hr hn (fun t ht _ => ⟨rfl, hφ, ht⟩) (fun q h => by cases h) hdg hlk
theorem x_retv {φ : Prop} (hC : XC p s m args c cc nL own X A) (hr : meth.sig.returnType = none) (hlk : meth.locks = false) (hφ : φ) (hdg : decode cc pc = .ok (.return_, 1)) : W p l e R s m args below meth c s.heap [] cells slots (MQ below (xQ φ (.returned none)) args s cells slots xNo) (F0 m pc ls []) :=
  W.vret hC.1 hC.2.1 hr (fun t ht _ => ⟨rfl, hφ, ht⟩) (fun q h => by cases h) hdg hlk
theorem x_runVs {idx n maxL i : Nat} {y : MethodName} {bytes : ByteArray} {ret : Option FieldType} {rm : Room} {Qc : Array Value → State → Outcome → State → Prop} {free : Addr → Prop} {st : List Value} {As : List Value} {ws : va_W} (hC : XC p s m args c cc nL own X A) (hl : Cond.methodLink own idx y ∈ xB) (hm : xMv y bytes maxL ret n) (hM : Met l y (xw y bytes maxL ret) rm (xPc (.ref (X.2.2.2.2.1 i) :: As) X []) Qc 0 0 free) (hi : i < 7) (hH : xH X A ws s.heap H locs) (hcy : y.cls = "java/lang/String")
    (hsz : ls.size = nL) (hst : st = As.reverse ++ .ref (X.2.2.2.2.1 i) :: rest) (hn : As.length = n) (hW : (rest.map fun v => v.category).sum ≤ 8) (hdg : decode cc pc = .ok (.invokevirtual idx, 3)) (hR : rm.frames + 1 ≤ R.frames ∧ 8 + (maxL + 11) + rm.locals ≤ R.locals) (hmc : rm.cells = 0 ∧ rm.slots = 0) (hfit : cells ≤ R.cells ∧ slots ≤ R.slots) :
    va_Run p l e R s m args below meth c H locs cells slots 0 0 (F0 m pc ls st) rest (Qc (Value.ref (X.2.2.2.2.1 i) :: As).toArray) free := by
  obtain ⟨hP, hD, hSc⟩ := x_pick (wc := []) hC hH [] rfl rfl
  have hcb := x_callB hC hl hm.1 hmc hR
  obtain ⟨hx, hb, hml, hown, hts, hK, hSt⟩ := hC
  obtain ⟨-, h1, h2⟩ := hm
  exact va_runV ⟨hx, hb, hml, hown, hts⟩ hM ⟨hcb, hts _ h1, hts _ h2⟩ ⟨xblind, by rw [hcy]; exact vk_recv hSt.2.1 hi hH.2.2, fun U hU hW => ⟨rfl, xK_warm hW hK, by rw [hU]; exact hP, hD.weaken (fun _ _ _ _ => trivial), by rw [hU]; exact xS_warm hW hSc⟩⟩ rfl hn hsz hst (lv_room hW) hdg hfit
theorem x_ldcS {idx i : Nat} {tx : String} (hC : XC p s m args c cc nL own X A) (hq : (own, idx, tx, i) ∈ xStr) (hdg : decode cc pc = .ok (.ldc idx, 2)) (k : W p l e R s m args below meth c H locs cells slots Q (F0 m (pc + 2) ls (.ref (X.2.2.2.2.1 i) :: rest))) : W p l e R s m args below meth c H locs cells slots Q (F0 m pc ls rest) := by
  obtain ⟨hx, hb, hml, hown, hts, hK, hSt⟩ := hC
  exact va_ldcS hx hb hown (hSt.1 _ hq) hdg k
end XSX
set_option maxRecDepth 100000 in
theorem c_J0_coder {l : Launch} {X : xG} {i : Nat} (hi : i < 7) : Met l yJ0_coder_7d493 (xw yJ0_coder_7d493 cJ0_coder_7d493 1 (some .byte)) (xrm 0 0) (xPc [.ref (X.2.2.2.2.1 i)] X []) (xQ True (.returned (some (.int 0)))) 0 0 xNo := by
  refine xMet (n := 0) md_J0_coder_7d493.1 (Nat.le_of_ble_eq_true rfl) ?_
  intro p e s m args below meth c ls A hC hr hlk hH hl
  have hl : lv_has ls 1 [(0, .ref (X.2.2.2.2.1 i))] := hl
  have hx := hC.1
  have hb := hC.2.1
  refine va_gets hx hb hC.2.2.2.2.2.2.2.2.1 va_S.rf hC.2.2.2.1 (hC.2.2.2.2.1 _ mw_508) (fun _ h => h) dJ0_coder_7d493_0 ?_
  refine lv_if_eq (tgt := 13) hx hb dJ0_coder_7d493_3 (by decide) (fun c1 => absurd c1 (by decide)) (fun _ => ?_)
  refine lv_aload_n hx hb dJ0_coder_7d493_6 rfl (lv_at hl 0 rfl) ?_
  refine vk_getf hx hb (hC.2.2.2.2.2.2.2.1.1 i hi).2.1 va_S.rf hC.2.2.2.1 (hC.2.2.2.2.1 _ mw_509) (fun _ h => h) dJ0_coder_7d493_7 ?_
  refine lv_goto (tgt := 14) hx hb dJ0_coder_7d493_10 (by decide) ?_
  exact x_rett hC hr (by decide) hlk trivial dJ0_coder_7d493_14
set_option maxRecDepth 100000 in
theorem c_J0_isLatin1 {l : Launch} {X : xG} {i : Nat} (hi : i < 7) : Met l yJ0_isLatin1_aae02 (xw yJ0_isLatin1_aae02 cJ0_isLatin1_aae02 1 (some .boolean)) (xrm 0 0) (xPc [.ref (X.2.2.2.2.1 i)] X []) (xQ True (.returned (some (.int 1)))) 0 0 xNo := by
  refine xMet (n := 0) md_J0_isLatin1_aae02.1 (Nat.le_of_ble_eq_true rfl) ?_
  intro p e s m args below meth c ls A hC hr hlk hH hl
  have hl : lv_has ls 1 [(0, .ref (X.2.2.2.2.1 i))] := hl
  have hx := hC.1
  have hb := hC.2.1
  refine va_gets hx hb hC.2.2.2.2.2.2.2.2.1 va_S.rf hC.2.2.2.1 (hC.2.2.2.2.1 _ mw_508) (fun _ h => h) dJ0_isLatin1_aae02_0 ?_
  refine lv_if_eq (tgt := 17) hx hb dJ0_isLatin1_aae02_3 (by decide) (fun c1 => absurd c1 (by decide)) (fun _ => ?_)
  refine lv_aload_n hx hb dJ0_isLatin1_aae02_6 rfl (lv_at hl 0 rfl) ?_
  refine vk_getf hx hb (hC.2.2.2.2.2.2.2.1.1 i hi).2.1 va_S.rf hC.2.2.2.1 (hC.2.2.2.2.1 _ mw_509) (fun _ h => h) dJ0_isLatin1_aae02_7 ?_
  refine lv_if_ne (tgt := 17) hx hb dJ0_isLatin1_aae02_10 (by decide) (fun c1 => absurd rfl c1) (fun _ => ?_)
  refine lv_iconst (v := 1) hx hb dJ0_isLatin1_aae02_13 (by decide) ?_
  refine lv_goto (tgt := 18) hx hb dJ0_isLatin1_aae02_14 (by decide) ?_
  exact x_rett hC hr (by decide) hlk trivial dJ0_isLatin1_aae02_18
set_option maxRecDepth 100000 in
theorem c_J0_length_8abf5 {l : Launch} {X : xG} {i : Nat} {u : Int32} (hf : f_J0_length_8abf5 i = some u) : Met l yJ0_length_8abf5 (xw yJ0_length_8abf5 cJ0_length_8abf5 1 (some .int)) (xrm 1 20) (xPc [.ref (X.2.2.2.2.1 i)] X []) (xQ True (.returned (some (.int u)))) 0 0 xNo := by
  obtain ⟨hi, hf⟩ := xok hf
  have hi : i < 7 := Nat.lt_of_not_le hi
  refine xMet (n := 0) md_J0_length_8abf5.1 (Nat.le_of_ble_eq_true rfl) ?_
  intro p e s m args below meth c ls A hC hr hlk hH hl
  have hl : lv_has ls 1 [(0, .ref (X.2.2.2.2.1 i))] := hl
  have hx := hC.1
  have hb := hC.2.1
  refine lv_aload_n hx hb dJ0_length_8abf5_0 rfl (lv_at hl 0 rfl) ?_
  refine vk_getf hx hb (hC.2.2.2.2.2.2.2.1.1 i hi).2.2.1 va_S.rf hC.2.2.2.1 (hC.2.2.2.2.1 _ mw_503) (fun _ h => h) dJ0_length_8abf5_1 ?_
  refine va_tlen hx hb (hC.2.2.2.2.2.2.2.1.1 i hi).2.2.2 va_S.rf (v := nI (xLen.getD i 0)) rfl dJ0_length_8abf5_4 ?_
  refine lv_aload_n hx hb dJ0_length_8abf5_5 rfl (lv_at hl 0 rfl) ?_
  refine x_ran (x_runVs (rest := [.int (nI (xLen.getD i 0))]) (As := []) hC mw_504 md_J0_coder_7d493 (c_J0_coder (X := X) hi) hi hH rfl hl.1 rfl rfl (Nat.le_of_ble_eq_true rfl) dJ0_length_8abf5_6 ⟨Nat.le_of_ble_eq_true rfl, Nat.le_of_ble_eq_true rfl⟩ ⟨rfl, rfl⟩ ⟨Nat.le_refl _, Nat.le_refl _⟩) rfl (fun _ => ?_)
  refine x_ishr hx hb dJ0_length_8abf5_9 ?_
  refine x_reti hC hr hlk trivial ?_ dJ0_length_8abf5_10
  rw [← hf]
  exact congrArg some (sb_shr0 _)
set_option maxRecDepth 100000 in
theorem c_J3_checkIndex {l : Launch} {X : xG} {a b : Int32} (q : Option Nat) (h0 : ¬ a < 0) (h1 : a < b) : Met l yJ3_checkIndex_8e157 (xw yJ3_checkIndex_8e157 cJ3_checkIndex_8e157 3 (some .int)) (xrm 0 0) (xPc [.int a, .int b, va_rf q] X []) (xQ True (.returned (some (.int a)))) 0 0 xNo := by
  refine xMet (n := 3) md_J3_checkIndex_8e157.1 (by cases q <;> exact Nat.le_of_ble_eq_true rfl) ?_
  intro p e s m args below meth c ls A hC hr hlk hH hl
  have hl : lv_has ls 3 [(0, .int a), (1, .int b)] := by cases q <;> exact lv_sub hl [0, 1] rfl
  have hx := hC.1
  have hb := hC.2.1
  refine lv_iload_n hx hb dJ3_checkIndex_8e157_0 rfl (lv_at hl 0 rfl) ?_
  refine lv_if_lt (tgt := 9) hx hb dJ3_checkIndex_8e157_1 (by decide) (fun c1 => absurd c1 h0) (fun _ => ?_)
  refine lv_iload_n hx hb dJ3_checkIndex_8e157_4 rfl (lv_at hl 0 rfl) ?_
  refine lv_iload_n hx hb dJ3_checkIndex_8e157_5 rfl (lv_at hl 1 rfl) ?_
  refine lv_icmp_lt (tgt := 16) hx hb dJ3_checkIndex_8e157_6 (by decide) (fun _ => ?_) (fun c1 => absurd h1 c1)
  refine lv_iload_n hx hb dJ3_checkIndex_8e157_16 rfl (lv_at hl 0 rfl) ?_
  exact x_reti hC hr hlk trivial rfl dJ3_checkIndex_8e157_17
set_option maxRecDepth 100000 in
theorem c_J0_checkIndex {l : Launch} {X : xG} {a b : Int32} (h0 : ¬ a < 0) (h1 : a < b) : Met l yJ0_checkIndex_df160 (xw yJ0_checkIndex_df160 cJ0_checkIndex_df160 2 none) (xrm 1 22) (xPc [.int a, .int b] X []) (xQ True (.returned none)) 0 0 xNo := by
  refine xMet (n := 2) md_J0_checkIndex_df160.1 (Nat.le_of_ble_eq_true rfl) ?_
  intro p e s m args below meth c ls A hC hr hlk hH hl
  have hl : lv_has ls 2 [(0, .int a), (1, .int b)] := hl
  have hx := hC.1
  have hb := hC.2.1
  refine lv_iload_n hx hb dJ0_checkIndex_df160_0 rfl (lv_at hl 0 rfl) ?_
  refine lv_iload_n hx hb dJ0_checkIndex_df160_1 rfl (lv_at hl 1 rfl) ?_
  have go : ∀ q : Option Nat, va_Z "jdk/internal/util/Preconditions" "SIOOBE_FORMATTER" "Ljava/util/function/BiFunction;" (va_rf q) A s s.heap → W p l e (xrm 1 22) s m args below meth c s.heap [] 0 0 (MQ below (xQ True (.returned none)) args s 0 0 xNo) (F0 m 2 ls [.int b, .int a]) := by
    intro q hq
    refine va_gets hx hb hq va_S.rf hC.2.2.2.1 (hC.2.2.2.2.1 _ mw_525) (fun _ h => h) dJ0_checkIndex_df160_2 ?_
    refine x_ran (x_runS (wc := []) (rest := []) (As := [.int a, .int b, va_rf q]) hC mw_526 md_J3_checkIndex_8e157 (c_J3_checkIndex (X := X) q h0 h1) hH [] rfl rfl hl.1 rfl rfl (Nat.le_of_ble_eq_true rfl) dJ0_checkIndex_df160_5 ⟨Nat.le_of_ble_eq_true rfl, Nat.le_of_ble_eq_true rfl⟩ ⟨rfl, rfl⟩ ⟨Nat.le_refl _, Nat.le_refl _⟩) rfl (fun _ => ?_)
    refine lv_pop hx hb dJ0_checkIndex_df160_8 rfl ?_
    exact x_retv hC hr hlk trivial dJ0_checkIndex_df160_9
  rcases hC.2.2.2.2.2.2.2.2.2 with h | ⟨t, h⟩
  · exact go none h
  · exact go (some t) h
set_option maxRecDepth 100000 in
theorem c_J1_charAt {l : Launch} {X : xG} {i : Nat} {k : Int32} (hi : i < 7) (hk : ¬ xout k (xLen.getD i 0) = true) : Met l yJ1_charAt_3b067 (xw yJ1_charAt_3b067 cJ1_charAt_3b067 2 (some .char)) (xrm 2 43) (xPc [.ref (X.2.2.2.2.2 i), .int k] X []) (xQ True (.returned (some (.int ((xByt.getD i []).getD (xat k) 0 &&& 255))))) 0 0 xNo := by
  refine xMet (n := 2) md_J1_charAt_3b067.1 (Nat.le_of_ble_eq_true rfl) ?_
  intro p e s m args below meth c ls A hC hr hlk hH hl
  have hl : lv_has ls 2 [(0, .ref (X.2.2.2.2.2 i)), (1, .int k)] := hl
  have hx := hC.1
  have hb := hC.2.1
  have hT := (hC.2.2.2.2.2.2.2.1.1 i hi).2.2.2
  have hlen : xLen.getD i 0 < 2 ^ 31 := by rcases (show i = 0 ∨ i = 1 ∨ i = 2 ∨ i = 3 ∨ i = 4 ∨ i = 5 ∨ i = 6 by omega) with rfl | rfl | rfl | rfl | rfl | rfl | rfl <;> decide
  have hk2 : ¬ (k < 0 ∨ xLen.getD i 0 ≤ k.toNatClampNeg) := xin hk
  have hk0 : ¬ k < 0 := fun h => hk2 (Or.inl h)
  have hk1 : k < nI (xLen.getD i 0) := by
    rcases pk_ix k hlen with h | h | ⟨j, hj, rfl⟩
    · exact absurd h hk0
    · refine absurd (Or.inr ?_) hk2
      rw [Int32.le_iff_toInt_le, nI_toInt hlen] at h
      show xLen.getD i 0 ≤ k.toInt.toNat
      omega
    · exact nI_lt hj hlen
  refine lv_iload_n hx hb dJ1_charAt_3b067_0 rfl (lv_at hl 1 rfl) ?_
  refine lv_aload_n hx hb dJ1_charAt_3b067_1 rfl (lv_at hl 0 rfl) ?_
  refine va_tlen hx hb hT va_S.rf (v := nI (xLen.getD i 0)) rfl dJ1_charAt_3b067_2 ?_
  refine x_ran (x_runS (wc := []) (rest := []) (As := [.int k, .int (nI (xLen.getD i 0))]) hC mw_522 md_J0_checkIndex_df160 (c_J0_checkIndex (X := X) hk0 hk1) hH [] rfl rfl hl.1 rfl rfl (Nat.le_of_ble_eq_true rfl) dJ1_charAt_3b067_3 ⟨Nat.le_of_ble_eq_true rfl, Nat.le_of_ble_eq_true rfl⟩ ⟨rfl, rfl⟩ ⟨Nat.le_refl _, Nat.le_refl _⟩) rfl (fun _ => ?_)
  refine lv_aload_n hx hb dJ1_charAt_3b067_6 rfl (lv_at hl 0 rfl) ?_
  refine lv_iload_n hx hb dJ1_charAt_3b067_7 rfl (lv_at hl 1 rfl) ?_
  refine va_tb hx hb hT va_S.rf (xin hk) rfl dJ1_charAt_3b067_8 ?_
  refine lv_sipush (v := 255) hx hb dJ1_charAt_3b067_9 (by decide) ?_
  refine lv_iand hx hb dJ1_charAt_3b067_12 ?_
  refine lv_i2c hx hb dJ1_charAt_3b067_13 (sc_c2 _) ?_
  exact x_rett hC hr (sc_nar _) hlk trivial dJ1_charAt_3b067_14
set_option maxRecDepth 100000 in
theorem c_J0_charAt_5068e {l : Launch} {X : xG} {i : Nat} {p1 u : Int32} (hf : f_J0_charAt_5068e i p1 = some u) : Met l yJ0_charAt_5068e (xw yJ0_charAt_5068e cJ0_charAt_5068e 2 (some .char)) (xrm 3 64) (xPc [.ref (X.2.2.2.2.1 i), .int p1] X []) (xQ True (.returned (some (.int u)))) 0 0 xNo := by
  obtain ⟨hi, hf⟩ := xok hf
  obtain ⟨hk, hf⟩ := xok hf
  have hi : i < 7 := Nat.lt_of_not_le hi
  cases hf
  refine xMet (n := 1) md_J0_charAt_5068e.1 (Nat.le_of_ble_eq_true rfl) ?_
  intro p e s m args below meth c ls A hC hr hlk hH hl
  have hl : lv_has ls 2 [(0, .ref (X.2.2.2.2.1 i)), (1, .int p1)] := hl
  have hx := hC.1
  have hb := hC.2.1
  refine lv_aload_n hx hb dJ0_charAt_5068e_0 rfl (lv_at hl 0 rfl) ?_
  refine x_ran (x_runVs (rest := []) (As := []) hC mw_514 md_J0_isLatin1_aae02 (c_J0_isLatin1 (X := X) hi) hi hH rfl hl.1 rfl rfl (Nat.le_of_ble_eq_true rfl) dJ0_charAt_5068e_1 ⟨Nat.le_of_ble_eq_true rfl, Nat.le_of_ble_eq_true rfl⟩ ⟨rfl, rfl⟩ ⟨Nat.le_refl _, Nat.le_refl _⟩) rfl (fun _ => ?_)
  refine lv_if_eq (tgt := 16) hx hb dJ0_charAt_5068e_4 (by decide) (fun c1 => absurd c1 (by decide)) (fun _ => ?_)
  refine lv_aload_n hx hb dJ0_charAt_5068e_7 rfl (lv_at hl 0 rfl) ?_
  refine vk_getf hx hb (hC.2.2.2.2.2.2.2.1.1 i hi).2.2.1 va_S.rf hC.2.2.2.1 (hC.2.2.2.2.1 _ mw_503) (fun _ h => h) dJ0_charAt_5068e_8 ?_
  refine lv_iload_n hx hb dJ0_charAt_5068e_11 rfl (lv_at hl 1 rfl) ?_
  refine x_ran (x_runS (wc := []) (rest := []) (As := [.ref (X.2.2.2.2.2 i), .int p1]) hC mw_518 md_J1_charAt_3b067 (c_J1_charAt (X := X) hi hk) hH [] rfl rfl hl.1 rfl rfl (Nat.le_of_ble_eq_true rfl) dJ0_charAt_5068e_12 ⟨Nat.le_of_ble_eq_true rfl, Nat.le_of_ble_eq_true rfl⟩ ⟨rfl, rfl⟩ ⟨Nat.le_refl _, Nat.le_refl _⟩) rfl (fun _ => ?_)
  exact x_rett hC hr (sc_nar _) hlk trivial dJ0_charAt_5068e_15
theorem x7_J0_length_8abf5 {i : Nat} {u : Int32} (hf : f_J0_length_8abf5 i = some u) : i < 7 := Nat.lt_of_not_le (xok hf).1
theorem x7_J0_charAt_5068e {i : Nat} {k u : Int32} (hf : f_J0_charAt_5068e i k = some u) : i < 7 := Nat.lt_of_not_le (xok hf).1
