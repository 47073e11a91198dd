-- THE LAW: one turn, the loop (written by gen_law.py)
section LW
variable {p : Program} {l : Launch} {e : Env} {s : State} {m : MethodId} {args : Array Value} {below : List Frame} {meth : Method} {c : Code} {H : Heap} {locs : List Loc} {Q : State → Prop}
variable {pc : Nat} {ls : Array Slot} {rest : List Value} {X : xG} {A : Nat → Prop} {a b : Nat → Nat} {bb L i : Nat} {xs : Nat → Int32}
set_option maxHeartbeats 8000000 in
set_option maxRecDepth 100000 in
theorem lw_step (hC : lwC p s m args c X A bb L xs) (hij : i + 5 < L) (hl : lv_has ls 4 [(3, .int (nI i)), (2, .ref (b 0)), (1, .ref (a 0)), (0, .ref bb)]) (hI : lwI X A a b s.heap H locs) (hkk : lwK p l e s m args below meth c Q X A a b bb i) : W p l e room_1 s m args below meth c H locs 42 2464 Q (F0 m 27 ls []) := by
  obtain ⟨_, _, _, _, _, _, _, _, _, _, _, _, _, _, _, _, _, _, _, _, _, _, _, _, _, _, _, _, _, _, _, _, _, _, _, _, _, _, _, _, _, _, _, _, _, _, _, _, _, _, _, _, _, _, _, _, _, _, _, _, _, _, _, _, hI, hH⟩ := hI
  obtain ⟨hX, hxs, hbl, hbA, hL⟩ := id hC
  have hx := hX.1
  have hb := hX.2.1
  refine lv_aload_n hx hb dL_law_27 rfl (lv_at hl 3 rfl) ?_
  refine lv_iload_n hx hb dL_law_28 rfl (lv_at hl 0 rfl) ?_
  have hq : (nI i).toNatClampNeg = i := xat_nI (by omega)
  refine va_sld hx hb hxs hbl hbA hH.2.2 (nI_in (by omega) (by omega)) dL_law_29 ?_
  rw [hq]
  refine lv_bipush (v := nI 127) hx hb dL_law_30 (by decide) ?_
  refine lv_iand hx hb dL_law_32 ?_
  generalize xs i &&& nI 127 = z
  by_cases c0 : z = nI 0
  · exact x_tin (k := nI 0) (tgt := 324) hx hb dL_law_33 c0 (by decide) (by decide) (k_row hC hij hl hI hH hkk)
  by_cases c1 : z = nI 1
  · exact x_tin (k := nI 1) (tgt := 367) hx hb dL_law_33 c1 (by decide) (by decide) (k_set hC hij hl hI hH hkk)
  by_cases c2 : z = nI 2
  · exact x_tin (k := nI 2) (tgt := 440) hx hb dL_law_33 c2 (by decide) (by decide) (k_copy hC hij hl hI hH hkk)
  by_cases c3 : z = nI 3
  · exact x_tin (k := nI 3) (tgt := 503) hx hb dL_law_33 c3 (by decide) (by decide) (k_element hC hij hl hI hH hkk)
  by_cases c4 : z = nI 4
  · exact x_tin (k := nI 4) (tgt := 537) hx hb dL_law_33 c4 (by decide) (by decide) (k_holds hC hij hl hI hH hkk)
  by_cases c5 : z = nI 5
  · exact x_tin (k := nI 5) (tgt := 560) hx hb dL_law_33 c5 (by decide) (by decide) (k_show hC hij hl hI hH hkk)
  by_cases c6 : z = nI 6
  · exact x_tin (k := nI 6) (tgt := 593) hx hb dL_law_33 c6 (by decide) (by decide) (k_says hC hij hl hI hH hkk)
  by_cases c7 : z = nI 7
  · exact x_tin (k := nI 7) (tgt := 626) hx hb dL_law_33 c7 (by decide) (by decide) (k_law hC hij hl hI hH hkk)
  by_cases c8 : z = nI 8
  · exact x_tin (k := nI 8) (tgt := 659) hx hb dL_law_33 c8 (by decide) (by decide) (k_use hC hij hl hI hH hkk)
  by_cases c9 : z = nI 9
  · exact x_tin (k := nI 9) (tgt := 682) hx hb dL_law_33 c9 (by decide) (by decide) (k_ask hC hij hl hI hH hkk)
  by_cases c10 : z = nI 10
  · exact x_tin (k := nI 10) (tgt := 715) hx hb dL_law_33 c10 (by decide) (by decide) (k_person hC hij hl hI hH hkk)
  by_cases c11 : z = nI 11
  · exact x_tin (k := nI 11) (tgt := 738) hx hb dL_law_33 c11 (by decide) (by decide) (k_feed hC hij hl hI hH hkk)
  by_cases c12 : z = nI 12
  · exact x_tin (k := nI 12) (tgt := 761) hx hb dL_law_33 c12 (by decide) (by decide) (k_wipe hC hij hl hI hH hkk)
  by_cases c13 : z = nI 13
  · exact x_tin (k := nI 13) (tgt := 774) hx hb dL_law_33 c13 (by decide) (by decide) (k_lake hC hij hl hI hH hkk)
  by_cases c14 : z = nI 14
  · exact x_tin (k := nI 14) (tgt := 787) hx hb dL_law_33 c14 (by decide) (by decide) (k_lawOf hC hij hl hI hH hkk)
  by_cases c15 : z = nI 15
  · exact x_tin (k := nI 15) (tgt := 820) hx hb dL_law_33 c15 (by decide) (by decide) (k_age hC hij hl hI hH hkk)
  by_cases c16 : z = nI 16
  · exact x_tin (k := nI 16) (tgt := 843) hx hb dL_law_33 c16 (by decide) (by decide) (k_step hC hij hl hI hH hkk)
  by_cases c17 : z = nI 17
  · exact x_tin (k := nI 17) (tgt := 866) hx hb dL_law_33 c17 (by decide) (by decide) (k_strikes hC hij hl hI hH hkk)
  by_cases c18 : z = nI 18
  · exact x_tin (k := nI 18) (tgt := 889) hx hb dL_law_33 c18 (by decide) (by decide) (k_strikesBy hC hij hl hI hH hkk)
  by_cases c19 : z = nI 19
  · exact x_tin (k := nI 19) (tgt := 922) hx hb dL_law_33 c19 (by decide) (by decide) (k_heard hC hij hl hI hH hkk)
  by_cases c20 : z = nI 20
  · exact x_tin (k := nI 20) (tgt := 955) hx hb dL_law_33 c20 (by decide) (by decide) (k_all hC hij hl hI hH hkk)
  by_cases c21 : z = nI 21
  · exact x_tin (k := nI 21) (tgt := 978) hx hb dL_law_33 c21 (by decide) (by decide) (k_silent hC hij hl hI hH hkk)
  by_cases c22 : z = nI 22
  · exact x_tin (k := nI 22) (tgt := 1001) hx hb dL_law_33 c22 (by decide) (by decide) (k_run hC hij hl hI hH hkk)
  by_cases c23 : z = nI 23
  · exact x_tin (k := nI 23) (tgt := 1024) hx hb dL_law_33 c23 (by decide) (by decide) (k_loop hC hij hl hI hH hkk)
  by_cases c24 : z = nI 24
  · exact x_tin (k := nI 24) (tgt := 1047) hx hb dL_law_33 c24 (by decide) (by decide) (k_period hC hij hl hI hH hkk)
  by_cases c25 : z = nI 25
  · exact x_tin (k := nI 25) (tgt := 1060) hx hb dL_law_33 c25 (by decide) (by decide) (k_mirror hC hij hl hI hH hkk)
  by_cases c26 : z = nI 26
  · exact x_tin (k := nI 26) (tgt := 1073) hx hb dL_law_33 c26 (by decide) (by decide) (k_lastStroke hC hij hl hI hH hkk)
  by_cases c27 : z = nI 27
  · exact x_tin (k := nI 27) (tgt := 1086) hx hb dL_law_33 c27 (by decide) (by decide) (k_shift hC hij hl hI hH hkk)
  by_cases c28 : z = nI 28
  · exact x_tin (k := nI 28) (tgt := 1109) hx hb dL_law_33 c28 (by decide) (by decide) (k_flip hC hij hl hI hH hkk)
  by_cases c29 : z = nI 29
  · exact x_tin (k := nI 29) (tgt := 1122) hx hb dL_law_33 c29 (by decide) (by decide) (k_until hC hij hl hI hH hkk)
  by_cases c30 : z = nI 30
  · exact x_tin (k := nI 30) (tgt := 1145) hx hb dL_law_33 c30 (by decide) (by decide) (k_sameAs hC hij hl hI hH hkk)
  by_cases c31 : z = nI 31
  · exact x_tin (k := nI 31) (tgt := 1168) hx hb dL_law_33 c31 (by decide) (by decide) (k_apart hC hij hl hI hH hkk)
  by_cases c32 : z = nI 32
  · exact x_tin (k := nI 32) (tgt := 1201) hx hb dL_law_33 c32 (by decide) (by decide) (k_parts hC hij hl hI hH hkk)
  by_cases c33 : z = nI 33
  · exact x_tin (k := nI 33) (tgt := 1244) hx hb dL_law_33 c33 (by decide) (by decide) (k_common hC hij hl hI hH hkk)
  by_cases c34 : z = nI 34
  · exact x_tin (k := nI 34) (tgt := 1267) hx hb dL_law_33 c34 (by decide) (by decide) (k_alone hC hij hl hI hH hkk)
  by_cases c35 : z = nI 35
  · exact x_tin (k := nI 35) (tgt := 1290) hx hb dL_law_33 c35 (by decide) (by decide) (k_busiest hC hij hl hI hH hkk)
  by_cases c36 : z = nI 36
  · exact x_tin (k := nI 36) (tgt := 1303) hx hb dL_law_33 c36 (by decide) (by decide) (k_lawFor hC hij hl hI hH hkk)
  by_cases c37 : z = nI 37
  · exact x_tin (k := nI 37) (tgt := 1336) hx hb dL_law_33 c37 (by decide) (by decide) (k_depths hC hij hl hI hH hkk)
  by_cases c38 : z = nI 38
  · exact x_tin (k := nI 38) (tgt := 1359) hx hb dL_law_33 c38 (by decide) (by decide) (k_differs hC hij hl hI hH hkk)
  by_cases c39 : z = nI 39
  · exact x_tin (k := nI 39) (tgt := 1382) hx hb dL_law_33 c39 (by decide) (by decide) (k_together hC hij hl hI hH hkk)
  by_cases c40 : z = nI 40
  · exact x_tin (k := nI 40) (tgt := 1395) hx hb dL_law_33 c40 (by decide) (by decide) (k_odds hC hij hl hI hH hkk)
  by_cases c41 : z = nI 41
  · exact x_tin (k := nI 41) (tgt := 1408) hx hb dL_law_33 c41 (by decide) (by decide) (k_expected hC hij hl hI hH hkk)
  by_cases c42 : z = nI 42
  · exact x_tin (k := nI 42) (tgt := 1421) hx hb dL_law_33 c42 (by decide) (by decide) (k_fits hC hij hl hI hH hkk)
  by_cases c43 : z = nI 43
  · exact x_tin (k := nI 43) (tgt := 1444) hx hb dL_law_33 c43 (by decide) (by decide) (k_next hC hij hl hI hH hkk)
  by_cases c44 : z = nI 44
  · exact x_tin (k := nI 44) (tgt := 1477) hx hb dL_law_33 c44 (by decide) (by decide) (k_loudest hC hij hl hI hH hkk)
  by_cases c45 : z = nI 45
  · exact x_tin (k := nI 45) (tgt := 1510) hx hb dL_law_33 c45 (by decide) (by decide) (k_plan hC hij hl hI hH hkk)
  by_cases c46 : z = nI 46
  · exact x_tin (k := nI 46) (tgt := 1543) hx hb dL_law_33 c46 (by decide) (by decide) (k_fill hC hij hl hI hH hkk)
  by_cases c47 : z = nI 47
  · exact x_tin (k := nI 47) (tgt := 1576) hx hb dL_law_33 c47 (by decide) (by decide) (k_round hC hij hl hI hH hkk)
  by_cases c48 : z = nI 48
  · exact x_tin (k := nI 48) (tgt := 1589) hx hb dL_law_33 c48 (by decide) (by decide) (k_day hC hij hl hI hH hkk)
  by_cases c49 : z = nI 49
  · exact x_tin (k := nI 49) (tgt := 1642) hx hb dL_law_33 c49 (by decide) (by decide) (k_tolls hC hij hl hI hH hkk)
  by_cases c50 : z = nI 50
  · exact x_tin (k := nI 50) (tgt := 1675) hx hb dL_law_33 c50 (by decide) (by decide) (k_meet hC hij hl hI hH hkk)
  by_cases c51 : z = nI 51
  · exact x_tin (k := nI 51) (tgt := 1708) hx hb dL_law_33 c51 (by decide) (by decide) (k_sum hC hij hl hI hH hkk)
  by_cases c52 : z = nI 52
  · exact x_tin (k := nI 52) (tgt := 1731) hx hb dL_law_33 c52 (by decide) (by decide) (k_reached hC hij hl hI hH hkk)
  by_cases c53 : z = nI 53
  · exact x_tin (k := nI 53) (tgt := 1754) hx hb dL_law_33 c53 (by decide) (by decide) (k_halves hC hij hl hI hH hkk)
  by_cases c54 : z = nI 54
  · exact x_tin (k := nI 54) (tgt := 1767) hx hb dL_law_33 c54 (by decide) (by decide) (k_ranked hC hij hl hI hH hkk)
  by_cases c55 : z = nI 55
  · exact x_tin (k := nI 55) (tgt := 1790) hx hb dL_law_33 c55 (by decide) (by decide) (k_oldest hC hij hl hI hH hkk)
  by_cases c56 : z = nI 56
  · exact x_tin (k := nI 56) (tgt := 1803) hx hb dL_law_33 c56 (by decide) (by decide) (k_judge hC hij hl hI hH hkk)
  by_cases c57 : z = nI 57
  · exact x_tin (k := nI 57) (tgt := 1836) hx hb dL_law_33 c57 (by decide) (by decide) (k_answers hC hij hl hI hH hkk)
  by_cases c58 : z = nI 58
  · exact x_tin (k := nI 58) (tgt := 1879) hx hb dL_law_33 c58 (by decide) (by decide) (k_rings hC hij hl hI hH hkk)
  by_cases c59 : z = nI 59
  · exact x_tin (k := nI 59) (tgt := 1912) hx hb dL_law_33 c59 (by decide) (by decide) (k_ring hC hij hl hI hH hkk)
  by_cases c60 : z = nI 60
  · exact x_tin (k := nI 60) (tgt := 1951) hx hb dL_law_33 c60 (by decide) (by decide) (k_days hC hij hl hI hH hkk)
  by_cases c61 : z = nI 61
  · exact x_tin (k := nI 61) (tgt := 1974) hx hb dL_law_33 c61 (by decide) (by decide) (k_turn hC hij hl hI hH hkk)
  by_cases c62 : z = nI 62
  · exact x_tin (k := nI 62) (tgt := 1987) hx hb dL_law_33 c62 (by decide) (by decide) (k_change hC hij hl hI hH hkk)
  by_cases c63 : z = nI 63
  · exact x_tin (k := nI 63) (tgt := 2010) hx hb dL_law_33 c63 (by decide) (by decide) (k_cut hC hij hl hI hH hkk)
  by_cases c64 : z = nI 64
  · exact x_tin (k := nI 64) (tgt := 2033) hx hb dL_law_33 c64 (by decide) (by decide) (k_still hC hij hl hI hH hkk)
  by_cases c65 : z = nI 65
  · exact x_tin (k := nI 65) (tgt := 2046) hx hb dL_law_33 c65 (by decide) (by decide) (k_seed hC hij hl hI hH hkk)
  by_cases c66 : z = nI 66
  · exact x_tin (k := nI 66) (tgt := 2069) hx hb dL_law_33 c66 (by decide) (by decide) (k_image hC hij hl hI hH hkk)
  by_cases c67 : z = nI 67
  · exact x_tin (k := nI 67) (tgt := 2082) hx hb dL_law_33 c67 (by decide) (by decide) (k_back hC hij hl hI hH hkk)
  by_cases c68 : z = nI 68
  · exact x_tin (k := nI 68) (tgt := 2095) hx hb dL_law_33 c68 (by decide) (by decide) (k_status hC hij hl hI hH hkk)
  refine x_tout (tgt := 2118) hx hb dL_law_33 (fun j hj => ?_) (by decide) (hkk _ _ _ ⟨_, _, _, _, _, _, _, _, _, _, _, _, _, _, _, _, _, _, _, _, _, _, _, _, _, _, _, _, _, _, _, _, _, _, _, _, _, _, _, _, _, _, _, _, _, _, _, _, _, _, _, _, _, _, _, _, _, _, _, _, _, _, _, _, hI, hH⟩ hl)
  exact match j, hj with | 0, _ => c0 | 1, _ => c1 | 2, _ => c2 | 3, _ => c3 | 4, _ => c4 | 5, _ => c5 | 6, _ => c6 | 7, _ => c7 | 8, _ => c8 | 9, _ => c9 | 10, _ => c10 | 11, _ => c11 | 12, _ => c12 | 13, _ => c13 | 14, _ => c14 | 15, _ => c15 | 16, _ => c16 | 17, _ => c17 | 18, _ => c18 | 19, _ => c19 | 20, _ => c20 | 21, _ => c21 | 22, _ => c22 | 23, _ => c23 | 24, _ => c24 | 25, _ => c25 | 26, _ => c26 | 27, _ => c27 | 28, _ => c28 | 29, _ => c29 | 30, _ => c30 | 31, _ => c31 | 32, _ => c32 | 33, _ => c33 | 34, _ => c34 | 35, _ => c35 | 36, _ => c36 | 37, _ => c37 | 38, _ => c38 | 39, _ => c39 | 40, _ => c40 | 41, _ => c41 | 42, _ => c42 | 43, _ => c43 | 44, _ => c44 | 45, _ => c45 | 46, _ => c46 | 47, _ => c47 | 48, _ => c48 | 49, _ => c49 | 50, _ => c50 | 51, _ => c51 | 52, _ => c52 | 53, _ => c53 | 54, _ => c54 | 55, _ => c55 | 56, _ => c56 | 57, _ => c57 | 58, _ => c58 | 59, _ => c59 | 60, _ => c60 | 61, _ => c61 | 62, _ => c62 | 63, _ => c63 | 64, _ => c64 | 65, _ => c65 | 66, _ => c66 | 67, _ => c67 | 68, _ => c68 | _ + 69, hj => absurd hj (by simp <;> omega)
theorem lw_ge {i L : Nat} (hi : i ≤ 3072) (hL : L ≤ 3072) (h : ¬ Int32.ofNat L - nI 6 < nI i) : i + 6 ≤ L := by
  by_cases h1 : i + 6 ≤ L
  · exact h1
  · exfalso
    apply h
    show nI L - nI 6 < nI i
    by_cases h2 : L < 6
    · exact Int32.lt_of_lt_of_le (nI_neg (by omega) h2) (Int32.not_lt.mp (nI_nneg (by omega)))
    · rw [nI_dif (show 6 ≤ L by omega)]
      exact nI_lt (by omega) (by omega)
set_option maxHeartbeats 4000000 in
set_option maxRecDepth 100000 in
theorem lw_loop (hC : lwC p s m args c X A bb L xs) (fin : ∀ (H : Heap) (locs : List Loc) (ls : Array Slot), (∀ q ∈ locs, A q.base) → W p l e room_1 s m args below meth c H locs 42 2464 Q (F0 m 2124 ls [])) : ∀ (n i : Nat) (H : Heap) (locs : List Loc) (ls : Array Slot), L ≤ i + n → i ≤ 3072 → lwI X A a b s.heap H locs → lv_has ls 4 [(3, .int (nI i)), (2, .ref (b 0)), (1, .ref (a 0)), (0, .ref bb)] → W p l e room_1 s m args below meth c H locs 42 2464 Q (F0 m 18 ls []) := by
  intro n
  induction n with
  | zero =>
    intro i H locs ls hn hi hI hl
    obtain ⟨hX, hxs, hbl, hbA, hL⟩ := id hC
    have hx := hX.1
    have hb := hX.2.1
    have hS : va_S A s.heap H locs := lwI_S hI
    refine lv_iload_n hx hb dL_law_18 rfl (lv_at hl 0 rfl) ?_
    refine lv_aload_n hx hb dL_law_19 rfl (lv_at hl 3 rfl) ?_
    refine va_slen hx hb hxs hbl hbA hS dL_law_20 ?_
    refine lv_bipush (v := nI 6) hx hb dL_law_21 (by decide) ?_
    refine lv_isub hx hb dL_law_23 ?_
    refine lv_icmp_gt (tgt := 2124) hx hb dL_law_24 (by decide) (fun _ => fin _ _ _ hS.2.2) (fun h => absurd (lw_ge hi hL h) (by omega))
  | succ n ih =>
    intro i H locs ls hn hi hI hl
    obtain ⟨hX, hxs, hbl, hbA, hL⟩ := id hC
    have hx := hX.1
    have hb := hX.2.1
    have hS : va_S A s.heap H locs := lwI_S hI
    refine lv_iload_n hx hb dL_law_18 rfl (lv_at hl 0 rfl) ?_
    refine lv_aload_n hx hb dL_law_19 rfl (lv_at hl 3 rfl) ?_
    refine va_slen hx hb hxs hbl hbA hS dL_law_20 ?_
    refine lv_bipush (v := nI 6) hx hb dL_law_21 (by decide) ?_
    refine lv_isub hx hb dL_law_23 ?_
    refine lv_icmp_gt (tgt := 2124) hx hb dL_law_24 (by decide) (fun _ => fin _ _ _ hS.2.2) (fun h => ?_)
    have hg := lw_ge hi hL h
    refine lw_step hC (by omega) hl hI (fun H locs ls hI hl => ?_)
    refine lv_iinc (v := nI (i + 6)) (lv' := [(3, .int (nI (i + 6))), (2, .ref (b 0)), (1, .ref (a 0)), (0, .ref bb)]) hx hb dL_law_2118 hl (k := 0) rfl (by rw [show Int32.ofInt 6 = nI 6 by decide]; exact nI_add i 6) (by decide) rfl (fun ls hl => ?_)
    refine lv_goto (tgt := 18) hx hb dL_law_2121 (by decide) ?_
    exact ih (i + 6) _ _ _ (by omega) (by omega) hI hl
end LW
