-- PURE: the told lake and the way back, whole
section L3
variable {c c0 sz : Nat} {y : Nat → Nat} {bx bm rx rm hx hm sx sm : Nat → Int32} {ex em : Nat → Int64}
theorem e_lake (h : TpOk sz y bx bm) (hR : RR rx rm) {fi dp ms : Int32} {rg : Int64} {st ct : Int32} {kx tx : Nat → Int32} {pc : Int32} {ax km tm am : Nat → Int32} (hD : Dr c0 fi dp ms rg st ct kx tx pc ax km tm am) (seed nb di dd dm : Int32) (dr : Int64) (ds dse dc : Int32) (dk dt : Nat → Int32) (dpc : Int32) (da : Nat → Int32) (tk ts te fr to tok val : Int32) (aR : Int64) (ahead : Nat → Int32) : ∃ v fi' dp' ms' rg' st' ct' kx' tx' pc' ax' km' tm' am' nb' di' dd' dm' dr' ds' dse' dc' dk' dt' dpc' da' tk' ts' te' fr' to' tok' val' aR' ahead' rx' rm', f_X6_lake fi dp ms rg st seed ct kx tx pc ax nb di dd dm dr ds dse dc dk dt dpc da (nI sz) tk ts te bx rx = some (v, fi', dp', ms', rg', st', seed, ct', kx', tx', pc', ax', nb', di', dd', dm', dr', ds', dse', dc', dk', dt', dpc', da', nI 0, tk', ts', te', rx') ∧ f_X7_lake ct fi dp ms rg st pc seed (nI sz) fr to tok val aR am ahead km tm rm bm = some (v, ct', fi', dp', ms', rg', st', pc', seed, nI 0, fr', to', tok', val', aR', am', ahead', km', tm', rm') ∧ Dr c0 fi' dp' ms' rg' st' ct' kx' tx' pc' ax' km' tm' am' ∧ RR rx' rm' := by
  obtain ⟨v2, ra, rb, y1, y2, y3⟩ := noC' (show NoC (-2) by simp [NoC]) hR
  obtain ⟨k1, t1, x1, x2⟩ := X2_take (kx := dk) (tx := dt) dc kx tx ct
  obtain ⟨a1, z1, z2⟩ := X3_take (ax := da) dpc ax pc
  obtain ⟨o, o1, o2, o3, o4, o5, o6, o7, o8, o9, o10⟩ := keep_eq (am := am) (km := km) (tm := tm) ct fi dp ms st pc seed ahead
  have hD1 : Dr c0 fi dp ms rg st ct k1 t1 pc a1 km tm am := by
    obtain ⟨c, f, d, m, n, P, kn, tn, g, e1, e2, e3, e4, e5, e6, hf, hd, hm, hn, hr, hX, hM, hP⟩ := hD
    exact ⟨c, f, d, m, n, P, kn, tn, g, e1, e2, e3, e4, e5, e6, hf, hd, hm, hn, hr, LwX_c hX x2, hM, PpOk_c hP z2 (fun _ _ => rfl)⟩
  obtain ⟨a, b, q1, q2, q3⟩ := lakes_eq (o := o) h y2 seed rg hD1 nb tk ts fr tok val
  unfold f_X6_lake f_X7_lake f_X0_takeFrom f_X1_readLake f_X5_rewind
  rw [x1, z1, o1]
  simp only [Option.bind_some]
  rw [q1, q2]
  rcases q3 with ⟨j, nb', fi', dp', ms', rg', st', ct', kx', tx', pc', ax', km', tm', am', tk', ts', te', fr', to', tok', val', hj, rfl, rfl, q4⟩ | ⟨nb', fi', dp', ms', rg', st', ct', kx', tx', pc', ax', tk', ts', te', to', tok', val', am', km', tm', rfl, rfl, q4, q5⟩
  · obtain ⟨k2, t2, x3, x4⟩ := X2_take (kx := kx) (tx := tx) ct kx' tx' ct'
    obtain ⟨a2, z3, z4⟩ := X3_take (ax := ax) pc ax' pc'
    simp only [Option.bind_some, if_neg (nI_nm1 (show j < 2 ^ 31 by omega)), x3, z3]
    obtain ⟨c, f, d, m, n, P, kn, tn, g, e1, e2, e3, e4, e5, e6, hf, hd, hm, hn, hr, hX, hM, hP⟩ := q4
    exact ⟨_, _, _, _, _, _, _, _, _, _, _, _, _, _, _, _, _, _, _, _, _, _, _, _, _, _, _, _, _, _, _, _, _, _, _, _, _, rfl, rfl, ⟨c, f, d, m, n, P, kn, tn, g, e1, e2, e3, e4, e5, e6, hf, hd, hm, hn, hr, LwX_c hX x4, hM, PpOk_c hP z4 (fun _ _ => rfl)⟩, hR⟩
  · simp only [Option.bind_some, if_true, y1]
    rw [o4, o5, o6, o7, o8, o9, o10]
    obtain ⟨c, f, d, m, n, P, kn, tn, g, e1, e2, e3, e4, e5, e6, hf, hd, hm, hn, hr, hX, hM, hP⟩ := hD
    exact ⟨_, _, _, _, _, _, _, _, _, _, _, _, _, _, _, _, _, _, _, _, _, _, _, _, _, _, _, _, _, _, _, _, _, _, _, _, _, rfl, rfl, ⟨c, f, d, m, n, P, kn, tn, g, e1, e2, e3, e4, e5, e6, hf, hd, hm, hn, hr, hX, LwX_c hM (fun l hl => ⟨((q4 l hl).1).trans ((o2 l hl).1), ((q4 l hl).2).trans ((o2 l hl).2)⟩), PpOk_c hP (fun _ _ => rfl) (fun l hl => (q5 l hl).trans (o3 l hl))⟩, y3⟩
theorem e_back {ki kd kms : Int32} {kr : Int64} {ks kse kc : Int32} {kk kt : Nat → Int32} {kP : Int32} {ka : Nat → Int32} {oR : Int64} {o : Nat → Int32} (isK : Int32) (hK : isK = nI 0 ∨ KpL ki kd kms kr ks kse kc kk kt kP ka oR o) (hR : RR rx rm) {fi dp ms : Int32} {rg : Int64} {st : Int32} {kx tx : Nat → Int32} {pc : Int32} {ax km tm am : Nat → Int32} (hc : c ≤ 6) (hD : Dr 0 fi dp ms rg st (nI c) kx tx pc ax km tm am) (hS : ShOk c hx hm sx sm ex em) (seed : Int32) : ∃ v fi' dp' ms' rg' st' se' c' kx' tx' pc' ax' km' tm' am' rx' rm' hx' hm' sx', f_X6_back isK ki kd kms kr ks kse kc kk kt kP ka fi dp ms rg st seed (nI c) kx tx pc ax rx hx sx = some (v, fi', dp', ms', rg', st', se', nI c', kx', tx', pc', ax', rx', hx', sx') ∧ f_X7_back (nI c) fi dp ms rg st pc seed isK oR am hm km o tm rm = some (v, nI c', fi', dp', ms', rg', st', pc', se', am', hm', km', tm', rm') ∧ c' ≤ 6 ∧ Dr 0 fi' dp' ms' rg' st' (nI c') kx' tx' pc' ax' km' tm' am' ∧ ShOk c' hx' hm' sx' sm ex em ∧ RR rx' rm' := by
  obtain ⟨v2, ra, rb, y1, y2, y3⟩ := noC' (show NoC (-5) by simp [NoC]) hR
  by_cases z : isK = nI 0
  · unfold f_X6_back f_X7_back
    rw [if_pos z, if_pos z, y1, y2]
    exact ⟨_, _, _, _, _, _, _, c, _, _, _, _, _, _, _, _, _, _, _, _, rfl, rfl, hc, hD, hS, y3⟩
  · obtain ⟨c', f, d, m, n, P, kn, tn, g, rfl, rfl, rfl, rfl, rfl, rfl, rfl, o22, o23, o24, o25, o26, o27, o28, hf, hd, hm', hn, hr, hX, hM, hP⟩ := hK.resolve_left z
    obtain ⟨k1, t1, x1, x2⟩ := X2_take (kx := kx) (tx := tx) (nI c) kk kt (nI c')
    obtain ⟨a1, z1, z2⟩ := X3_take (ax := ax) pc ka (nI P)
    obtain ⟨a2, k2, t2, w1, w2, w3⟩ := again_eq (am := am) (km := km) (tm := tm) (nI c) fi dp ms st pc seed o
    obtain ⟨hx', sx', hm2, r1, r2, r3⟩ := clear_eq hS hc hX.1 (fun hh => (nI 1, nI c', nI f, nI d, nI m, kr, nI n, nI P, kse, a2, hh, k2, t2, rm)) (f_X7_back_L32 rm (nI c') (nI f) (nI d) (nI m) kr (nI n) (nI P) kse a2 k2 t2) (fun s => rfl)
    have qx : f_X6_back isK (nI f) (nI d) (nI m) kr (nI n) kse (nI c') kk kt (nI P) ka fi dp ms rg st seed (nI c) kx tx pc ax rx hx sx = some (nI 1, nI f, nI d, nI m, kr, nI n, kse, nI c', k1, t1, nI P, a1, rx, hx', sx') := by
      unfold f_X6_back f_X0_takeFrom
      rw [if_neg z, x1, Option.bind_some, z1, Option.bind_some, Option.bind_some, r1, Option.bind_some]
    have qm : f_X7_back (nI c) fi dp ms rg st pc seed isK kr am hm km o tm rm = some (nI 1, nI c', nI f, nI d, nI m, kr, nI n, nI P, kse, a2, hm2, k2, t2, rm) := by
      unfold f_X7_back
      rw [if_neg z, w1, Option.bind_some, o22, o23, o24, o25, o26, o27, o28]
      exact r2
    exact ⟨_, _, _, _, _, _, _, c', _, _, _, _, _, _, _, _, _, _, _, _, qx, qm, hX.1, ⟨c', f, d, m, n, P, kn, tn, g, rfl, rfl, rfl, rfl, rfl, rfl, ⟨by omega, hf⟩, hd, hm', hn, hr, LwX_c hX x2, LwX_c hM (fun l hl => w2 l hl), PpOk_c hP z2 (fun l hl => w3 l hl)⟩, r3, hR⟩
end L3
