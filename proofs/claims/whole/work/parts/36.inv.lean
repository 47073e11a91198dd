-- PURE: what holds between both, between two calls of the law
def Inv (isK fi dp ms : Int32) (rg : Int64) (st ct : Int32) (kx tx : Nat → Int32) (pc : Int32) (ax : Nat → Int32) (tz : Int32) (bx rx hx sx : Nat → Int32) (ex : Nat → Int64) (ki kd kms : Int32) (kr : Int64) (ks kse kc : Int32) (kk kt : Nat → Int32) (kP : Int32) (ka km tm am bm rm hm sm : Nat → Int32) (em : Nat → Int64) (oR : Int64) (o : Nat → Int32) : Prop := ∃ c sz y, ct = nI c ∧ tz = nI sz ∧ Dr 0 fi dp ms rg st (nI c) kx tx pc ax km tm am ∧ c ≤ 6 ∧ TpOk sz y bx bm ∧ RR rx rm ∧ ShOk c hx hm sx sm ex em ∧ (isK = nI 0 ∨ KpL ki kd kms kr ks kse kc kk kt kP ka oR o)
theorem Inv_0 {hx hm : Nat → Int32} (h1 : ∀ j, j < 8 → hx j = -1) (h2 : ∀ j, j < 8 → hm j = -1) {bx rx sx kx tx ax km tm am bm rm sm : Nat → Int32} {ex em : Nat → Int64} {ki kd kms : Int32} {kr : Int64} {ks kse kc : Int32} {kk kt : Nat → Int32} {kP : Int32} {ka : Nat → Int32} {oR : Int64} {o : Nat → Int32} (hr : ∀ i, i < 5 → rx i = nI 0) (hrm : ∀ i, i < 7 → rm i = nI 0) (hs : ∀ j, j < 8 → sx j = nI 0) : Inv (nI 0) (nI 0) (nI 2) (nI 0) (lN 0) (nI 0) (nI 0) kx tx (nI 0) ax (nI 0) bx rx hx sx ex ki kd kms kr ks kse kc kk kt kP ka km tm am bm rm hm sm em oR o := by
  refine ⟨0, 0, fun _ => 0, rfl, rfl, ⟨0, 0, 2, 0, 0, 0, fun _ => 0, fun _ => 0, fun _ => 0, rfl, rfl, rfl, rfl, rfl, rfl, ⟨by omega, Or.inr ⟨rfl, rfl⟩⟩, by omega, by omega, by omega, fun i _ => bt_0 i, ⟨by omega, fun l hl => by omega⟩, ⟨by omega, fun l hl => by omega⟩, by omega, fun i hi => by omega⟩, by omega, ⟨by omega, fun i hi => by omega⟩, fun i hi => by rw [hr i hi, hrm (i + 2) (by omega)], fun s hs' => ⟨by rw [h1 s hs', h2 s hs'], Or.inl ⟨h2 s hs', hs s hs'⟩⟩, Or.inl rfl⟩
theorem tp_of {sz : Nat} {bx bm : Nat → Int32} (hz : sz ≤ 250) (h : ∀ i, i < sz → ∃ b, b < 256 ∧ bx i = nI b ∧ bm i = nI b) : TpOk sz (fun i => xat (bx i)) bx bm := by
  refine ⟨hz, fun i hi => ?_⟩
  obtain ⟨b, hb, e1, e2⟩ := h i hi
  have : xat (bx i) = b := by rw [e1, xat_nI (by omega)]
  show xat (bx i) < 256 ∧ bx i = nI (xat (bx i)) ∧ bm i = nI (xat (bx i))
  rw [this]
  exact ⟨hb, e1, e2⟩
theorem of_tp {sz : Nat} {y : Nat → Nat} {bx bm : Nat → Int32} (h : TpOk sz y bx bm) : ∀ i, i < sz → ∃ b, b < 256 ∧ bx i = nI b ∧ bm i = nI b := fun i hi => ⟨y i, h.2 i hi⟩
theorem e_seed (s p1 : Int32) : f_X6_seed s p1 = some (s, p1) ∧ f_X7_seed s p1 = some (s, p1) := ⟨rfl, rfl⟩
theorem e_wipe (z : Int32) : f_X6_wipe z = some (z, nI 0) ∧ f_X7_wipe z = some (z, nI 0) := ⟨rfl, rfl⟩
theorem e_still (r : Int64) (n : Int32) : f_X6_still r n = some (n, lN 0, nI 0) ∧ f_X7_still r n = some (n, lN 0, nI 0) := ⟨rfl, rfl⟩
