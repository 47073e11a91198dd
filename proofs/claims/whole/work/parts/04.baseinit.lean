-- BASE for constructors: cells come new
def xPn (av : List Value) (X : xG) (ws : va_W) (sz : Nat) : Array Value → State → Prop := fun v U => v = av.toArray ∧ U.heap.size = sz ∧ xK X U ∧ xP X ws U.heap ∧ va_D (fun _ => True) ws
def xQn {S : Type} (φ : S → Prop) (X : xG) (wf : S → va_W) (A : Nat → Prop) : Array Value → State → Outcome → State → Prop := fun _ st oc t => oc = .returned none ∧ (∃ u : S, φ u ∧ xP X (wf u) t.heap ∧ va_D A (wf u)) ∧ va_F A st t
def XN (p : Program) (s : State) (m : MethodId) (args : Array Value) (c : Code) (cc : ByteArray) (nL : Nat) (R : String) (X : xG) (A : Nat → Prop) : Prop :=
  p.tables.exec = Jvm.exec ∧ c.code = cc ∧ c.maxLocals = nL ∧ s.vm.findClass R = some m.cls ∧ (∀ w ∈ xB, w.before args s = true) ∧ xK X s ∧ ∀ q, s.heap.size ≤ q → A q
theorem xnblind {av : List Value} {X : xG} {ws : va_W} {sz : Nat} : FrameBlind (xPn av X ws sz) := fun a U g mk h => ⟨h.1, h.2.1, xK_same rfl h.2.2.1, h.2.2.2.1, h.2.2.2.2⟩
/-- a class that is made: link, room, made ready, fields -/
def xCl (own : String) (idx ci N : Nat) (fs : List Value) : Prop := ∃ (C : String) (T : u_T) (ty : Nat → FieldType), vwCl[ci]? = some (C, T, N) ∧ Cond.classLink own idx C ∈ xB ∧ Cond.instantiable C N ∈ xB ∧ Cond.initialized C ∈ xB ∧ (∀ w ∈ u_ws C T N, w ∈ xB) ∧ (∀ k, k < N → parseFieldDescriptor (T k).2.2.1 = some (ty k)) ∧ ∀ j, j < N → defaultValue (ty j) = vp_V fs j
section XI
variable {p : Program} {l : Launch} {e : Env} {R : Room} {s : State} {m : MethodId} {args : Array Value} {below : List Frame} {meth : Method} {c : Code} {H : Heap} {locs : List Loc} {cells slots : Nat} {Q : State → Prop}
variable {cc : ByteArray} {pc nL : Nat} {ls : Array Slot} {rest : List Value} {own : String} {X : xG} {A : Nat → Prop}
theorem XN.C {ws : va_W} (hC : XN p s m args c cc nL own X A) : p.tables.exec = Jvm.exec ∧ c.code = cc ∧ s.vm.findClass own = some m.cls ∧ (∀ w ∈ xB, w.before args s = true) := ⟨hC.1, hC.2.1, hC.2.2.2.1, hC.2.2.2.2.1⟩
theorem n_new {idx ci N : Nat} {fs : List Value} {ws : va_W} (hC : XN p s m args c cc nL own X A) (hk : xCl own idx ci N fs) (hH : xH X A ws s.heap H locs) (hcells : cells + 1 ≤ R.cells) (hslots : slots + N ≤ R.slots) (hdg : decode cc pc = .ok (.new idx, 3))
    (kk : ∀ (q : Nat) (H : Heap), xH X A (ws ++ [(q, .inr (ci, fs))]) s.heap H locs → W p l e R s m args below meth c H locs (cells + 1) (slots + N) Q (F0 m (pc + 3) ls (.ref q :: rest))) : W p l e R s m args below meth c H locs cells slots Q (F0 m pc ls rest) := by
  obtain ⟨hx, hb, -, hown, hts, hK, hA⟩ := hC
  obtain ⟨C, T, ty, h1, h2, h3, h4, h5, h6, h7⟩ := hk
  exact va_new (D := X.1) hx hb hts h5 ty h6 hown (hts _ h2) (hts _ h3) (hts _ h4) hK.1 hH.1 hH.2.1 hH.2.2 hA h1 h7 hcells hslots hdg (fun q H1 hP hD hS => kk q H1 ⟨hP, hD, hS⟩)
theorem n_one {cA cB : ClassId} {tys : List (ClassId × FieldType)} {D : va_G} {cl : List vw_C} {U : State} {k : Nat} {ty : FieldType} (h1 : va_K D cl tys U) (hk : tys[k]? = some (cA, ty)) (hty : ∀ C, ty ≠ .object C) (h2 : va_K D cl (tys ++ [(cB, ty)]) U) : cB = cA := by
  have a := (h1.2 k _ hk).2
  have b := (h2.2 tys.length (cB, ty) (by rw [List.getElem?_append_right (Nat.le_refl _), Nat.sub_self]; rfl)).2
  cases ty with
  | object C => exact absurd rfl (hty C)
  | _ => exact (Option.some.inj (a.symm.trans b)).symm
theorem n_newaI {n : Int32} {N : Nat} {ws : va_W} (hC : XN p s m args c cc nL own X A) (harr : Cond.arrayClass .int ∈ xB) (hH : xH X A ws s.heap H locs) (hn : ¬ n < 0) (hN : n.toNatClampNeg = N) (hbytes : N * componentBytes .int ≤ 536870912) (hcells : cells + 1 ≤ R.cells) (hslots : slots + N ≤ R.slots) (hdg : decode cc pc = .ok (.newarray .int, 2))
    (kk : ∀ (q : Nat) (H : Heap), xH X A (ws ++ [(q, xI X N (fun _ => 0))]) s.heap H locs → W p l e R s m args below meth c H locs (cells + 1) (slots + N) Q (F0 m (pc + 2) ls (.ref q :: rest))) : W p l e R s m args below meth c H locs cells slots Q (F0 m pc ls (.int n :: rest)) := by
  obtain ⟨hx, hb, -, hown, hts, hK, hA⟩ := hC
  refine va_newa (D := X.1) (atype := .int) (ty := .int) hx hb (hts _ harr) rfl hK.1 hH.1 hH.2.1 hH.2.2 hA (a0 := (N, .inl (fun _ => 0))) (fun cA => rfl) hn hN hbytes hcells hslots hdg (fun q cA H1 hK1 hP hD hS => ?_)
  have e := n_one (k := 0) hK.1 rfl (fun C h => by cases h) hK1
  subst e
  exact kk q H1 ⟨hP, hD, hS⟩
theorem n_newaJ {n : Int32} {N : Nat} {ws : va_W} (hC : XN p s m args c cc nL own X A) (harr : Cond.arrayClass .long ∈ xB) (hH : xH X A ws s.heap H locs) (hn : ¬ n < 0) (hN : n.toNatClampNeg = N) (hbytes : N * componentBytes .long ≤ 536870912) (hcells : cells + 1 ≤ R.cells) (hslots : slots + N ≤ R.slots) (hdg : decode cc pc = .ok (.newarray .long, 2))
    (kk : ∀ (q : Nat) (H : Heap), xH X A (ws ++ [(q, xJ X N (fun _ => 0))]) s.heap H locs → W p l e R s m args below meth c H locs (cells + 1) (slots + N) Q (F0 m (pc + 2) ls (.ref q :: rest))) : W p l e R s m args below meth c H locs cells slots Q (F0 m pc ls (.int n :: rest)) := by
  obtain ⟨hx, hb, -, hown, hts, hK, hA⟩ := hC
  refine va_newa (D := X.1) (atype := .long) (ty := .long) hx hb (hts _ harr) rfl hK.1 hH.1 hH.2.1 hH.2.2 hA (a0 := (N, .inr (.inl (fun _ => 0)))) (fun cA => rfl) hn hN hbytes hcells hslots hdg (fun q cA H1 hK1 hP hD hS => ?_)
  have e := n_one (k := 1) hK.1 rfl (fun C h => by cases h) hK1
  subst e
  exact kk q H1 ⟨hP, hD, hS⟩
theorem n_newaZ {n : Int32} {N : Nat} {ws : va_W} (hC : XN p s m args c cc nL own X A) (harr : Cond.arrayClass .boolean ∈ xB) (hH : xH X A ws s.heap H locs) (hn : ¬ n < 0) (hN : n.toNatClampNeg = N) (hbytes : N * componentBytes .boolean ≤ 536870912) (hcells : cells + 1 ≤ R.cells) (hslots : slots + N ≤ R.slots) (hdg : decode cc pc = .ok (.newarray .boolean, 2))
    (kk : ∀ (q : Nat) (H : Heap), xH X A (ws ++ [(q, xZ X N (fun _ => 0))]) s.heap H locs → W p l e R s m args below meth c H locs (cells + 1) (slots + N) Q (F0 m (pc + 2) ls (.ref q :: rest))) : W p l e R s m args below meth c H locs cells slots Q (F0 m pc ls (.int n :: rest)) := by
  obtain ⟨hx, hb, -, hown, hts, hK, hA⟩ := hC
  refine va_newa (D := X.1) (atype := .boolean) (ty := .boolean) hx hb (hts _ harr) rfl hK.1 hH.1 hH.2.1 hH.2.2 hA (a0 := (N, .inl (fun _ => 0))) (fun cA => rfl) hn hN hbytes hcells hslots hdg (fun q cA H1 hK1 hP hD hS => ?_)
  have e := n_one (k := 2) hK.1 rfl (fun C h => by cases h) hK1
  subst e
  exact kk q H1 ⟨hP, hD, hS⟩
theorem n_put {idx ci k0 a : Nat} {fin : Bool} {ty : FieldType} {ws ws' : va_W} {fs : List Value} {v : Value} (hC : XN p s m args c cc nL own X A) (hin : meth.name = "<init>") (hF : xFd own idx ci k0 fin ty) (hdecl : ∀ C T N, vwCl[ci]? = some (C, T, N) → (T k0).1 = own) (hH : xH X A ws s.heap H locs) (q0 : Nat) (he : ws[q0]? = some (a, .inr (ci, fs))) (hl : k0 < fs.length) (hn : narrow ty v = v) (hfit : fits ty v = true) (hdg : decode cc pc = .ok (.putfield idx, 3)) (hw : ws.set q0 (a, .inr (ci, fs.set k0 v)) = ws')
    (kk : ∀ (H : Heap) (locs : List Loc), xH X A ws' s.heap H locs → W p l e R s m args below meth c H locs cells slots Q (F0 m (pc + 3) ls rest)) : W p l e R s m args below meth c H locs cells slots Q (F0 m pc ls (v :: .ref a :: rest)) := by
  obtain ⟨hx, hb, -, hown, hts, hK, hA⟩ := hC
  obtain ⟨C, T, N, ty0, h1, h2, h3, h4, h5, h6, h7, h8⟩ := hF
  subst hw
  cases fin with
  | true => exact va_putF (D := X.1) (C := C) (T := T) (N := N) hx hb hts h3 ty0 h7 h8 hown hK.1 hH.1 hH.2.1 hH.2.2 q0 he h1 k0 h2 (hts _ h4) (fun _ h9 => h9) h5 hin (hdecl C T N h1) h6 hn hfit hl hdg (fun H1 locs1 hP hD hS => kk H1 locs1 ⟨hP, hD, hS⟩)
  | false => exact va_put (D := X.1) (C := C) (T := T) (N := N) hx hb hts h3 ty0 h7 h8 hown hK.1 hH.1 hH.2.1 hH.2.2 q0 he h1 k0 h2 (hts _ h4) (fun _ h9 => h9) h5 h6 hn hfit hl hdg (fun H1 locs1 hP hD hS => kk H1 locs1 ⟨hP, hD, hS⟩)
theorem n_get {idx ci k0 a : Nat} {fin : Bool} {ty : FieldType} {ws : va_W} {fs : List Value} {v : Value} (hC : XN p s m args c cc nL own X A) (hF : xFd own idx ci k0 fin ty) (hP : xP X ws H) (q0 : Nat) (he : ws[q0]? = some (a, .inr (ci, fs))) (hv : fs[k0]? = some v) (hdg : decode cc pc = .ok (.getfield idx, 3)) (kk : W p l e R s m args below meth c H locs cells slots Q (F0 m (pc + 3) ls (v :: rest))) : W p l e R s m args below meth c H locs cells slots Q (F0 m pc ls (.ref a :: rest)) := by
  obtain ⟨hx, hb, -, hown, hts, hK, -⟩ := hC
  obtain ⟨C, T, N, ty0, h1, h2, h3, h4, -, -, -, -⟩ := hF
  exact va_get (D := X.1) (C := C) (T := T) (N := N) hx hb hts h3 hown hK.1 hP q0 he h1 k0 h2 (hts _ h4) (fun _ h9 => h9) hv hdg kk
theorem n_iast {a n : Nat} {f : Nat → Int32} {ws ws' : va_W} {i x : Int32} {H0 : Heap} (hC : XN p s m args c cc nL own X A) (hH : xH X A ws H0 H locs) (q0 : Nat) (he : ws[q0]? = some (a, xI X n f)) (hin : ¬ xout i n = true) (hdg : decode cc pc = .ok (.iastore, 1)) (hw : ws.set q0 (a, xI X n (upd f (xat i) x)) = ws')
    (kk : ∀ (H : Heap) (locs : List Loc), xH X A ws' H0 H locs → W p l e R s m args below meth c H locs cells slots Q (F0 m (pc + 1) ls rest)) : W p l e R s m args below meth c H locs cells slots Q (F0 m pc ls (.int x :: .int i :: .ref a :: rest)) := by
  obtain ⟨hx, hb, -, -, -, hK, -⟩ := hC
  subst hw
  exact va_iast (D := X.1) hx hb hK.1 hH.1 hH.2.1 hH.2.2 q0 0 he rfl (xin hin) hdg (fun H1 locs1 hP hD hS => kk H1 locs1 ⟨hP, hD, hS⟩)
theorem n_alen {a n : Nat} {f : Nat → Int32} {ws : va_W} (hC : XN p s m args c cc nL own X A) (hP : xP X ws H) (q0 : Nat) (he : ws[q0]? = some (a, xI X n f)) {v : Int32} (hv : Int32.ofNat n = v) (hdg : decode cc pc = .ok (.arraylength, 1)) (kk : W p l e R s m args below meth c H locs cells slots Q (F0 m (pc + 1) ls (.int v :: rest))) : W p l e R s m args below meth c H locs cells slots Q (F0 m pc ls (.ref a :: rest)) := by
  obtain ⟨hx, hb, -, -, -, hK, -⟩ := hC
  exact va_alen (D := X.1) hx hb hK.1 hP q0 0 he rfl hv hdg kk
/-- a constructor's call: the new object's cell is the last of the caller's -/
theorem n_init {idx maxL mc ms b : Nat} {y : MethodName} {bytes : ByteArray} {rm : Room} {S : Type} {φ : S → Prop} {wf : S → va_W} {ws wr wc : va_W} {st : List Value} (hC : XN p s m args c cc nL own X A) (hl : Cond.methodLink own idx y ∈ xB ∨ (own, idx, y) ∈ xNestM) (h1 : Cond.code y bytes maxL none ∈ xB) (h2 : Cond.initialized y.cls ∈ xB) (h3 : y.cls ≠ "java/lang/invoke/MethodHandle" ∧ y.cls ≠ "java/lang/invoke/VarHandle" ∧ (parseMethodDescriptor y.desc).map (fun d => d.parameters.length) = some 0) (h4 : y.name = "<init>") (h5 : Cond.instanceMethod y ∈ xB)
    (hM : ∀ sz, Met l y (xw y bytes maxL none) rm (xPn [.ref b] X wc sz) (xQn φ X wf (va_A wc sz)) mc ms (va_A wc sz)) (hH : xH X A ws s.heap H locs) (isC isR : List Nat) (hCp : isC.map (fun i => ws[i]?) = wc.map some) (hRp : isR.map (fun i => ws[i]?) = wr.map some) (hnC : va_nd isC = true) (hn : va_nd isR = true) (hdis : ∀ i ∈ isR, i ∉ isC)
    (hsz : ls.size = nL) (hst : st = .ref b :: rest) (hW : (rest.map fun v => v.category).sum ≤ 8) (hdg : decode cc pc = .ok (.invokespecial idx, 3)) (hR : rm.frames + 1 ≤ R.frames ∧ 8 + (maxL + 11) + rm.locals ≤ R.locals) (hmc : rm.cells = mc ∧ rm.slots = ms) (hfit : cells + mc ≤ R.cells ∧ slots + ms ≤ R.slots)
    (kk : ∀ (u : S) (H : Heap) (locs : List Loc), φ u → xH X A (wr ++ wf u) s.heap H locs → W p l e R s m args below meth c H locs (cells + mc) (slots + ms) Q (F0 m (pc + 3) ls rest)) : W p l e R s m args below meth c H locs cells slots Q (F0 m pc ls st) := by
  obtain ⟨hx, hb, hml, hown, hts, hK, hA⟩ := hC
  obtain ⟨hP, hD, hS⟩ := hH
  subst hst
  have hDc := hD.sub isC hnC hCp
  have hPc : xP X wc H := by
    intro k q hq
    have h1 : (isC.map (fun i => ws[i]?))[k]? = some (some q) := by rw [hCp, List.getElem?_map, hq]; rfl
    rw [List.getElem?_map] at h1
    cases hi : isC[k]? with
    | none => rw [hi] at h1; cases h1
    | some i => rw [hi] at h1; exact hP i q (Option.some.inj h1)
  have hF := va_free (wc := wc) hD hS hA isC hCp
  have hp : PreS s H (xPn [.ref b] X wc H.size) [.ref b] := ⟨xnblind, fun U hU hW => ⟨rfl, by rw [hU], xK_warm hW hK, by rw [hU]; exact hPc, hDc.weaken (fun _ _ _ _ => trivial)⟩⟩
  have hrun : va_Run p l e R s m args below meth c H locs cells slots mc ms (F0 m pc ls (.ref b :: rest)) rest (xQn φ X wf (va_A wc H.size) (Value.ref b :: []).toArray) (va_A wc H.size) := by
    rcases hl with hl | hl
    · exact va_runI (As := []) (rest := rest) ⟨hx, hb, hml, hown, hts⟩ (hM H.size) ⟨callB_of 0 hts (xw_good h1) rfl hmc.1 hmc.2 (hts _ h2) (hts _ hl) h3 hR, h4, hts _ h5⟩ hp rfl rfl hsz rfl (lv_room hW) hdg hfit
    · exact va_runIN (As := []) (rest := rest) ⟨hx, hb, hml, hown, hts⟩ (hM H.size) ⟨va_cnB 0 hts (xw_good h1) rfl hmc.1 hmc.2 (hK.2.2 _ hl) (hts _ h2) h3 hR, h4, hts _ h5⟩ hp rfl rfl hsz rfl (lv_room hW) hdg hfit
  intro T hT X0
  obtain ⟨v', st₀, t, T', L, h0, X', hL, e1, e2, ⟨ho, ⟨u, hφ, hP1, hD1⟩, hz, hk⟩, st⟩ := hrun T hT X0
  cases ho
  rw [h0] at hz hk
  obtain ⟨hP2, hD2⟩ := va_join (H1 := T'.heap) (wr := wr) (w1 := wf u) hP hD isC isR hCp hRp hn hdis (fun q h1 h2 => by rw [e1]; exact hk q h1 h2) hF (by rw [e1]; exact hP1) hD1
  obtain ⟨t2, a1, b1⟩ := kk u T'.heap (locs ++ L) hφ ⟨hP2, hD2, ⟨Nat.le_trans hS.1 (by rw [e1]; exact hz), fun q h1 h2 => by rw [e1, hk q (Nat.lt_of_lt_of_le h1 hS.1) (fun z => h2 (hF q z))]; exact hS.2.1 q h1 h2, fun q hq => by
      rcases List.mem_append.mp hq with h | h
      · exact hS.2.2 q h
      · exact hF _ (hL q h)⟩⟩ T' rfl X'
  exact ⟨t2, st t2 a1, b1⟩
theorem n_obj {idx : Nat} {a : Nat} (hC : XN p s m args c cc nL own X A) (hl : Cond.methodLink own idx objectInit ∈ xB) (h1 : Cond.instanceMethod objectInit ∈ xB) (h2 : Cond.code objectInit ⟨#[0xb1]⟩ 1 none ∈ xB) (hsz : ls.size = nL) (hdg : decode cc pc = .ok (.invokespecial idx, 3)) (hframes : 1 ≤ R.frames) (hlocals : 12 ≤ R.locals) (kk : W p l e R s m args below meth c H locs cells slots Q (F0 m (pc + 3) ls [])) : W p l e R s m args below meth c H locs cells slots Q (F0 m pc ls [.ref a]) := by
  obtain ⟨hx, hb, hml, hown, hts, hK, hA⟩ := hC
  exact W.objInit hx hb hown (hts _ hl) (hts _ h1) (hts _ h2) rfl (by rw [hml]; exact hsz) rfl hdg hframes hlocals kk
theorem n_ret {S : Type} {φ : S → Prop} {wf : S → va_W} {ws : va_W} (hC : XN p s m args c cc nL own X A) (hr : meth.sig.returnType = none) (hlk : meth.locks = false) (hH : xH X A ws s.heap H locs) (u : S) (hφ : φ u) (hw : ws = wf u) {mc ms : Nat} (hc : cells ≤ mc) (hs : slots ≤ ms) (hdg : decode cc pc = .ok (.return_, 1)) : W p l e R s m args below meth c H locs cells slots (MQ below (xQn φ X wf A) args s mc ms A) (F0 m pc ls []) := by
  refine W.widen hc hs ?_
  subst hw
  exact W.vret hC.1 hC.2.1 hr (fun t ht _ => ⟨rfl, ⟨u, hφ, by rw [ht]; exact hH.1, hH.2.1⟩, hH.2.2.F ht⟩) hH.2.2.2.2 hdg hlk
end XI
theorem xMetn {l : Launch} {y : MethodName} {cc : ByteArray} {maxL : Nat} {rm : Room} {b sz : Nat} {X : xG} {ws : va_W} {S : Type} {φ : S → Prop} {wf : S → va_W} {mc ms : Nat} (hy : plainName y.cls = true) (hyn : y.name = "<init>") (hav : 1 ≤ maxL)
    (body : ∀ (p : Program) (e : Env) (s : State) (m : MethodId) (args : Array Value) (below : List Frame) (meth : Method) (c : Code) (ls : Array Slot) (A : Nat → Prop), XN p s m args c cc maxL y.cls X A → meth.name = "<init>" → meth.sig.returnType = none → meth.locks = false → xH X A ws s.heap s.heap [] → lv_has ls maxL [(0, .ref b)] → W p l e rm s m args below meth c s.heap [] 0 0 (MQ below (xQn φ X wf A) args s mc ms A) (F0 m 0 ls [])) :
    Met l y (xw y cc maxL none) rm (xPn [.ref b] X ws sz) (xQn φ X wf (va_A ws sz)) mc ms (va_A ws sz) := by
  refine Met.ofW (cc := cc) (maxL := maxL) (ret := none) hy rfl ?_
  intro p e s m args below meth c s₁ B hml hv
  obtain ⟨rfl, hsz, hK, hP, hD0⟩ := hv
  subst hsz
  have hl := lv_entry [.ref b] (n := maxL) hav
  rw [lg_entry_eq]
  exact body p e s m _ below meth c _ (va_A ws s.heap.size) ⟨B.exec, B.bytes, hml, findClass_of_methodNamed B.named, fun w h => atoms_spec (ws := xw y cc maxL none) B.pre w (List.mem_cons_of_mem _ h), hK, fun q h => Or.inr h⟩ ((name_of_methodNamed B.named B.method).1.trans hyn) B.returns B.notSynchronized ⟨hP, hD0.self, va_S.rf⟩ hl
