-- BASE: words, the context of a walk, the two kinds of contract (reading, writing), loops with a number
abbrev xG : Type := va_G × ClassId × ClassId × ClassId × (Nat → Nat) × (Nat → Nat)
abbrev xI (X : xG) (n : Nat) (f : Nat → Int32) : va_E := .inl (X.2.1, n, .inl f)
abbrev xJ (X : xG) (n : Nat) (f : Nat → Int64) : va_E := .inl (X.2.2.1, n, .inr (.inl f))
abbrev xZ (X : xG) (n : Nat) (f : Nat → Int32) : va_E := .inl (X.2.2.2.1, n, .inl f)
abbrev xO (k : Nat) (fs : List Value) : va_E := .inr (k, fs)
abbrev xT (X : xG) : List (ClassId × FieldType) := [(X.2.1, .int), (X.2.2.1, .long), (X.2.2.2.1, .boolean)]
def xNw (U : State) : Prop := (∀ q ∈ xNestF, va_Nw (xnF q) U) ∧ ∀ q ∈ xNestM, va_Nw (xnM q) U
def xK (X : xG) (U : State) : Prop := va_K X.1 vwCl (xT X) U ∧ xNw U
theorem xK_warm {X : xG} {u U : State} (h : u.WarmedH U.vm) (k : xK X u) : xK X U := ⟨va_K.moved h.alike k.1, fun q hq => va_Nw.warmF h (k.2.1 q hq), fun q hq => va_Nw.warmM h (k.2.2 q hq)⟩
theorem xK_same {X : xG} {u U : State} (h : u.vm = U.vm) (k : xK X u) : xK X U := ⟨va_K.moved (h ▸ Vm.Alike.refl u.vm) k.1, fun q hq => va_Nw.same rfl h (k.2.1 q hq), fun q hq => va_Nw.same rfl h (k.2.2 q hq)⟩
-- the String constants: class, entry, text, which of the seven
def xStr : List (String × Nat × String × Nat) := [(RX1, 39, "law", 0), (RX1, 48, "use", 1), (RX1, 53, "depth", 2), (RX1, 58, "miss", 3), (RX1, 63, "ring", 4), (RX1, 68, "person", 5), (RX1, 73, "still", 6), (RX7, 145, "law", 0), (RX7, 154, "use", 1), (RX7, 156, "depth", 2), (RX7, 157, "miss", 3), (RX7, 158, "ring", 4), (RX7, 167, "person", 5), (RX7, 169, "still", 6)]
def xByt : List (List Int32) := [[108, 97, 119], [117, 115, 101], [100, 101, 112, 116, 104], [109, 105, 115, 115], [114, 105, 110, 103], [112, 101, 114, 115, 111, 110], [115, 116, 105, 108, 108]]
def xLen : List Nat := [3, 3, 5, 4, 4, 6, 5]
def xS (X : xG) (A : Nat → Prop) (U : State) (H : Heap) : Prop := (∀ q ∈ xStr, vk_R q.1 q.2.1 q.2.2.1 (X.2.2.2.2.1 q.2.2.2) U) ∧ vk_S 7 xLen xByt X.2.2.2.2.1 X.2.2.2.2.2 A U H ∧ va_Z "java/lang/String" "COMPACT_STRINGS" "Z" (.int 1) A U H ∧ va_Zq "jdk/internal/util/Preconditions" "SIOOBE_FORMATTER" "Ljava/util/function/BiFunction;" A U H
theorem xS_warm {X : xG} {A : Nat → Prop} {u U : State} {H : Heap} (h : u.WarmedH U.vm) (k : xS X A u H) : xS X A U H := ⟨fun q hq => vk_R.warm h (k.1 q hq), vk_S.moved h.alike k.2.1, va_Z.moved h.alike k.2.2.1, va_Zq.moved h.alike k.2.2.2⟩
theorem xS_same {X : xG} {A : Nat → Prop} {u U : State} {H : Heap} (h : U.vm = u.vm) (k : xS X A u H) : xS X A U H := ⟨fun q hq => vk_R.same h (k.1 q hq), vk_S.moved (h ▸ Vm.Alike.refl U.vm) k.2.1, va_Z.moved (h ▸ Vm.Alike.refl U.vm) k.2.2.1, va_Zq.moved (h ▸ Vm.Alike.refl U.vm) k.2.2.2⟩
theorem xS_kept {X : xG} {A : Nat → Prop} {U : State} {H H1 : Heap} (k : xS X A U H) (hq : ∀ a : Nat, a < H.size → ¬ A a → H1[a]? = H[a]?) : xS X A U H1 := ⟨k.1, k.2.1.kept hq, k.2.2.1.kept hq, k.2.2.2.kept hq⟩
theorem xS_narrow {X : xG} {A B : Nat → Prop} {U : State} {H : Heap} (k : xS X A U H) (h : ∀ q, B q → A q) : xS X B U H := ⟨k.1, k.2.1.narrow h, k.2.2.1.narrow h, k.2.2.2.narrow h⟩
def xP (X : xG) (ws : va_W) (H : Heap) : Prop := va_P X.1 vwCl ws H
theorem xP_sub {X : xG} {ws ws' : va_W} {H : Heap} (h : xP X ws H) (is : List Nat) (hs : is.filterMap (fun i => ws[i]?) = ws') : xP X ws' H := va_P.sub h is hs
def xw (y : MethodName) (cc : ByteArray) (maxL : Nat) (ret : Option FieldType) : List Cond := .code y cc maxL ret :: xB
theorem xw_good {y : MethodName} {cc : ByteArray} {maxL : Nat} {ret : Option FieldType} (h : Cond.code y cc maxL ret ∈ xB) : GoodIn xB (xw y cc maxL ret) := fun w hw => (List.mem_cons.mp hw).elim (fun e => by subst e; exact ⟨h, xB_good h⟩) (fun h2 => ⟨h2, xB_good h2⟩)
/-- what a walk knows of its machine -/
def XC (p : Program) (s : State) (m : MethodId) (args : Array Value) (c : Code) (cc : ByteArray) (nL : Nat) (R : String) (X : xG) (A : Nat → Prop) : Prop :=
  p.tables.exec = Jvm.exec ∧ c.code = cc ∧ c.maxLocals = nL ∧ s.vm.findClass R = some m.cls ∧ (∀ w ∈ xB, w.before args s = true) ∧ xK X s ∧ xS X A s s.heap
/-- a method: its code, its class, how many parameters -/
def xMd (y : MethodName) (cc : ByteArray) (maxL : Nat) (ret : Option FieldType) (n : Nat) : Prop := Cond.code y cc maxL ret ∈ xB ∧ Cond.initialized y.cls ∈ xB ∧ (y.cls ≠ "java/lang/invoke/MethodHandle" ∧ y.cls ≠ "java/lang/invoke/VarHandle" ∧ (parseMethodDescriptor y.desc).map (fun d => d.parameters.length) = some n) ∧ plainName y.cls = true
def xMv (y : MethodName) (cc : ByteArray) (maxL : Nat) (ret : Option FieldType) (n : Nat) : Prop := xMd y cc maxL ret n ∧ Cond.instanceMethod y ∈ xB ∧ Cond.selects y.cls y y ∈ xB
def xMs (y : MethodName) (cc : ByteArray) (maxL : Nat) (ret : Option FieldType) (n : Nat) : Prop := xMd y cc maxL ret n ∧ Cond.static y ∈ xB
/-- a field: class number, place, whether final -/
def xFd (own : String) (idx ci k : Nat) (fin : Bool) (ty : FieldType) : Prop := ∃ (C : String) (T : u_T) (N : Nat) (ty0 : Nat → FieldType), vwCl[ci]? = some (C, T, N) ∧ k < N ∧ (∀ w ∈ u_ws C T N, w ∈ xB) ∧ Cond.fieldLink own idx (T k).1 (T k).2.1 (T k).2.2.1 ∈ xB ∧ (T k).2.2.2 = fin ∧ parseFieldDescriptor (T k).2.2.1 = some ty ∧ (∀ k, k < N → parseFieldDescriptor (T k).2.2.1 = some (ty0 k)) ∧ (∀ a, a < N → ∀ b, b < N → a ≠ b → (T a).2.1 ≠ (T b).2.1)
def xFdN (own : String) (idx ci k : Nat) (fin : Bool) (ty : FieldType) : Prop := ∃ (C : String) (T : u_T) (N : Nat) (ty0 : Nat → FieldType), vwCl[ci]? = some (C, T, N) ∧ k < N ∧ (∀ w ∈ u_ws C T N, w ∈ xB) ∧ (own, idx, (T k).1, (T k).2.1, (T k).2.2.1) ∈ xNestF ∧ (T k).2.2.2 = fin ∧ parseFieldDescriptor (T k).2.2.1 = some ty ∧ (∀ k, k < N → parseFieldDescriptor (T k).2.2.1 = some (ty0 k)) ∧ (∀ a, a < N → ∀ b, b < N → a ≠ b → (T a).2.1 ≠ (T b).2.1)
def xAs (ws : va_W) : Nat → Prop := fun q => q ∈ ws.map (·.1)
def xPc (av : List Value) (X : xG) (ws : va_W) : Array Value → State → Prop := fun v U => v = av.toArray ∧ xK X U ∧ xP X ws U.heap ∧ va_D (fun _ => True) ws ∧ xS X (xAs ws) U U.heap
/-- a reading method's end -/
def xQ (φ : Prop) (o : Outcome) : Array Value → State → Outcome → State → Prop := fun _ st oc t => oc = o ∧ φ ∧ t.heap = st.heap
/-- a writing method's end -/
def xQw (φ : Prop) (o : Outcome) (X : xG) (ws' : va_W) (A : Nat → Prop) : Array Value → State → Outcome → State → Prop := fun _ st oc t => oc = o ∧ φ ∧ xP X ws' t.heap ∧ va_F A st t
def xNo : Addr → Prop := fun _ => False
/-- the heap in a writing walk -/
def xH (X : xG) (A : Nat → Prop) (ws : va_W) (H0 H : Heap) (locs : List Loc) : Prop := xP X ws H ∧ va_D A ws ∧ va_S A H0 H locs
theorem xblind {av : List Value} {X : xG} {ws : va_W} : FrameBlind (xPc av X ws) := fun a U g mk h => ⟨h.1, xK_same rfl h.2.1, h.2.2.1, h.2.2.2.1, xS_same rfl h.2.2.2.2⟩
theorem xD_map {A : Nat → Prop} {ws ws' : va_W} (h : va_D A ws) (e : ws'.map (·.1) = ws.map (·.1)) : va_D A ws' := by
  have key : ∀ (k : Nat) (q : Nat × va_E), ws'[k]? = some q → ∃ q0, ws[k]? = some q0 ∧ q0.1 = q.1 := by
    intro k q hk
    have h1 : (ws'.map (·.1))[k]? = some q.1 := by rw [List.getElem?_map, hk]; rfl
    rw [e, List.getElem?_map] at h1
    cases hq : ws[k]? with
    | none => rw [hq] at h1; cases h1
    | some q0 => rw [hq] at h1; exact ⟨q0, rfl, Option.some.inj h1⟩
  refine ⟨fun i j x y hi hj hxy => ?_, fun k q hk => ?_⟩
  · obtain ⟨x0, h1, h2⟩ := key i x hi
    obtain ⟨y0, h3, h4⟩ := key j y hj
    exact h.1 i j x0 y0 h1 h3 (h2.trans (hxy.trans h4.symm))
  · obtain ⟨q0, h1, h2⟩ := key k q hk
    rw [← h2]; exact h.2 k q0 h1
theorem xAs_of {ws : va_W} {k : Nat} {q : Nat × va_E} (h : ws[k]? = some q) : xAs ws q.1 := List.mem_map.mpr ⟨q, List.mem_of_getElem? h, rfl⟩
theorem xD_self {A : Nat → Prop} {ws : va_W} (h : va_D A ws) : va_D (xAs ws) ws := ⟨h.1, fun _ _ hk => xAs_of hk⟩
def xset : va_W → List Nat → va_W → va_W
  | ws, i :: is, q :: w => xset (ws.set i q) is w
  | ws, _, _ => ws
theorem xset_len (ws : va_W) (is : List Nat) (w : va_W) : (xset ws is w).length = ws.length := by
  induction is generalizing ws w with
  | nil => cases w <;> rfl
  | cons i is ih => cases w with
    | nil => rfl
    | cons q w => rw [xset, ih, List.length_set]
theorem xset_at (ws : va_W) (is : List Nat) (w : va_W) (hl : is.length = w.length) (k : Nat) (q : Nat × va_E) (h : (xset ws is w)[k]? = some q) : (∃ j : Nat, is[j]? = some k ∧ w[j]? = some q) ∨ (k ∉ is ∧ ws[k]? = some q) := by
  induction is generalizing ws w with
  | nil => cases w with
    | nil => exact Or.inr ⟨List.not_mem_nil, h⟩
    | cons q w => cases hl
  | cons i is ih => cases w with
    | nil => cases hl
    | cons q0 w =>
      rw [xset] at h
      rcases ih (ws.set i q0) w (by simpa using hl) h with ⟨j, h1, h2⟩ | ⟨h1, h2⟩
      · exact Or.inl ⟨j + 1, h1, h2⟩
      · by_cases hk : k = i
        · subst hk
          have hlt : k < (ws.set k q0).length := (List.getElem?_eq_some_iff.mp h2).1
          rw [List.length_set] at hlt
          rw [List.getElem?_set_self hlt] at h2
          exact Or.inl ⟨0, rfl, h2⟩
        · rw [List.getElem?_set_ne (Ne.symm hk)] at h2
          exact Or.inr ⟨fun hm => (List.mem_cons.mp hm).elim hk h1, h2⟩
/-- behind a call that writes: the caller's world with the callee's cells as they are now -/
theorem x_upd {A : Nat → Prop} {X : xG} {ws wc w1 ws' : va_W} {H H1 : Heap} (hP : xP X ws H) (hD : va_D A ws) (is : List Nat) (hC : is.map (fun i => ws[i]?) = wc.map some) (ha : w1.map (·.1) = wc.map (·.1))
    (hk : ∀ q : Nat, q < H.size → ¬ xAs wc q → H1[q]? = H[q]?) (hP1 : xP X w1 H1) (hw : xset ws is w1 = ws') : xP X ws' H1 := by
  subst hw
  have l1 : is.length = wc.length := by have := congrArg List.length hC; simpa using this
  have l2 : w1.length = wc.length := by have := congrArg List.length ha; simpa using this
  intro k q hq
  rcases xset_at ws is w1 (l1.trans l2.symm) k q hq with ⟨j, -, h2⟩ | ⟨h1, h2⟩
  · exact hP1 j q h2
  · refine (hP k q h2).kept (hk q.1 (hP k q h2).lt (fun hm => ?_))
    obtain ⟨q2, hm2, he⟩ := List.mem_map.mp hm
    obtain ⟨j, hj⟩ := List.getElem?_of_mem hm2
    have h3 : (is.map (fun i => ws[i]?))[j]? = some (some q2) := by rw [hC, List.getElem?_map, hj]; rfl
    rw [List.getElem?_map] at h3
    cases hi : is[j]? with
    | none => rw [hi] at h3; cases h3
    | some i =>
      rw [hi] at h3
      have h4 := hD.1 k i q q2 h2 (Option.some.inj h3) he.symm
      subst h4
      exact h1 (List.mem_of_getElem? hi)
abbrev xrm (f n : Nat) : Room := { frames := f, cells := 0, slots := 0, locals := n }
-- arithmetic under names
def xrem (x y : Int32) : Int32 := x - x / y * y
def xshl (x y : Int32) : Int32 := x <<< (y &&& 31)
def xshr (x y : Int32) : Int32 := x >>> (y &&& 31)
def xushr (x y : Int32) : Int32 := (x.toUInt32 >>> (y.toUInt32 &&& Int32.toUInt32 31)).toInt32
def xlshl (x : Int64) (y : Int32) : Int64 := x <<< (y.toInt64 &&& 63)
def xlshr (x : Int64) (y : Int32) : Int64 := x >>> (y.toInt64 &&& 63)
def xlushr (x : Int64) (y : Int32) : Int64 := (x.toUInt64 >>> (y.toInt64.toUInt64 &&& Int64.toUInt64 63)).toInt64
def xcmp (x y : Int64) : Int32 := lg_cmp x y
def xmax (x y : Int32) : Int32 := if x < y then y else x
def xmin (x y : Int32) : Int32 := if y < x then y else x
def xabs (x : Int32) : Int32 := if 0 ≤ x then x else 0 - x
def xat (i : Int32) : Nat := i.toNatClampNeg
/-- an index is out of a row of n -/
def xout (i : Int32) (n : Nat) : Bool := decide (i < 0 ∨ n ≤ i.toNatClampNeg)
theorem xin {i : Int32} {n : Nat} (h : ¬ xout i n = true) : vp_in i n := fun h2 => h (decide_eq_true h2)
theorem xin' {i : Int32} {n : Nat} (h : ¬ (i < 0 ∨ n ≤ i.toNatClampNeg)) : ¬ xout i n = true := fun h2 => h (of_decide_eq_true h2)
-- loops with a number
def xloop {S R : Type} (body : S → Option (R ⊕ S)) : Nat → S → Option R
  | 0, _ => none
  | k + 1, s => (body s).bind (fun o => o.elim some (xloop body k))
theorem xloop_0 {S R : Type} {body : S → Option (R ⊕ S)} {s : S} {r : R} {P : Prop} (h : xloop body 0 s = some r) : P := by cases h
theorem xloop_s {S R : Type} {body : S → Option (R ⊕ S)} {k : Nat} {s : S} {r : R} (h : xloop body (k + 1) s = some r) : ∃ o, body s = some o ∧ o.elim some (xloop body k) = some r := Option.bind_eq_some_iff.mp h
theorem xo_ret {S R : Type} {body : S → Option (R ⊕ S)} {k : Nat} {x r : R} {o : R ⊕ S} (h : some (Sum.inl x) = some o) (ho : o.elim some (xloop body k) = some r) : some x = some r := by cases h; exact ho
theorem xo_go {S R : Type} {body : S → Option (R ⊕ S)} {k : Nat} {s : S} {r : R} {o : R ⊕ S} (h : some (Sum.inr s) = some o) (ho : o.elim some (xloop body k) = some r) : xloop body k s = some r := by cases h; exact ho
/-- how many steps a loop may take -/
def xN : Nat := 20000
theorem xb {α β : Type} {o : Option α} {f : α → Option β} {b : β} (h : o.bind f = some b) : ∃ a, o = some a ∧ f a = some b := Option.bind_eq_some_iff.mp h
theorem xt {α : Type} {c : Prop} [Decidable c] {a b r : α} (hc : c) (h : (if c then a else b) = r) : a = r := by rw [if_pos hc] at h; exact h
theorem xe {α : Type} {c : Prop} [Decidable c] {a b r : α} (hc : ¬ c) (h : (if c then a else b) = r) : b = r := by rw [if_neg hc] at h; exact h
theorem xok {α : Type} {c : Prop} [Decidable c] {a : Option α} {r : α} (h : (if c then none else a) = some r) : ¬ c ∧ a = some r := by
  by_cases hc : c
  · rw [if_pos hc] at h; cases h
  · rw [if_neg hc] at h; exact ⟨hc, h⟩
section XR
variable {p : Program} {l : Launch} {e : Env} {R : Room} {s : State} {m : MethodId} {args : Array Value} {below : List Frame} {meth : Method} {c : Code} {H : Heap} {locs : List Loc} {cells slots : Nat} {Q : State → Prop}
variable {cc : ByteArray} {pc nL : Nat} {ls : Array Slot} {rest : List Value} {own : String} {X : xG} {A : Nat → Prop}
theorem x_irem (hexec : p.tables.exec = Jvm.exec) (hb : c.code = cc) {x y : Int32} (hdg : decode cc pc = .ok (.irem, 1)) (hne : ¬ y = 0) (k : W p l e R s m args below meth c H locs cells slots Q (F0 m (pc + 1) ls (.int (xrem x y) :: rest))) : W p l e R s m args below meth c H locs cells slots Q (F0 m pc ls (.int y :: .int x :: rest)) := lv_irem hexec hb hdg hne k
theorem x_ishl (hexec : p.tables.exec = Jvm.exec) (hb : c.code = cc) {x y : Int32} (hdg : decode cc pc = .ok (.ishl, 1)) (k : W p l e R s m args below meth c H locs cells slots Q (F0 m (pc + 1) ls (.int (xshl x y) :: rest))) : W p l e R s m args below meth c H locs cells slots Q (F0 m pc ls (.int y :: .int x :: rest)) := lv_ishl hexec hb hdg k
theorem x_ishr (hexec : p.tables.exec = Jvm.exec) (hb : c.code = cc) {x y : Int32} (hdg : decode cc pc = .ok (.ishr, 1)) (k : W p l e R s m args below meth c H locs cells slots Q (F0 m (pc + 1) ls (.int (xshr x y) :: rest))) : W p l e R s m args below meth c H locs cells slots Q (F0 m pc ls (.int y :: .int x :: rest)) := lv_ishr hexec hb hdg k
theorem x_iushr (hexec : p.tables.exec = Jvm.exec) (hb : c.code = cc) {x y : Int32} (hdg : decode cc pc = .ok (.iushr, 1)) (k : W p l e R s m args below meth c H locs cells slots Q (F0 m (pc + 1) ls (.int (xushr x y) :: rest))) : W p l e R s m args below meth c H locs cells slots Q (F0 m pc ls (.int y :: .int x :: rest)) := lv_iushr hexec hb hdg rfl k
theorem x_lshl (hexec : p.tables.exec = Jvm.exec) (hb : c.code = cc) {x : Int64} {y : Int32} (hdg : decode cc pc = .ok (.lshl, 1)) (k : W p l e R s m args below meth c H locs cells slots Q (F0 m (pc + 1) ls (.long (xlshl x y) :: rest))) : W p l e R s m args below meth c H locs cells slots Q (F0 m pc ls (.int y :: .long x :: rest)) := lv_lshl hexec hb hdg rfl k
theorem x_lshr (hexec : p.tables.exec = Jvm.exec) (hb : c.code = cc) {x : Int64} {y : Int32} (hdg : decode cc pc = .ok (.lshr, 1)) (k : W p l e R s m args below meth c H locs cells slots Q (F0 m (pc + 1) ls (.long (xlshr x y) :: rest))) : W p l e R s m args below meth c H locs cells slots Q (F0 m pc ls (.int y :: .long x :: rest)) := lv_lshr hexec hb hdg rfl k
theorem x_lushr (hexec : p.tables.exec = Jvm.exec) (hb : c.code = cc) {x : Int64} {y : Int32} (hdg : decode cc pc = .ok (.lushr, 1)) (k : W p l e R s m args below meth c H locs cells slots Q (F0 m (pc + 1) ls (.long (xlushr x y) :: rest))) : W p l e R s m args below meth c H locs cells slots Q (F0 m pc ls (.int y :: .long x :: rest)) := lv_lushr hexec hb hdg rfl k
theorem x_lcmp (hexec : p.tables.exec = Jvm.exec) (hb : c.code = cc) {x y : Int64} (hdg : decode cc pc = .ok (.lcmp, 1)) (k : W p l e R s m args below meth c H locs cells slots Q (F0 m (pc + 1) ls (.int (xcmp x y) :: rest))) : W p l e R s m args below meth c H locs cells slots Q (F0 m pc ls (.long y :: .long x :: rest)) := W.lcmp hexec hb hdg k
theorem x_get {idx ci k0 a : Nat} {fin : Bool} {ty : FieldType} {ws : va_W} {fs : List Value} {v : Value} (hC : XC p s m args c cc nL own X A) (hF : xFd own idx ci k0 fin ty) (hP : xP X ws H) (q0 : Nat) (he : ws[q0]? = some (a, .inr (ci, fs))) (hv : fs[k0]? = some v) (hdg : decode cc pc = .ok (.getfield idx, 3)) (kk : W p l e R s m args below meth c H locs cells slots Q (F0 m (pc + 3) ls (v :: rest))) : W p l e R s m args below meth c H locs cells slots Q (F0 m pc ls (.ref a :: rest)) := by
  obtain ⟨hx, hb, -, hown, hts, hK, -⟩ := hC
  obtain ⟨C, T, N, ty0, h1, h2, h3, h4, -, -, -, -⟩ := hF
  exact va_get (D := X.1) (C := C) (T := T) (N := N) hx hb hts h3 hown hK.1 hP q0 he h1 k0 h2 (hts _ h4) (fun _ h9 => h9) hv hdg kk
theorem x_put {idx ci k0 a : Nat} {ty : FieldType} {ws ws' : va_W} {fs : List Value} {v : Value} {H0 : Heap} (hC : XC p s m args c cc nL own X A) (hF : xFd own idx ci k0 false ty) (hH : xH X A ws H0 H locs) (q0 : Nat) (he : ws[q0]? = some (a, .inr (ci, fs))) (hl : k0 < fs.length) (hn : narrow ty v = v) (hfit : fits ty v = true) (hdg : decode cc pc = .ok (.putfield idx, 3)) (hw : ws.set q0 (a, .inr (ci, fs.set k0 v)) = ws')
    (kk : ∀ (H : Heap) (locs : List Loc), xH X A ws' H0 H locs → W p l e R s m args below meth c H locs cells slots Q (F0 m (pc + 3) ls rest)) : W p l e R s m args below meth c H locs cells slots Q (F0 m pc ls (v :: .ref a :: rest)) := by
  obtain ⟨hx, hb, -, hown, hts, hK, -⟩ := hC
  obtain ⟨C, T, N, ty0, h1, h2, h3, h4, h5, h6, h7, h8⟩ := hF
  subst hw
  exact va_put (D := X.1) (C := C) (T := T) (N := N) hx hb hts h3 ty0 h7 h8 hown hK.1 hH.1 hH.2.1 hH.2.2 q0 he h1 k0 h2 (hts _ h4) (fun _ h9 => h9) h5 h6 hn hfit hl hdg (fun H1 locs1 hP hD hS => kk H1 locs1 ⟨hP, hD, hS⟩)
theorem x_getN {idx ci k0 a : Nat} {fin : Bool} {ty : FieldType} {ws : va_W} {fs : List Value} {v : Value} (hC : XC p s m args c cc nL own X A) (hF : xFdN own idx ci k0 fin ty) (hP : xP X ws H) (q0 : Nat) (he : ws[q0]? = some (a, .inr (ci, fs))) (hv : fs[k0]? = some v) (hdg : decode cc pc = .ok (.getfield idx, 3)) (kk : W p l e R s m args below meth c H locs cells slots Q (F0 m (pc + 3) ls (v :: rest))) : W p l e R s m args below meth c H locs cells slots Q (F0 m pc ls (.ref a :: rest)) := by
  obtain ⟨hx, hb, -, hown, hts, hK, -⟩ := hC
  obtain ⟨C, T, N, ty0, h1, h2, h3, h4, -, -, -, -⟩ := hF
  exact va_getN (D := X.1) (C := C) (T := T) (N := N) hx hb hts h3 hown hK.1 hP q0 he h1 k0 h2 (va_Nw.use rfl (hK.2.1 _ h4)) (fun _ h9 => h9) hv hdg kk
theorem x_putN {idx ci k0 a : Nat} {ty : FieldType} {ws ws' : va_W} {fs : List Value} {v : Value} {H0 : Heap} (hC : XC p s m args c cc nL own X A) (hF : xFdN own idx ci k0 false ty) (hH : xH X A ws H0 H locs) (q0 : Nat) (he : ws[q0]? = some (a, .inr (ci, fs))) (hl : k0 < fs.length) (hn : narrow ty v = v) (hfit : fits ty v = true) (hdg : decode cc pc = .ok (.putfield idx, 3)) (hw : ws.set q0 (a, .inr (ci, fs.set k0 v)) = ws')
    (kk : ∀ (H : Heap) (locs : List Loc), xH X A ws' H0 H locs → W p l e R s m args below meth c H locs cells slots Q (F0 m (pc + 3) ls rest)) : W p l e R s m args below meth c H locs cells slots Q (F0 m pc ls (v :: .ref a :: rest)) := by
  obtain ⟨hx, hb, -, hown, hts, hK, -⟩ := hC
  obtain ⟨C, T, N, ty0, h1, h2, h3, h4, h5, h6, h7, h8⟩ := hF
  subst hw
  exact va_putN (D := X.1) (C := C) (T := T) (N := N) hx hb hts h3 ty0 h7 h8 hown hK.1 hH.1 hH.2.1 hH.2.2 q0 he h1 k0 h2 (va_Nw.use rfl (hK.2.1 _ h4)) (fun _ h9 => h9) h5 h6 hn hfit hl hdg (fun H1 locs1 hP hD hS => kk H1 locs1 ⟨hP, hD, hS⟩)
theorem x_iald {a n : Nat} {f : Nat → Int32} {ws : va_W} {i : Int32} (hC : XC p s m args c cc nL own X A) (hP : xP X ws H) (q0 : Nat) (he : ws[q0]? = some (a, xI X n f)) (hin : ¬ xout i n = true) (hdg : decode cc pc = .ok (.iaload, 1)) (kk : W p l e R s m args below meth c H locs cells slots Q (F0 m (pc + 1) ls (.int (f (xat i)) :: rest))) : W p l e R s m args below meth c H locs cells slots Q (F0 m pc ls (.int i :: .ref a :: rest)) := by
  obtain ⟨hx, hb, -, -, -, hK, -⟩ := hC
  exact va_iald (D := X.1) hx hb hK.1 hP q0 0 he rfl (xin hin) hdg kk
theorem x_lald {a n : Nat} {f : Nat → Int64} {ws : va_W} {i : Int32} (hC : XC p s m args c cc nL own X A) (hP : xP X ws H) (q0 : Nat) (he : ws[q0]? = some (a, xJ X n f)) (hin : ¬ xout i n = true) (hdg : decode cc pc = .ok (.laload, 1)) (kk : W p l e R s m args below meth c H locs cells slots Q (F0 m (pc + 1) ls (.long (f (xat i)) :: rest))) : W p l e R s m args below meth c H locs cells slots Q (F0 m pc ls (.int i :: .ref a :: rest)) := by
  obtain ⟨hx, hb, -, -, -, hK, -⟩ := hC
  exact va_lald (D := X.1) hx hb hK.1 hP q0 1 he rfl (xin hin) hdg kk
theorem x_zald {a n : Nat} {f : Nat → Int32} {ws : va_W} {i : Int32} (hC : XC p s m args c cc nL own X A) (hP : xP X ws H) (q0 : Nat) (he : ws[q0]? = some (a, xZ X n f)) (hin : ¬ xout i n = true) (hdg : decode cc pc = .ok (.baload, 1)) (kk : W p l e R s m args below meth c H locs cells slots Q (F0 m (pc + 1) ls (.int (f (xat i)) :: rest))) : W p l e R s m args below meth c H locs cells slots Q (F0 m pc ls (.int i :: .ref a :: rest)) := by
  obtain ⟨hx, hb, -, -, -, hK, -⟩ := hC
  exact va_zald (D := X.1) hx hb hK.1 hP q0 2 he rfl (xin hin) hdg kk
theorem x_iast {a n : Nat} {f : Nat → Int32} {ws ws' : va_W} {i x : Int32} {H0 : Heap} (hC : XC p s m args c cc nL own X A) (hH : xH X A ws H0 H locs) (q0 : Nat) (he : ws[q0]? = some (a, xI X n f)) (hin : ¬ xout i n = true) (hdg : decode cc pc = .ok (.iastore, 1)) (hw : ws.set q0 (a, xI X n (upd f (xat i) x)) = ws')
    (kk : ∀ (H : Heap) (locs : List Loc), xH X A ws' H0 H locs → W p l e R s m args below meth c H locs cells slots Q (F0 m (pc + 1) ls rest)) : W p l e R s m args below meth c H locs cells slots Q (F0 m pc ls (.int x :: .int i :: .ref a :: rest)) := by
  obtain ⟨hx, hb, -, -, -, hK, -⟩ := hC
  subst hw
  exact va_iast (D := X.1) hx hb hK.1 hH.1 hH.2.1 hH.2.2 q0 0 he rfl (xin hin) hdg (fun H1 locs1 hP hD hS => kk H1 locs1 ⟨hP, hD, hS⟩)
theorem x_last {a n : Nat} {f : Nat → Int64} {ws ws' : va_W} {i : Int32} {x : Int64} {H0 : Heap} (hC : XC p s m args c cc nL own X A) (hH : xH X A ws H0 H locs) (q0 : Nat) (he : ws[q0]? = some (a, xJ X n f)) (hin : ¬ xout i n = true) (hdg : decode cc pc = .ok (.lastore, 1)) (hw : ws.set q0 (a, xJ X n (vp_updL f (xat i) x)) = ws')
    (kk : ∀ (H : Heap) (locs : List Loc), xH X A ws' H0 H locs → W p l e R s m args below meth c H locs cells slots Q (F0 m (pc + 1) ls rest)) : W p l e R s m args below meth c H locs cells slots Q (F0 m pc ls (.long x :: .int i :: .ref a :: rest)) := by
  obtain ⟨hx, hb, -, -, -, hK, -⟩ := hC
  subst hw
  exact va_last (D := X.1) hx hb hK.1 hH.1 hH.2.1 hH.2.2 q0 1 he rfl (xin hin) hdg (fun H1 locs1 hP hD hS => kk H1 locs1 ⟨hP, hD, hS⟩)
theorem x_zast {a n : Nat} {f : Nat → Int32} {ws ws' : va_W} {i x : Int32} {H0 : Heap} (hC : XC p s m args c cc nL own X A) (hH : xH X A ws H0 H locs) (q0 : Nat) (he : ws[q0]? = some (a, xZ X n f)) (hin : ¬ xout i n = true) (hx1 : vp_nar .boolean x = x) (hdg : decode cc pc = .ok (.bastore, 1)) (hw : ws.set q0 (a, xZ X n (upd f (xat i) x)) = ws')
    (kk : ∀ (H : Heap) (locs : List Loc), xH X A ws' H0 H locs → W p l e R s m args below meth c H locs cells slots Q (F0 m (pc + 1) ls rest)) : W p l e R s m args below meth c H locs cells slots Q (F0 m pc ls (.int x :: .int i :: .ref a :: rest)) := by
  obtain ⟨hx, hb, -, -, -, hK, -⟩ := hC
  subst hw
  exact va_zast (D := X.1) hx hb hK.1 hH.1 hH.2.1 hH.2.2 q0 2 he rfl (xin hin) hdg (fun H1 locs1 hP hD hS => kk H1 locs1 ⟨by rw [hx1] at hP; exact hP, by rw [hx1] at hD; exact hD, hS⟩)
theorem x_alen {a n : Nat} {f : Nat → Int32} {ws : va_W} (hC : XC p s m args c cc nL own X A) (hP : xP X ws H) (q0 : Nat) (he : ws[q0]? = some (a, xI X n f)) {v : Int32} (hv : Int32.ofNat n = v) (hdg : decode cc pc = .ok (.arraylength, 1)) (kk : W p l e R s m args below meth c H locs cells slots Q (F0 m (pc + 1) ls (.int v :: rest))) : W p l e R s m args below meth c H locs cells slots Q (F0 m pc ls (.ref a :: rest)) := by
  obtain ⟨hx, hb, -, -, -, hK, -⟩ := hC
  exact va_alen (D := X.1) hx hb hK.1 hP q0 0 he rfl hv hdg kk
theorem x_alenL {a n : Nat} {f : Nat → Int64} {ws : va_W} (hC : XC p s m args c cc nL own X A) (hP : xP X ws H) (q0 : Nat) (he : ws[q0]? = some (a, xJ X n f)) {v : Int32} (hv : Int32.ofNat n = v) (hdg : decode cc pc = .ok (.arraylength, 1)) (kk : W p l e R s m args below meth c H locs cells slots Q (F0 m (pc + 1) ls (.int v :: rest))) : W p l e R s m args below meth c H locs cells slots Q (F0 m pc ls (.ref a :: rest)) := by
  obtain ⟨hx, hb, -, -, -, hK, -⟩ := hC
  exact va_alen (D := X.1) hx hb hK.1 hP q0 1 he rfl hv hdg kk
theorem x_max {idx : Nat} (hC : XC p s m args c cc nL own X A) (hsz : ls.size = nL) (hl : Cond.methodLink own idx Lib.Math.max.name ∈ xB) (h1 : Cond.static Lib.Math.max.name ∈ xB) (h2 : Cond.initialized "java/lang/Math" ∈ xB) (h3 : Cond.code Lib.Math.max.name Lib.Math.max.code 2 (some .int) ∈ xB) (hframes : 1 ≤ R.frames) (hlocals : (rest.map fun v => v.category).sum + 13 ≤ R.locals) (hc : cells ≤ R.cells) (hs : slots ≤ R.slots) {x y : Int32} (hdg : decode cc pc = .ok (.invokestatic idx, 3))
    (kk : W p l e R s m args below meth c H locs cells slots Q (F0 m (pc + 3) ls (.int (xmax x y) :: rest))) : W p l e R s m args below meth c H locs cells slots Q (F0 m pc ls (.int y :: .int x :: rest)) := by
  obtain ⟨hx, hb, hml, hown, hts, hK, hSt⟩ := hC
  exact va_mmax hx hb (hml.trans hsz.symm) hown (hts _ hl) (hts _ h1) (hts _ h2) (hts _ h3) hframes hlocals hc hs hdg kk
theorem x_min {idx : Nat} (hC : XC p s m args c cc nL own X A) (hsz : ls.size = nL) (hl : Cond.methodLink own idx Lib.Math.min.name ∈ xB) (h1 : Cond.static Lib.Math.min.name ∈ xB) (h2 : Cond.initialized "java/lang/Math" ∈ xB) (h3 : Cond.code Lib.Math.min.name Lib.Math.min.code 2 (some .int) ∈ xB) (hframes : 1 ≤ R.frames) (hlocals : (rest.map fun v => v.category).sum + 13 ≤ R.locals) (hc : cells ≤ R.cells) (hs : slots ≤ R.slots) {x y : Int32} (hdg : decode cc pc = .ok (.invokestatic idx, 3))
    (kk : W p l e R s m args below meth c H locs cells slots Q (F0 m (pc + 3) ls (.int (xmin x y) :: rest))) : W p l e R s m args below meth c H locs cells slots Q (F0 m pc ls (.int y :: .int x :: rest)) := by
  obtain ⟨hx, hb, hml, hown, hts, hK, hSt⟩ := hC
  exact va_mmin hx hb (hml.trans hsz.symm) hown (hts _ hl) (hts _ h1) (hts _ h2) (hts _ h3) hframes hlocals hc hs hdg kk
theorem x_abs {idx : Nat} (hC : XC p s m args c cc nL own X A) (hsz : ls.size = nL) (hl : Cond.methodLink own idx Lib.Math.abs.name ∈ xB) (h1 : Cond.static Lib.Math.abs.name ∈ xB) (h2 : Cond.initialized "java/lang/Math" ∈ xB) (h3 : Cond.code Lib.Math.abs.name Lib.Math.abs.code 1 (some .int) ∈ xB) (hframes : 1 ≤ R.frames) (hlocals : (rest.map fun v => v.category).sum + 13 ≤ R.locals) (hc : cells ≤ R.cells) (hs : slots ≤ R.slots) {x : Int32} (hdg : decode cc pc = .ok (.invokestatic idx, 3))
    (kk : W p l e R s m args below meth c H locs cells slots Q (F0 m (pc + 3) ls (.int (xabs x) :: rest))) : W p l e R s m args below meth c H locs cells slots Q (F0 m pc ls (.int x :: rest)) := by
  obtain ⟨hx, hb, hml, hown, hts, hK, hSt⟩ := hC
  exact va_mabs hx hb (hml.trans hsz.symm) hown (hts _ hl) (hts _ h1) (hts _ h2) (hts _ h3) hframes hlocals hc hs hdg kk
/-- a call's run, for a callee that only reads -/
theorem x_ran {a : Array Value} {φ : Prop} {v : Option Value} {st0 st' : List Value} (hr : va_Run p l e R s m args below meth c H locs cells slots 0 0 (F0 m pc ls st0) rest (xQ φ (.returned v) a) xNo) (hst' : v.toList ++ rest = st')
    (kk : φ → W p l e R s m args below meth c H locs cells slots Q (F0 m (pc + 3) ls st')) : W p l e R s m args below meth c H locs cells slots Q (F0 m pc ls st0) := by
  subst hst'
  intro T hT X0
  obtain ⟨v', st₀, t, T', L, h0, X', hL, e1, e2, ⟨ho, hφ, hh⟩, st⟩ := hr T hT X0
  cases ho
  have hL0 : L = [] := by
    cases L with
    | nil => rfl
    | cons q L => exact (hL q List.mem_cons_self).elim
  subst hL0
  rw [List.append_nil] at X'
  obtain ⟨t2, a1, b1⟩ := kk hφ T' (by rw [e1, hh, h0]) X'
  exact ⟨t2, st t2 a1, b1⟩
/-- and for one that writes -/
theorem x_ranw {a : Array Value} {φ : Prop} {v : Option Value} {st0 st' : List Value} {ws wc w1 ws' : va_W} {H0 : Heap} (hr : va_Run p l e R s m args below meth c H locs cells slots 0 0 (F0 m pc ls st0) rest (xQw φ (.returned v) X w1 (xAs wc) a) (xAs wc)) (hH : xH X A ws H0 H locs) (is : List Nat) (hC : is.map (fun i => ws[i]?) = wc.map some) (ha : w1.map (·.1) = wc.map (·.1)) (hw : xset ws is w1 = ws') (hm : ws'.map (·.1) = ws.map (·.1)) (hst' : v.toList ++ rest = st')
    (kk : φ → ∀ (H : Heap) (locs : List Loc), xH X A ws' H0 H locs → W p l e R s m args below meth c H locs cells slots Q (F0 m (pc + 3) ls st')) : W p l e R s m args below meth c H locs cells slots Q (F0 m pc ls st0) := by
  subst hst'
  intro T hT X0
  obtain ⟨v', st₀, t, T', L, h0, X', hL, e1, e2, ⟨ho, hφ, hP1, hz, hk⟩, st⟩ := hr T hT X0
  cases ho
  rw [h0] at hz hk
  obtain ⟨hP, hD, hS⟩ := hH
  have hin : ∀ q, xAs wc q → A q := by
    intro q hq
    obtain ⟨q2, hm2, he⟩ := List.mem_map.mp hq
    obtain ⟨j, hj⟩ := List.getElem?_of_mem hm2
    have h3 : (is.map (fun i => ws[i]?))[j]? = some (some q2) := by rw [hC, List.getElem?_map, hj]; rfl
    rw [List.getElem?_map] at h3
    cases hi : is[j]? with
    | none => rw [hi] at h3; cases h3
    | some i =>
      rw [hi] at h3
      have := hD.2 i q2 (Option.some.inj h3)
      rw [← he]; exact this
  obtain ⟨t2, a1, b1⟩ := kk hφ T'.heap (locs ++ L) ⟨x_upd hP hD is hC ha (fun q h1 h2 => by rw [e1]; exact hk q h1 h2) (by rw [e1]; exact hP1) hw, xD_map hD hm,
    ⟨Nat.le_trans hS.1 (by rw [e1]; exact hz), fun q h1 h2 => by rw [e1, hk q (Nat.lt_of_lt_of_le h1 hS.1) (fun z => h2 (hin q z))]; exact hS.2.1 q h1 h2, fun q hq => by
      rcases List.mem_append.mp hq with h | h
      · exact hS.2.2 q h
      · exact hin _ (hL q h)⟩⟩ T' rfl X'
  exact ⟨t2, st t2 a1, b1⟩
theorem x_pick {ws wc : va_W} (hC : XC p s m args c cc nL own X A) (hH : xH X A ws s.heap H locs) (is : List Nat) (hpk : is.map (fun i => ws[i]?) = wc.map some) (hnd : va_nd is = true) : xP X wc H ∧ va_D A wc ∧ xS X (xAs wc) s H := by
  have at' : ∀ (k : Nat) (q : Nat × va_E), wc[k]? = some q → ∃ i, is[k]? = some i ∧ ws[i]? = some q := by
    intro k q hq
    have h1 : (is.map (fun i => ws[i]?))[k]? = some (some q) := by rw [hpk, List.getElem?_map, hq]; rfl
    rw [List.getElem?_map] at h1
    cases hi : is[k]? with
    | none => rw [hi] at h1; cases h1
    | some i => rw [hi] at h1; exact ⟨i, rfl, Option.some.inj h1⟩
  have hD := hH.2.1.sub is hnd hpk
  refine ⟨fun k q hq => ?_, hD, xS_narrow (xS_kept hC.2.2.2.2.2.2 (fun a h1 h2 => hH.2.2.2.1 a h1 h2)) (fun q hq => ?_)⟩
  · obtain ⟨i, -, h2⟩ := at' k q hq
    exact hH.1 i q h2
  · obtain ⟨q2, hm2, he⟩ := List.mem_map.mp hq
    obtain ⟨j, hj⟩ := List.getElem?_of_mem hm2
    rw [← he]
    exact hD.2 j q2 hj
theorem x_callB {idx n maxL : Nat} {y : MethodName} {bytes : ByteArray} {ret : Option FieldType} {rm : Room} (hC : XC p s m args c cc nL own X A) (hl : Cond.methodLink own idx y ∈ xB) (hm : xMd y bytes maxL ret n) (hmc : rm.cells = 0 ∧ rm.slots = 0) (hR : rm.frames + 1 ≤ R.frames ∧ 8 + (maxL + 11) + rm.locals ≤ R.locals) : CallB R s args own idx y bytes maxL ret (xw y bytes maxL ret) rm 0 0 n := by
  obtain ⟨hx, hb, hml, hown, hts, hK, hSt⟩ := hC
  obtain ⟨h1, h2, h3, h4⟩ := hm
  exact callB_of n hts (xw_good h1) rfl hmc.1 hmc.2 (hts _ h2) (hts _ hl) h3 hR
theorem x_runV {idx n maxL q0 ci b : Nat} {y : MethodName} {bytes : ByteArray} {ret : Option FieldType} {rm : Room} {Qc : Array Value → State → Outcome → State → Prop} {free : Addr → Prop} {ws wc : va_W} {fs st : List Value} {As : List Value} {qc : vw_C} (hC : XC p s m args c cc nL own X A) (hl : Cond.methodLink own idx y ∈ xB) (hm : xMv y bytes maxL ret n) (hM : Met l y (xw y bytes maxL ret) rm (xPc (.ref b :: As) X wc) Qc 0 0 free) (hH : xH X A ws s.heap H locs) (is : List Nat) (hpk : is.map (fun i => ws[i]?) = wc.map some) (hnd : va_nd is = true) (he : wc[q0]? = some (b, .inr (ci, fs))) (hci : vwCl[ci]? = some qc) (hcy : qc.1 = y.cls)
    (hsz : ls.size = nL) (hst : st = As.reverse ++ .ref b :: rest) (hn : As.length = n) (hW : (rest.map fun v => v.category).sum ≤ 8) (hdg : decode cc pc = .ok (.invokevirtual idx, 3)) (hR : rm.frames + 1 ≤ R.frames ∧ 8 + (maxL + 11) + rm.locals ≤ R.locals) (hmc : rm.cells = 0 ∧ rm.slots = 0) (hfit : cells ≤ R.cells ∧ slots ≤ R.slots) :
    va_Run p l e R s m args below meth c H locs cells slots 0 0 (F0 m pc ls st) rest (Qc (Value.ref b :: As).toArray) free := by
  obtain ⟨hP, hD, hSc⟩ := x_pick hC hH is hpk hnd
  have hcb := x_callB hC hl hm.1 hmc hR
  obtain ⟨hx, hb, hml, hown, hts, hK, hSt⟩ := hC
  obtain ⟨-, h1, h2⟩ := hm
  exact va_runV ⟨hx, hb, hml, hown, hts⟩ hM ⟨hcb, hts _ h1, hts _ h2⟩ ⟨xblind, by have := va_recv (q0 := q0) hK.1 hP hci he; rwa [hcy] at this, fun U hU hW => ⟨rfl, xK_warm hW hK, by rw [hU]; exact hP, hD.weaken (fun _ _ _ _ => trivial), by rw [hU]; exact xS_warm hW hSc⟩⟩ rfl hn hsz hst (lv_room hW) hdg hfit
theorem x_runS {idx n maxL : Nat} {y : MethodName} {bytes : ByteArray} {ret : Option FieldType} {rm : Room} {Qc : Array Value → State → Outcome → State → Prop} {free : Addr → Prop} {ws wc : va_W} {st : List Value} {As : List Value} (hC : XC p s m args c cc nL own X A) (hl : Cond.methodLink own idx y ∈ xB) (hm : xMs y bytes maxL ret n) (hM : Met l y (xw y bytes maxL ret) rm (xPc As X wc) Qc 0 0 free) (hH : xH X A ws s.heap H locs) (is : List Nat) (hpk : is.map (fun i => ws[i]?) = wc.map some) (hnd : va_nd is = true)
    (hsz : ls.size = nL) (hst : st = As.reverse ++ rest) (hn : As.length = n) (hW : (rest.map fun v => v.category).sum ≤ 8) (hdg : decode cc pc = .ok (.invokestatic idx, 3)) (hR : rm.frames + 1 ≤ R.frames ∧ 8 + (maxL + 11) + rm.locals ≤ R.locals) (hmc : rm.cells = 0 ∧ rm.slots = 0) (hfit : cells ≤ R.cells ∧ slots ≤ R.slots) :
    va_Run p l e R s m args below meth c H locs cells slots 0 0 (F0 m pc ls st) rest (Qc As.toArray) free := by
  obtain ⟨hP, hD, hSc⟩ := x_pick hC hH is hpk hnd
  have hcb := x_callB hC hl hm.1 hmc hR
  obtain ⟨hx, hb, hml, hown, hts, hK, hSt⟩ := hC
  obtain ⟨-, h1⟩ := hm
  exact va_runS ⟨hx, hb, hml, hown, hts⟩ hM ⟨hcb, hts _ h1⟩ ⟨xblind, fun U hU hW => ⟨rfl, xK_warm hW hK, by rw [hU]; exact hP, hD.weaken (fun _ _ _ _ => trivial), by rw [hU]; exact xS_warm hW hSc⟩⟩ rfl hn hsz hst (lv_room hW) hdg hfit
theorem x_callBN {idx n maxL : Nat} {y : MethodName} {bytes : ByteArray} {ret : Option FieldType} {rm : Room} (hC : XC p s m args c cc nL own X A) (hl : (own, idx, y) ∈ xNestM) (hm : xMd y bytes maxL ret n) (hmc : rm.cells = 0 ∧ rm.slots = 0) (hR : rm.frames + 1 ≤ R.frames ∧ 8 + (maxL + 11) + rm.locals ≤ R.locals) : va_CN R s args own idx y "AnsweredByTheDrowned" bytes maxL ret (xw y bytes maxL ret) rm 0 0 n := by
  obtain ⟨hx, hb, hml, hown, hts, hK, hSt⟩ := hC
  obtain ⟨h1, h2, h3, h4⟩ := hm
  exact va_cnB n hts (xw_good h1) rfl hmc.1 hmc.2 (hK.2.2 _ hl) (hts _ h2) h3 hR
theorem x_runVN {idx n maxL q0 ci b : Nat} {y : MethodName} {bytes : ByteArray} {ret : Option FieldType} {rm : Room} {Qc : Array Value → State → Outcome → State → Prop} {free : Addr → Prop} {ws wc : va_W} {fs st : List Value} {As : List Value} {qc : vw_C} (hC : XC p s m args c cc nL own X A) (hl : (own, idx, y) ∈ xNestM) (hm : xMv y bytes maxL ret n) (hM : Met l y (xw y bytes maxL ret) rm (xPc (.ref b :: As) X wc) Qc 0 0 free) (hH : xH X A ws s.heap H locs) (is : List Nat) (hpk : is.map (fun i => ws[i]?) = wc.map some) (hnd : va_nd is = true) (he : wc[q0]? = some (b, .inr (ci, fs))) (hci : vwCl[ci]? = some qc) (hcy : qc.1 = y.cls)
    (hsz : ls.size = nL) (hst : st = As.reverse ++ .ref b :: rest) (hn : As.length = n) (hW : (rest.map fun v => v.category).sum ≤ 8) (hdg : decode cc pc = .ok (.invokevirtual idx, 3)) (hR : rm.frames + 1 ≤ R.frames ∧ 8 + (maxL + 11) + rm.locals ≤ R.locals) (hmc : rm.cells = 0 ∧ rm.slots = 0) (hfit : cells ≤ R.cells ∧ slots ≤ R.slots) :
    va_Run p l e R s m args below meth c H locs cells slots 0 0 (F0 m pc ls st) rest (Qc (Value.ref b :: As).toArray) free := by
  obtain ⟨hP, hD, hSc⟩ := x_pick hC hH is hpk hnd
  have hcb := x_callBN hC hl hm.1 hmc hR
  obtain ⟨hx, hb, hml, hown, hts, hK, hSt⟩ := hC
  obtain ⟨-, h1, h2⟩ := hm
  exact va_runVN ⟨hx, hb, hml, hown, hts⟩ hM ⟨hcb, hts _ h1, hts _ h2⟩ ⟨xblind, by have := va_recv (q0 := q0) hK.1 hP hci he; rwa [hcy] at this, fun U hU hW => ⟨rfl, xK_warm hW hK, by rw [hU]; exact hP, hD.weaken (fun _ _ _ _ => trivial), by rw [hU]; exact xS_warm hW hSc⟩⟩ rfl hn hsz hst (lv_room hW) hdg hfit
theorem x_runSN {idx n maxL : Nat} {y : MethodName} {bytes : ByteArray} {ret : Option FieldType} {rm : Room} {Qc : Array Value → State → Outcome → State → Prop} {free : Addr → Prop} {ws wc : va_W} {st : List Value} {As : List Value} (hC : XC p s m args c cc nL own X A) (hl : (own, idx, y) ∈ xNestM) (hm : xMs y bytes maxL ret n) (hM : Met l y (xw y bytes maxL ret) rm (xPc As X wc) Qc 0 0 free) (hH : xH X A ws s.heap H locs) (is : List Nat) (hpk : is.map (fun i => ws[i]?) = wc.map some) (hnd : va_nd is = true)
    (hsz : ls.size = nL) (hst : st = As.reverse ++ rest) (hn : As.length = n) (hW : (rest.map fun v => v.category).sum ≤ 8) (hdg : decode cc pc = .ok (.invokestatic idx, 3)) (hR : rm.frames + 1 ≤ R.frames ∧ 8 + (maxL + 11) + rm.locals ≤ R.locals) (hmc : rm.cells = 0 ∧ rm.slots = 0) (hfit : cells ≤ R.cells ∧ slots ≤ R.slots) :
    va_Run p l e R s m args below meth c H locs cells slots 0 0 (F0 m pc ls st) rest (Qc As.toArray) free := by
  obtain ⟨hP, hD, hSc⟩ := x_pick hC hH is hpk hnd
  have hcb := x_callBN hC hl hm.1 hmc hR
  obtain ⟨hx, hb, hml, hown, hts, hK, hSt⟩ := hC
  obtain ⟨-, h1⟩ := hm
  exact va_runSN ⟨hx, hb, hml, hown, hts⟩ hM ⟨hcb, hts _ h1, trivial⟩ ⟨xblind, fun U hU hW => ⟨rfl, xK_warm hW hK, by rw [hU]; exact hP, hD.weaken (fun _ _ _ _ => trivial), by rw [hU]; exact xS_warm hW hSc⟩⟩ rfl hn hsz hst (lv_room hW) hdg hfit
end XR
/-- a method's contract out of its walk -/
theorem xMet {l : Launch} {y : MethodName} {cc : ByteArray} {maxL n : Nat} {ret : Option FieldType} {rm : Room} {av : List Value} {X : xG} {ws : va_W} {Qc : Array Value → State → Outcome → State → Prop} {mc ms : Nat} {free : Addr → Prop} (hm : xMd y cc maxL ret n) (hav : (lg_sl av).length ≤ maxL)
    (body : ∀ (p : Program) (e : Env) (s : State) (m : MethodId) (args : Array Value) (below : List Frame) (meth : Method) (c : Code) (ls : Array Slot) (A : Nat → Prop), XC p s m args c cc maxL y.cls X A → meth.sig.returnType = ret → meth.locks = false → xH X A ws s.heap s.heap [] → lv_has ls maxL (lv_args 0 av) → W p l e rm s m args below meth c s.heap [] 0 0 (MQ below Qc args s mc ms free) (F0 m 0 ls [])) :
    Met l y (xw y cc maxL ret) rm (xPc av X ws) Qc mc ms free := by
  refine Met.ofW (cc := cc) (maxL := maxL) (ret := ret) hm.2.2.2 rfl ?_
  intro p e s m args below meth c s₁ B hml hv
  obtain ⟨rfl, hK, hP, hD0, hSt⟩ := hv
  have hl := lv_entry av (n := maxL) hav
  rw [lg_entry_eq]
  exact body p e s m _ below meth c _ (xAs ws) ⟨B.exec, B.bytes, hml, findClass_of_methodNamed B.named, fun w h => atoms_spec (ws := xw y cc maxL ret) B.pre w (List.mem_cons_of_mem _ h), hK, hSt⟩ B.returns B.notSynchronized ⟨hP, xD_self hD0, va_S.rf⟩ hl
/-- and of one that writes -/
theorem xMetw {l : Launch} {y : MethodName} {cc : ByteArray} {maxL n : Nat} {ret : Option FieldType} {rm : Room} {av : List Value} {X : xG} {ws : va_W} {Qc : (Nat → Prop) → Array Value → State → Outcome → State → Prop} (hm : xMd y cc maxL ret n) (hav : (lg_sl av).length ≤ maxL)
    (body : ∀ (p : Program) (e : Env) (s : State) (m : MethodId) (args : Array Value) (below : List Frame) (meth : Method) (c : Code) (ls : Array Slot) (A : Nat → Prop), XC p s m args c cc maxL y.cls X A → meth.sig.returnType = ret → meth.locks = false → xH X A ws s.heap s.heap [] → lv_has ls maxL (lv_args 0 av) → W p l e rm s m args below meth c s.heap [] 0 0 (MQ below (Qc A) args s 0 0 A) (F0 m 0 ls [])) :
    Met l y (xw y cc maxL ret) rm (xPc av X ws) (Qc (xAs ws)) 0 0 (xAs ws) := by
  refine Met.ofW (cc := cc) (maxL := maxL) (ret := ret) hm.2.2.2 rfl ?_
  intro p e s m args below meth c s₁ B hml hv
  obtain ⟨rfl, hK, hP, hD0, hSt⟩ := hv
  have hl := lv_entry av (n := maxL) hav
  rw [lg_entry_eq]
  exact body p e s m _ below meth c _ (xAs ws) ⟨B.exec, B.bytes, hml, findClass_of_methodNamed B.named, fun w h => atoms_spec (ws := xw y cc maxL ret) B.pre w (List.mem_cons_of_mem _ h), hK, hSt⟩ B.returns B.notSynchronized ⟨hP, xD_self hD0, va_S.rf⟩ hl
section XE
variable {p : Program} {l : Launch} {e : Env} {R : Room} {s : State} {m : MethodId} {args : Array Value} {below : List Frame} {meth : Method} {c : Code} {H : Heap} {locs : List Loc} {cells slots : Nat} {Q : State → Prop}
variable {cc : ByteArray} {pc nL : Nat} {ls : Array Slot} {own : String} {X : xG} {A : Nat → Prop}
theorem x_reti {φ : Prop} {v r : Int32} (hC : XC p s m args c cc nL own X A) (hr : meth.sig.returnType = some .int) (hlk : meth.locks = false) (hφ : φ) (hv : some v = some r) (hdg : decode cc pc = .ok (.ireturn, 1)) : W p l e R s m args below meth c s.heap [] cells slots (MQ below (xQ φ (.returned (some (.int r)))) args s cells slots xNo) (F0 m pc ls [.int v]) :=
  W.iret hC.1 hC.2.1 hr (fun t ht _ => ⟨by rw [Option.some.inj hv], hφ, ht⟩) (fun q h => by cases h) hdg hlk
theorem x_retz {v r : Int32} (hC : XC p s m args c cc nL own X A) (hr : meth.sig.returnType = some .boolean) (hlk : meth.locks = false) (hz : v = 0 ∨ v = 1) (hv : some v = some r) (hdg : decode cc pc = .ok (.ireturn, 1)) : W p l e R s m args below meth c s.heap [] cells slots (MQ below (xQ (r = 0 ∨ r = 1) (.returned (some (.int r)))) args s cells slots xNo) (F0 m pc ls [.int v]) :=
  W.zret hC.1 hC.2.1 hr (by rcases hz with rfl | rfl <;> decide) (fun t ht _ => ⟨by rw [Option.some.inj hv], by rw [← Option.some.inj hv]; exact hz, ht⟩) (fun q h => by cases h) hdg hlk
theorem x_retl {φ : Prop} {v r : Int64} (hC : XC p s m args c cc nL own X A) (hr : meth.sig.returnType = some .long) (hlk : meth.locks = false) (hφ : φ) (hv : some v = some r) (hdg : decode cc pc = .ok (.lreturn, 1)) : W p l e R s m args below meth c s.heap [] cells slots (MQ below (xQ φ (.returned (some (.long r)))) args s cells slots xNo) (F0 m pc ls [.long v]) :=
  W.lret hC.1 hC.2.1 hr (fun t ht _ => ⟨by rw [Option.some.inj hv], hφ, ht⟩) (fun q h => by cases h) hdg hlk
theorem x_retiw {S : Type} {φ : S → Prop} {f : S → Int32} {wf : S → va_W} {v u : S} {ws : va_W} {x : Int32} (hC : XC p s m args c cc nL own X A) (hr : meth.sig.returnType = some .int) (hlk : meth.locks = false) (hφ : φ v) (hv : some v = some u) (hH : xH X A ws s.heap H locs) (hx : x = f v) (hw : ws = wf v) (hdg : decode cc pc = .ok (.ireturn, 1)) : W p l e R s m args below meth c H locs cells slots (MQ below (xQw (φ u) (.returned (some (.int (f u)))) X (wf u) A) args s cells slots A) (F0 m pc ls [.int x]) := by
  cases hv
  subst hx; subst hw
  exact W.iret hC.1 hC.2.1 hr (fun t ht _ => ⟨rfl, hφ, by rw [ht]; exact hH.1, hH.2.2.F ht⟩) hH.2.2.2.2 hdg hlk
theorem x_retzw {S : Type} {f : S → Int32} {wf : S → va_W} {v u : S} {ws : va_W} {x : Int32} (hC : XC p s m args c cc nL own X A) (hr : meth.sig.returnType = some .boolean) (hlk : meth.locks = false) (hz : x = 0 ∨ x = 1) (hv : some v = some u) (hH : xH X A ws s.heap H locs) (hx : x = f v) (hw : ws = wf v) (hdg : decode cc pc = .ok (.ireturn, 1)) : W p l e R s m args below meth c H locs cells slots (MQ below (xQw (f u = 0 ∨ f u = 1) (.returned (some (.int (f u)))) X (wf u) A) args s cells slots A) (F0 m pc ls [.int x]) := by
  cases hv
  subst hx; subst hw
  exact W.zret hC.1 hC.2.1 hr (by rcases hz with h | h <;> rw [h] <;> decide) (fun t ht _ => ⟨rfl, hz, by rw [ht]; exact hH.1, hH.2.2.F ht⟩) hH.2.2.2.2 hdg hlk
theorem x_retlw {S : Type} {φ : S → Prop} {f : S → Int64} {wf : S → va_W} {v u : S} {ws : va_W} {x : Int64} (hC : XC p s m args c cc nL own X A) (hr : meth.sig.returnType = some .long) (hlk : meth.locks = false) (hφ : φ v) (hv : some v = some u) (hH : xH X A ws s.heap H locs) (hx : x = f v) (hw : ws = wf v) (hdg : decode cc pc = .ok (.lreturn, 1)) : W p l e R s m args below meth c H locs cells slots (MQ below (xQw (φ u) (.returned (some (.long (f u)))) X (wf u) A) args s cells slots A) (F0 m pc ls [.long x]) := by
  cases hv
  subst hx; subst hw
  exact W.lret hC.1 hC.2.1 hr (fun t ht _ => ⟨rfl, hφ, by rw [ht]; exact hH.1, hH.2.2.F ht⟩) hH.2.2.2.2 hdg hlk
theorem x_retvw {S : Type} {φ : S → Prop} {wf : S → va_W} {v u : S} {ws : va_W} (hC : XC p s m args c cc nL own X A) (hr : meth.sig.returnType = none) (hlk : meth.locks = false) (hφ : φ v) (hv : some v = some u) (hH : xH X A ws s.heap H locs) (hw : ws = wf v) (hdg : decode cc pc = .ok (.return_, 1)) : W p l e R s m args below meth c H locs cells slots (MQ below (xQw (φ u) (.returned none) X (wf u) A) args s cells slots A) (F0 m pc ls []) := by
  cases hv
  subst hw
  exact W.vret hC.1 hC.2.1 hr (fun t ht _ => ⟨rfl, hφ, by rw [ht]; exact hH.1, hH.2.2.F ht⟩) hH.2.2.2.2 hdg hlk
end XE
section XT
variable {p : Program} {l : Launch} {e : Env} {R : Room} {s : State} {m : MethodId} {args : Array Value} {below : List Frame} {meth : Method} {c : Code} {H : Heap} {locs : List Loc} {cells slots : Nat} {Q : State → Prop}
variable {cc : ByteArray} {pc : Nat} {ls : Array Slot} {rest : List Value}
theorem x_tin {dflt lo hi : Int} {offs : Array Int} {len : Nat} {x k : Int32} {tgt : Nat} (hexec : p.tables.exec = Jvm.exec) (hb : c.code = cc) (hdg : decode cc pc = .ok (.tableswitch dflt lo hi offs, len)) (hc : x = k) (h : ¬ k.toInt < lo ∧ ¬ hi < k.toInt) (ho : (offs[(k.toInt - lo).toNat]?).map (fun o => (pc : Int) + o) = some (tgt : Int)) (kk : W p l e R s m args below meth c H locs cells slots Q (F0 m tgt ls rest)) : W p l e R s m args below meth c H locs cells slots Q (F0 m pc ls (.int x :: rest)) := by
  subst hc
  cases ho2 : offs[(x.toInt - lo).toNat]? with
  | none => rw [ho2] at ho; cases ho
  | some off => rw [ho2] at ho; exact lv_tableIn hexec hb hdg h.1 h.2 ho2 (Option.some.inj ho) kk
theorem x_tout {dflt lo hi : Int} {offs : Array Int} {len : Nat} {x : Int32} {tgt : Nat} (hexec : p.tables.exec = Jvm.exec) (hb : c.code = cc) (hdg : decode cc pc = .ok (.tableswitch dflt lo hi offs, len)) (hn : ∀ j : Nat, j < (hi - lo + 1).toNat → ¬ x = Int32.ofInt (lo + j)) (ht : (pc : Int) + dflt = (tgt : Int)) (kk : W p l e R s m args below meth c H locs cells slots Q (F0 m tgt ls rest)) : W p l e R s m args below meth c H locs cells slots Q (F0 m pc ls (.int x :: rest)) := by
  refine lv_tableOut hexec hb hdg ?_ ht kk
  by_cases h1 : x.toInt < lo
  · exact Or.inl h1
  · by_cases h2 : hi < x.toInt
    · exact Or.inr h2
    · refine absurd ?_ (hn (x.toInt - lo).toNat (by omega))
      rw [show lo + ((x.toInt - lo).toNat : Int) = x.toInt by omega, Int32.ofInt_toInt]
end XT
