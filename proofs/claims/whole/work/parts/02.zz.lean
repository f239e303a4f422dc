section ZZA
variable {p : Program} {l : Launch} {e : Env} {R : Room} {s : State} {m : MethodId} {args : Array Value} {below : List Frame} {meth : Method} {c : Code} {H : Heap} {locs : List Loc} {cells slots : Nat} {Q : State → Prop}
variable {cc : ByteArray} {pc : Nat} {ls : Array Slot} {rest st0 : List Value} {D : va_G} {ad : Nat → Nat → Nat} {A0 A : Nat → Prop} {tys tyc : List (ClassId × FieldType)} {ws wc : va_W} {mc ms : Nat} {a : Array Value} {S : Type}
theorem zz_lcmp_lt (hexec : p.tables.exec = Jvm.exec) (hb : c.code = cc) {x y : Int64} {off : Int} {tgt : Nat} (d1 : decode cc pc = .ok (.lcmp, 1)) (d2 : decode cc (pc + 1) = .ok (.ifCond .lt off, 3)) (ht : ((pc + 1 : Nat) : Int) + off = (tgt : Int)) (kt : x < y → W p l e R s m args below meth c H locs cells slots Q (F0 m tgt ls rest)) (kf : ¬ x < y → W p l e R s m args below meth c H locs cells slots Q (F0 m (pc + 1 + 3) ls rest)) : W p l e R s m args below meth c H locs cells slots Q (F0 m pc ls (.long y :: .long x :: rest)) :=
  W.lcmp hexec hb d1 (lv_if_lt hexec hb d2 ht (fun h => kt ((lg_cmp_lt x y).mp h)) (fun h => kf (fun q => h ((lg_cmp_lt x y).mpr q))))
theorem zz_lcmp_ge (hexec : p.tables.exec = Jvm.exec) (hb : c.code = cc) {x y : Int64} {off : Int} {tgt : Nat} (d1 : decode cc pc = .ok (.lcmp, 1)) (d2 : decode cc (pc + 1) = .ok (.ifCond .ge off, 3)) (ht : ((pc + 1 : Nat) : Int) + off = (tgt : Int)) (kt : y ≤ x → W p l e R s m args below meth c H locs cells slots Q (F0 m tgt ls rest)) (kf : ¬ y ≤ x → W p l e R s m args below meth c H locs cells slots Q (F0 m (pc + 1 + 3) ls rest)) : W p l e R s m args below meth c H locs cells slots Q (F0 m pc ls (.long y :: .long x :: rest)) :=
  W.lcmp hexec hb d1 (lv_if_ge hexec hb d2 ht (fun h => kt ((lg_cmp_ge x y).mp h)) (fun h => kf (fun q => h ((lg_cmp_ge x y).mpr q))))
theorem zz_lcmp_gt (hexec : p.tables.exec = Jvm.exec) (hb : c.code = cc) {x y : Int64} {off : Int} {tgt : Nat} (d1 : decode cc pc = .ok (.lcmp, 1)) (d2 : decode cc (pc + 1) = .ok (.ifCond .gt off, 3)) (ht : ((pc + 1 : Nat) : Int) + off = (tgt : Int)) (kt : y < x → W p l e R s m args below meth c H locs cells slots Q (F0 m tgt ls rest)) (kf : ¬ y < x → W p l e R s m args below meth c H locs cells slots Q (F0 m (pc + 1 + 3) ls rest)) : W p l e R s m args below meth c H locs cells slots Q (F0 m pc ls (.long y :: .long x :: rest)) :=
  W.lcmp hexec hb d1 (lv_if_gt hexec hb d2 ht (fun h => kt ((lg_cmp_gt x y).mp h)) (fun h => kf (fun q => h ((lg_cmp_gt x y).mpr q))))
theorem zz_lcmp_le (hexec : p.tables.exec = Jvm.exec) (hb : c.code = cc) {x y : Int64} {off : Int} {tgt : Nat} (d1 : decode cc pc = .ok (.lcmp, 1)) (d2 : decode cc (pc + 1) = .ok (.ifCond .le off, 3)) (ht : ((pc + 1 : Nat) : Int) + off = (tgt : Int)) (kt : x ≤ y → W p l e R s m args below meth c H locs cells slots Q (F0 m tgt ls rest)) (kf : ¬ x ≤ y → W p l e R s m args below meth c H locs cells slots Q (F0 m (pc + 1 + 3) ls rest)) : W p l e R s m args below meth c H locs cells slots Q (F0 m pc ls (.long y :: .long x :: rest)) :=
  W.lcmp hexec hb d1 (lv_if_le hexec hb d2 ht (fun h => kt ((lg_cmp_le x y).mp h)) (fun h => kf (fun q => h ((lg_cmp_le x y).mpr q))))
theorem zz_lcmp_eq (hexec : p.tables.exec = Jvm.exec) (hb : c.code = cc) {x y : Int64} {off : Int} {tgt : Nat} (d1 : decode cc pc = .ok (.lcmp, 1)) (d2 : decode cc (pc + 1) = .ok (.ifCond .eq off, 3)) (ht : ((pc + 1 : Nat) : Int) + off = (tgt : Int)) (kt : x = y → W p l e R s m args below meth c H locs cells slots Q (F0 m tgt ls rest)) (kf : ¬ x = y → W p l e R s m args below meth c H locs cells slots Q (F0 m (pc + 1 + 3) ls rest)) : W p l e R s m args below meth c H locs cells slots Q (F0 m pc ls (.long y :: .long x :: rest)) :=
  W.lcmp hexec hb d1 (lv_if_eq hexec hb d2 ht (fun h => kt ((lg_cmp_eq x y).mp h)) (fun h => kf (fun q => h ((lg_cmp_eq x y).mpr q))))
theorem zz_lcmp_ne (hexec : p.tables.exec = Jvm.exec) (hb : c.code = cc) {x y : Int64} {off : Int} {tgt : Nat} (d1 : decode cc pc = .ok (.lcmp, 1)) (d2 : decode cc (pc + 1) = .ok (.ifCond .ne off, 3)) (ht : ((pc + 1 : Nat) : Int) + off = (tgt : Int)) (kt : ¬ x = y → W p l e R s m args below meth c H locs cells slots Q (F0 m tgt ls rest)) (kf : x = y → W p l e R s m args below meth c H locs cells slots Q (F0 m (pc + 1 + 3) ls rest)) : W p l e R s m args below meth c H locs cells slots Q (F0 m pc ls (.long y :: .long x :: rest)) :=
  W.lcmp hexec hb d1 (lv_if_ne hexec hb d2 ht (fun h => kt (fun q => h ((lg_cmp_eq x y).mpr q))) (fun h => kf ((lg_cmp_eq x y).mp h)))
theorem zz_acmp_eq (hexec : p.tables.exec = Jvm.exec) (hb : c.code = cc) {f : Nat → Nat} {i j : Nat} {off : Int} {tgt : Nat} (hdg : decode cc pc = .ok (.if_acmp .eq off, 3)) (ht : (pc : Int) + off = (tgt : Int)) (hi : f i = f j → i = j) (kt : i = j → W p l e R s m args below meth c H locs cells slots Q (F0 m tgt ls rest)) (kf : ¬ i = j → W p l e R s m args below meth c H locs cells slots Q (F0 m (pc + 3) ls rest)) : W p l e R s m args below meth c H locs cells slots Q (F0 m pc ls (.ref (f j) :: .ref (f i) :: rest)) :=
  lv_acmp_eq (rx := some (f i)) (ry := some (f j)) hexec hb hdg ht (fun q => kt (hi (Option.some.inj q))) (fun q => kf (fun z => q (by rw [z])))
theorem zz_acmp_ne (hexec : p.tables.exec = Jvm.exec) (hb : c.code = cc) {f : Nat → Nat} {i j : Nat} {off : Int} {tgt : Nat} (hdg : decode cc pc = .ok (.if_acmp .ne off, 3)) (ht : (pc : Int) + off = (tgt : Int)) (hi : f i = f j → i = j) (kt : ¬ i = j → W p l e R s m args below meth c H locs cells slots Q (F0 m tgt ls rest)) (kf : i = j → W p l e R s m args below meth c H locs cells slots Q (F0 m (pc + 3) ls rest)) : W p l e R s m args below meth c H locs cells slots Q (F0 m pc ls (.ref (f j) :: .ref (f i) :: rest)) :=
  lv_acmp_ne (rx := some (f i)) (ry := some (f j)) hexec hb hdg ht (fun q => kt (fun z => q (by rw [z]))) (fun q => kf (hi (Option.some.inj q)))
theorem zz_getO (hexec : p.tables.exec = Jvm.exec) (hb : c.code = cc) {o n d own ref : String} {index q : Nat} {v : Value} (hE : va_OF o n d v q A s s.heap) (hS : va_S A s.heap H locs) (hown : s.vm.findClass own = some m.cls) (hlink : (Cond.fieldLink own index ref n d).before args s = true) (hsame : ∀ x, s.fieldFound? o n d = some x → s.fieldFound? ref n d = some x) (hdg : decode cc pc = .ok (.getfield index, 3)) (kk : W p l e R s m args below meth c H locs cells slots Q (F0 m (pc + 3) ls (v :: rest))) : W p l e R s m args below meth c H locs cells slots Q (F0 m pc ls (.ref q :: rest)) := by
  obtain ⟨cf, k, fi, f, cell, h1, h2, h3, h4, h5, h6⟩ := hE.kept hS.2.1
  exact W.getf hexec hb hown hlink (hsame _ h1) h2 h3 h4 (v := v) h5 rfl rfl hdg kk
theorem zz_getON (hexec : p.tables.exec = Jvm.exec) (hb : c.code = cc) {o n d own ref host : String} {index q : Nat} {v : Value} (hE : va_OF o n d v q A s s.heap) (hS : va_S A s.heap H locs) (hown : s.vm.findClass own = some m.cls) (hlink : (Cond.fieldLinkNest own index ref n d host).before args s = true) (hsame : ∀ x, s.fieldFound? o n d = some x → s.fieldFound? ref n d = some x) (hdg : decode cc pc = .ok (.getfield index, 3)) (kk : W p l e R s m args below meth c H locs cells slots Q (F0 m (pc + 3) ls (v :: rest))) : W p l e R s m args below meth c H locs cells slots Q (F0 m pc ls (.ref q :: rest)) := by
  obtain ⟨cf, k, fi, f, cell, h1, h2, h3, h4, h5, h6⟩ := hE.kept hS.2.1
  exact va_Wgetf hexec hb hown hlink (hsame _ h1) h2 h3 h4 (v := v) h5 rfl rfl hdg kk
end ZZA
def zC (p : Program) (s : State) (m : MethodId) (args : Array Value) (meth : Method) (c : Code) (cc : ByteArray) (nL : Nat) (own : String) (ws : List Cond) (rt : Option FieldType) (A : Nat → Prop) : Prop :=
  p.tables.exec = Jvm.exec ∧ c.code = cc ∧ meth.sig.returnType = rt ∧ c.maxLocals = nL ∧ s.vm.findClass own = some m.cls ∧ (∀ w ∈ ws, w.before args s = true) ∧ meth.locks = false ∧ ∀ q : Nat, s.heap.size ≤ q → A q
theorem zC.mk {p : Program} {s : State} {m : MethodId} {args : Array Value} {meth : Method} {c : Code} {cc : ByteArray} {nL : Nat} {own : String} {ws : List Cond} {rt : Option FieldType} {A : Nat → Prop} (hx : p.tables.exec = Jvm.exec) (hb : c.code = cc) (hr : meth.sig.returnType = rt) (hml : c.maxLocals = nL) (hown : s.vm.findClass own = some m.cls) (hts : ∀ w ∈ ws, w.before args s = true) (hlocks : meth.locks = false) (hA : ∀ q : Nat, s.heap.size ≤ q → A q) : zC p s m args meth c cc nL own ws rt A := ⟨hx, hb, hr, hml, hown, hts, hlocks, hA⟩
def zNS : Nat := 34
def zLen : List Nat := [20, 12, 22, 14, 15, 23, 20, 7, 5, 12, 12, 14, 22, 22, 4, 4, 5, 4, 3, 3, 4, 4, 4, 4, 4, 4, 4, 4, 4, 5, 4, 3, 4, 4]
def zByt : List (List Int32) := [[110, 111, 32, 114, 111, 111, 109, 32, 102, 111, 114, 32, 97, 32, 102, 97, 109, 105, 108, 121], [110, 111, 32, 115, 117, 99, 104, 32, 115, 112, 97, 110], [97, 110, 32, 101, 110, 100, 32, 105, 115, 32, 111, 117, 116, 32, 111, 102, 32, 114, 97, 110, 103, 101], [110, 111, 32, 115, 117, 99, 104, 32, 102, 97, 109, 105, 108, 121], [110, 111, 32, 115, 117, 99, 104, 32, 100, 101, 110, 115, 105, 116, 121], [110, 111, 32, 102, 111, 111, 116, 112, 114, 105, 110, 116, 32, 105, 115, 32, 97, 116, 32, 104, 97, 110, 100], [116, 104, 101, 114, 101, 32, 105, 115, 32, 110, 111, 32, 115, 117, 99, 104, 32, 111, 110, 101], [98, 101, 108, 111, 119, 32, 48], [99, 111, 117, 114, 116], [110, 111, 32, 115, 117, 99, 104, 32, 112, 97, 114, 116], [110, 111, 32, 115, 117, 99, 104, 32, 98, 97, 108, 108], [110, 111, 32, 115, 117, 99, 104, 32, 110, 117, 109, 98, 101, 114], [97, 32, 115, 105, 100, 101, 32, 105, 115, 32, 111, 117, 116, 32, 111, 102, 32, 114, 97, 110, 103, 101], [97, 32, 115, 105, 122, 101, 32, 105, 115, 32, 111, 117, 116, 32, 111, 102, 32, 114, 97, 110, 103, 101], [99, 104, 105, 112], [67, 72, 73, 80], [114, 111, 117, 110, 100], [110, 97, 109, 101], [118, 105, 97], [116, 111, 101], [104, 101, 101, 108], [115, 105, 100, 101], [98, 97, 108, 108], [66, 65, 76, 76], [104, 111, 108, 101], [72, 79, 76, 69], [108, 101, 115, 115], [76, 69, 83, 83], [109, 97, 115, 107], [112, 97, 115, 116, 101], [112, 97, 114, 116], [103, 97, 112], [119, 105, 110, 103], [87, 73, 78, 71]]
def zLdc : List (String × Nat × String × Nat) := [("FootprintRules", 58, "no room for a family", 0), ("FootprintRules", 72, "no such span", 1), ("FootprintRules", 83, "an end is out of range", 2), ("FootprintRules", 96, "no such family", 3), ("FootprintRules", 98, "no such density", 4), ("FootprintRules", 186, "no footprint is at hand", 5), ("FootprintRules", 188, "there is no such one", 6), ("FootprintRules", 190, "below 0", 7), ("FootprintRules$Footprint", 171, "court", 8), ("FootprintRules", 141, "no such part", 9), ("FootprintRules", 146, "no such ball", 10), ("FootprintRules", 163, "no such number", 11), ("FootprintRules", 167, "a side is out of range", 12), ("FootprintRules", 169, "a size is out of range", 13), ("FootprintRules$Kind", 55, "chip", 14), ("FootprintRules$Kind", 54, "CHIP", 15), ("FootprintRules$Key", 89, "round", 16), ("FootprintRules$Key", 107, "name", 17), ("FootprintRules$Key", 104, "via", 18), ("FootprintRules$Key", 74, "toe", 19), ("FootprintRules$Key", 80, "heel", 20), ("FootprintRules$Key", 83, "side", 21), ("FootprintRules$Kind", 67, "ball", 22), ("FootprintRules$Kind", 69, "BALL", 23), ("FootprintRules$Kind", 72, "hole", 24), ("FootprintRules$Kind", 74, "HOLE", 25), ("FootprintRules$Kind", 64, "less", 26), ("FootprintRules$Kind", 63, "LESS", 27), ("FootprintRules$Key", 86, "court", 8), ("FootprintRules$Key", 92, "mask", 28), ("FootprintRules$Key", 95, "paste", 29), ("FootprintRules$Key", 101, "part", 30), ("FootprintRules$Key", 98, "gap", 31), ("FootprintRules$Kind", 61, "wing", 32), ("FootprintRules$Kind", 60, "WING", 33)]
def zKindN : List String := ["CHIP", "WING", "LESS", "BALL_GRID", "HOLES"]
def zKind_needed : List Int32 := [7, 31, 31, 232, 29]
def zKind_exact : List Int32 := [0, 24, 24, 104, 25]
def zKind_word : List Nat := [14, 32, 26, 22, 24]
def zKind_capitals : List Nat := [15, 33, 27, 23, 25]
def zKeyN : List String := ["TOE", "HEEL", "SIDE", "COURT", "ROUNDING", "MASK", "PASTE", "GAP", "PART", "VIA", "NAME"]
def zKey_first : List Int32 := [0, 3, 6, 9, 12, 13, 14, 15, 16, 17, 18]
def zKey_many : List Int32 := [3, 3, 3, 3, 1, 1, 1, 1, 1, 1, 0]
def zKey_least : List Int32 := [0, 0, 0, 0, 1, 0, 0, 0, 10000, 10000, 0]
def zKey_word : List Nat := [19, 20, 21, 8, 16, 28, 29, 31, 30, 18, 17]
def zKindF : List (String × String × String × List Int32) := [("FootprintRules$Kind", "needed", "I", zKind_needed), ("FootprintRules$Kind", "exact", "I", zKind_exact)]
def zKeyF : List (String × String × String × List Int32) := [("FootprintRules$Key", "first", "I", zKey_first), ("FootprintRules$Key", "many", "I", zKey_many), ("FootprintRules$Key", "least", "I", zKey_least)]
/-- the strings' own objects -/
def zS (adK adV : Nat → Nat) (A : Nat → Prop) (U : State) (H : Heap) : Prop := ∀ i : Nat, i < zNS → va_O "java/lang/String" (adK i) A U H ∧ va_OF "java/lang/String" "coder" "B" (.int 0) (adK i) A U H ∧ va_OF "java/lang/String" "value" "[B" (.ref (adV i)) (adK i) A U H ∧ va_T .byte (adV i) (zLen.getD i 0) (fun j => .int ((zByt.getD i []).getD j 0)) A U H
/-- a static field is laid out in its class's cell -/
def zL (C n d : String) (A : Nat → Prop) (U : State) (H : Heap) : Prop := ∃ (c : ClassId) (k : Class) (i : Nat) (f : Field) (a : Nat) (cell : Cell), U.vm.findClass C = some c ∧ U.fieldFound? C n d = some (c, k, i, f) ∧ f.isStatic = true ∧ k.statics = some a ∧ H[a]? = some cell ∧ cell.vm.isStatics = true ∧ cell.cls = c ∧ f.slot < cell.slots.size ∧ k.staticTypes[f.slot]? = some f.type ∧ ¬ A a
theorem zS.to {adK adV : Nat → Nat} {A B : Nat → Prop} {u U : State} {H H1 : Heap} (h : zS adK adV A u H) (hvm : u.vm.Alike U.vm) (hq : ∀ a : Nat, a < H.size → ¬ A a → H1[a]? = H[a]?) (hAB : ∀ q, B q → A q) : zS adK adV B U H1 := fun i hi =>
  ⟨(va_O.moved hvm ((h i hi).1.kept hq)).narrow hAB, (va_OF.moved hvm ((h i hi).2.1.kept hq)).narrow hAB, (va_OF.moved hvm ((h i hi).2.2.1.kept hq)).narrow hAB, (va_T.moved hvm ((h i hi).2.2.2.kept hq)).narrow hAB⟩
theorem zL.to {C n d : String} {A B : Nat → Prop} {u U : State} {H H1 : Heap} (h : zL C n d A u H) (hvm : u.vm.Alike U.vm) (hq : ∀ a : Nat, a < H.size → ¬ A a → H1[a]? = H[a]?) (hAB : ∀ q, B q → A q) : zL C n d B U H1 := by
  obtain ⟨c, k, i, f, a, cell, h1, h2, h3, h4, h5, h6, h7, h8, h9, h10⟩ := h
  obtain ⟨k', hi', he⟩ := State.fieldFound?_setVm hvm h2
  exact ⟨c, k', i, f, a, cell, by rw [hvm.findClass]; exact h1, hi', h3, by rw [he]; exact h4, by rw [hq a (Array.getElem?_eq_some_iff.mp h5).1 h10]; exact h5, h6, h7, h8, by rw [he]; exact h9, fun z => h10 (hAB _ z)⟩
/-- what the heap holds from the start, and nobody writes -/
def zEH (ad : Nat → Nat → Nat) (A : Nat → Prop) (U : State) (H : Heap) : Prop :=
  va_En "FootprintRules$Kind" "LFootprintRules$Kind;" zKindN zKindF (ad 0) A U H ∧ va_Ef 5 "FootprintRules$Kind" "word" "Ljava/lang/String;" (fun i => .ref (ad 2 (zKind_word.getD i 0))) (ad 0) A U H ∧ va_Ef 5 "FootprintRules$Kind" "capitals" "Ljava/lang/String;" (fun i => .ref (ad 2 (zKind_capitals.getD i 0))) (ad 0) A U H ∧
  va_En "FootprintRules$Key" "LFootprintRules$Key;" zKeyN zKeyF (ad 1) A U H ∧ va_Ef 11 "FootprintRules$Key" "word" "Ljava/lang/String;" (fun i => .ref (ad 2 (zKey_word.getD i 0))) (ad 1) A U H ∧
  va_Z "FootprintRules" "KINDS" "[LFootprintRules$Kind;" (.ref (ad 4 0)) A U H ∧ va_T (.object "FootprintRules$Kind") (ad 4 0) 5 (fun j => .ref (ad 0 j)) A U H ∧ va_Z "FootprintRules" "KEYS" "[LFootprintRules$Key;" (.ref (ad 4 1)) A U H ∧ va_T (.object "FootprintRules$Key") (ad 4 1) 11 (fun j => .ref (ad 1 j)) A U H ∧
  zS (ad 2) (ad 3) A U H ∧ va_Z "java/lang/String" "COMPACT_STRINGS" "Z" (.int 1) A U H ∧
  va_Zq Bundle.tN "UNASSIGNED_STACK" Bundle.steD A U H ∧ zL Bundle.tN "UNASSIGNED_STACK" Bundle.steD A U H ∧ va_Zq Bundle.tN "SUPPRESSED_SENTINEL" Bundle.listD A U H ∧ zL Bundle.tN "SUPPRESSED_SENTINEL" Bundle.listD A U H ∧ va_Zq "jdk/internal/util/Preconditions" "SIOOBE_FORMATTER" "Ljava/util/function/BiFunction;" A U H
theorem zEH.to {ad : Nat → Nat → Nat} {A B : Nat → Prop} {u U : State} {H H1 : Heap} (h : zEH ad A u H) (hvm : u.vm.Alike U.vm) (hq : ∀ a : Nat, a < H.size → ¬ A a → H1[a]? = H[a]?) (hAB : ∀ q, B q → A q) : zEH ad B U H1 := by
  obtain ⟨h1, h2, h3, h4, h5, h6, h7, h8, h9, h10, h11, h12, h13, h14, h15, h16⟩ := h
  exact ⟨(va_En.moved hvm (h1.kept hq)).narrow hAB, (va_Ef.moved hvm (h2.kept hq)).narrow hAB, (va_Ef.moved hvm (h3.kept hq)).narrow hAB, (va_En.moved hvm (h4.kept hq)).narrow hAB, (va_Ef.moved hvm (h5.kept hq)).narrow hAB, (va_Z.moved hvm (h6.kept hq)).narrow hAB, (va_T.moved hvm (h7.kept hq)).narrow hAB, (va_Z.moved hvm (h8.kept hq)).narrow hAB, (va_T.moved hvm (h9.kept hq)).narrow hAB, h10.to hvm hq hAB, (va_Z.moved hvm (h11.kept hq)).narrow hAB, (va_Zq.moved hvm (h12.kept hq)).narrow hAB, h13.to hvm hq hAB, (va_Zq.moved hvm (h14.kept hq)).narrow hAB, h15.to hvm hq hAB, (va_Zq.moved hvm (h16.kept hq)).narrow hAB⟩
/-- classes said not to be castable -/
def zNcs : List (String × String) := [("java/lang/IllegalArgumentException", "java/lang/IndexOutOfBoundsException"), ("java/lang/IndexOutOfBoundsException", "java/lang/IllegalStateException")]
/-- what the tables say beside the good words -/
def zET (ad : Nat → Nat → Nat) (U : State) : Prop := (∀ w ∈ zNW, va_Nw w U) ∧ (∀ q ∈ zLdc, vk_R q.1 q.2.1 q.2.2.1 (ad 2 q.2.2.2) U) ∧ va_AO "FootprintRules$Family" U ∧ ∀ q ∈ zNcs, va_Nc q.1 q.2 U
theorem zNw_warm {w : Cond} {s U : State} (hw : zIsN w = true) (hW : s.WarmedH U.vm) (h : va_Nw w s) : va_Nw w U := by
  cases w <;> first | exact va_Nw.warmF hW h | exact va_Nw.warmM hW h | (exact absurd hw (by simp [zIsN]))
theorem zET.warm {ad : Nat → Nat → Nat} {s U : State} (h : zET ad s) (hW : s.WarmedH U.vm) : zET ad U :=
  ⟨fun w hw => zNw_warm (List.mem_filter.mp hw).2 hW (h.1 w hw), fun q hq => vk_R.warm hW (h.2.1 q hq), va_AO.moved hW.alike h.2.2.1, fun q hq => va_Nc.moved hW.alike (h.2.2.2 q hq)⟩
def zE (ad : Nat → Nat → Nat) (A : Nat → Prop) (U : State) : Prop := zEH ad A U U.heap ∧ zET ad U
section ZEA
variable {ad : Nat → Nat → Nat} {A A0 B : Nat → Prop} {s U : State} {H : Heap} {locs : List Loc}
theorem zE.call (h : zE ad A0 s) (hS : va_S A0 s.heap H locs) (hB : ∀ q, B q → A0 q) (hU : U.heap = H) (hW : s.WarmedH U.vm) : zE ad B U := ⟨by rw [hU]; exact h.1.to hW.alike hS.2.1 hB, h.2.warm hW⟩
theorem zE.nw (h : zE ad A s) (w : Cond) (hw : w ∈ zNW) : va_Nw w s := h.2.1 w hw
theorem zE.enKind (h : zE ad A s) : va_En "FootprintRules$Kind" "LFootprintRules$Kind;" zKindN zKindF (ad 0) A s s.heap := h.1.1
theorem zE.enKey (h : zE ad A s) : va_En "FootprintRules$Key" "LFootprintRules$Key;" zKeyN zKeyF (ad 1) A s s.heap := h.1.2.2.2.1
theorem zE.inj_Kind (h : zE ad A s) {i j : Nat} (hi : i < 5) (hj : j < 5) : ad 0 i = ad 0 j → i = j := h.1.1.2 i j hi hj
theorem zE.inj_Key (h : zE ad A s) {i j : Nat} (hi : i < 11) (hj : j < 11) : ad 1 i = ad 1 j → i = j := h.1.2.2.2.1.2 i j hi hj
theorem zE.fKind_needed (h : zE ad A s) (i : Nat) (hi : i < 5) : va_OF "FootprintRules$Kind" "needed" "I" (.int (zKind_needed.getD i 0)) (ad 0 i) A s s.heap := (h.1.1.1 i hi).2.2 _ (List.mem_of_getElem? (i := 0) rfl)
theorem zE.fKind_exact (h : zE ad A s) (i : Nat) (hi : i < 5) : va_OF "FootprintRules$Kind" "exact" "I" (.int (zKind_exact.getD i 0)) (ad 0 i) A s s.heap := (h.1.1.1 i hi).2.2 _ (List.mem_of_getElem? (i := 1) rfl)
theorem zE.fKind_word (h : zE ad A s) (i : Nat) (hi : i < 5) : va_OF "FootprintRules$Kind" "word" "Ljava/lang/String;" (.ref (ad 2 (zKind_word.getD i 0))) (ad 0 i) A s s.heap := h.1.2.1 i hi
theorem zE.fKind_capitals (h : zE ad A s) (i : Nat) (hi : i < 5) : va_OF "FootprintRules$Kind" "capitals" "Ljava/lang/String;" (.ref (ad 2 (zKind_capitals.getD i 0))) (ad 0 i) A s s.heap := h.1.2.2.1 i hi
theorem zE.fKey_first (h : zE ad A s) (i : Nat) (hi : i < 11) : va_OF "FootprintRules$Key" "first" "I" (.int (zKey_first.getD i 0)) (ad 1 i) A s s.heap := (h.1.2.2.2.1.1 i hi).2.2 _ (List.mem_of_getElem? (i := 0) rfl)
theorem zE.fKey_many (h : zE ad A s) (i : Nat) (hi : i < 11) : va_OF "FootprintRules$Key" "many" "I" (.int (zKey_many.getD i 0)) (ad 1 i) A s s.heap := (h.1.2.2.2.1.1 i hi).2.2 _ (List.mem_of_getElem? (i := 1) rfl)
theorem zE.fKey_least (h : zE ad A s) (i : Nat) (hi : i < 11) : va_OF "FootprintRules$Key" "least" "I" (.int (zKey_least.getD i 0)) (ad 1 i) A s s.heap := (h.1.2.2.2.1.1 i hi).2.2 _ (List.mem_of_getElem? (i := 2) rfl)
theorem zE.fKey_word (h : zE ad A s) (i : Nat) (hi : i < 11) : va_OF "FootprintRules$Key" "word" "Ljava/lang/String;" (.ref (ad 2 (zKey_word.getD i 0))) (ad 1 i) A s s.heap := h.1.2.2.2.2.1 i hi
theorem zE.stKINDS (h : zE ad A s) : va_Z "FootprintRules" "KINDS" "[LFootprintRules$Kind;" (.ref (ad 4 0)) A s s.heap := h.1.2.2.2.2.2.1
theorem zE.tab0 (h : zE ad A s) : va_T (.object "FootprintRules$Kind") (ad 4 0) 5 (fun j => .ref (ad 0 j)) A s s.heap := h.1.2.2.2.2.2.2.1
theorem zE.stKEYS (h : zE ad A s) : va_Z "FootprintRules" "KEYS" "[LFootprintRules$Key;" (.ref (ad 4 1)) A s s.heap := h.1.2.2.2.2.2.2.2.1
theorem zE.tab1 (h : zE ad A s) : va_T (.object "FootprintRules$Key") (ad 4 1) 11 (fun j => .ref (ad 1 j)) A s s.heap := h.1.2.2.2.2.2.2.2.2.1
theorem zE.str (h : zE ad A s) : zS (ad 2) (ad 3) A s s.heap := h.1.2.2.2.2.2.2.2.2.2.1
theorem zE.stCS (h : zE ad A s) : va_Z "java/lang/String" "COMPACT_STRINGS" "Z" (.int 1) A s s.heap := h.1.2.2.2.2.2.2.2.2.2.2.1
theorem zE.xU (h : zE ad A s) : va_Zq Bundle.tN "UNASSIGNED_STACK" Bundle.steD A s s.heap ∧ zL Bundle.tN "UNASSIGNED_STACK" Bundle.steD A s s.heap := ⟨h.1.2.2.2.2.2.2.2.2.2.2.2.1, h.1.2.2.2.2.2.2.2.2.2.2.2.2.1⟩
theorem zE.xN (h : zE ad A s) : va_Zq Bundle.tN "SUPPRESSED_SENTINEL" Bundle.listD A s s.heap ∧ zL Bundle.tN "SUPPRESSED_SENTINEL" Bundle.listD A s s.heap := ⟨h.1.2.2.2.2.2.2.2.2.2.2.2.2.2.1, h.1.2.2.2.2.2.2.2.2.2.2.2.2.2.2.1⟩
theorem zE.fmt (h : zE ad A s) : va_Zq "jdk/internal/util/Preconditions" "SIOOBE_FORMATTER" "Ljava/util/function/BiFunction;" A s s.heap := h.1.2.2.2.2.2.2.2.2.2.2.2.2.2.2.2
theorem zE.nc (h : zE ad A s) (q : String × String) (hq : q ∈ zNcs) : va_Nc q.1 q.2 s := h.2.2.2.2 q hq
theorem zE.ldc (h : zE ad A s) (q : String × Nat × String × Nat) (hq : q ∈ zLdc) : vk_R q.1 q.2.1 q.2.2.1 (ad 2 q.2.2.2) s := h.2.2.1 q hq
theorem zE.ao (h : zE ad A s) : va_AO "FootprintRules$Family" s := h.2.2.2.1
theorem zS_recv {i : Nat} (h : zS (ad 2) (ad 3) A s s.heap) (hi : i < zNS) (hS : va_S A s.heap H locs) : ∃ cell : Cell, H[ad 2 i]? = some cell ∧ cell.vm.isStatics = false ∧ s.vm.findClass "java/lang/String" = some cell.cls := by
  obtain ⟨cell, h1, h2, h3, -⟩ := (h i hi).1.kept hS.2.1
  exact ⟨cell, h1, h2, h3⟩
end ZEA
/-- a contract's start -/
def zPc (D : va_G) (ad : Nat → Nat → Nat) (av : List Value) (wc : va_W) (tyc : List (ClassId × FieldType)) (sz : Nat) : Array Value → State → Prop := va_Pc av (fun U => U.heap.size = sz ∧ va_P D vwCl wc U.heap ∧ va_K D vwCl tyc U ∧ va_D (fun _ => True) wc ∧ zE ad (va_A wc sz) U)
def zB {S : Type} (D : va_G) (A : Nat → Prop) (w1 : S → va_W) : S → State → Prop := fun u t => va_P D vwCl (w1 u) t.heap ∧ va_D A (w1 u)
def zBX {S : Type} (D : va_G) (A : Nat → Prop) (xp : String → S → Prop) (w1 : S → va_W) : String → S → State → Prop := fun E u t => xp E u ∧ va_P D vwCl (w1 u) t.heap ∧ va_D A (w1 u)
abbrev zMi {S : Type} (l : Launch) (y : MethodName) (ws : List Cond) (rm : Room) (D : va_G) (ad : Nat → Nat → Nat) (av : List Value) (wc : va_W) (tyc : List (ClassId × FieldType)) (sz : Nat) (post : Int32 → S → Prop) (w1 : S → va_W) (mc ms : Nat) : Prop := Met l y ws rm (zPc D ad av wc tyc sz) (va_Qi post (zB D (va_A wc sz) w1) (va_A wc sz)) mc ms (va_A wc sz)
abbrev zMl {S : Type} (l : Launch) (y : MethodName) (ws : List Cond) (rm : Room) (D : va_G) (ad : Nat → Nat → Nat) (av : List Value) (wc : va_W) (tyc : List (ClassId × FieldType)) (sz : Nat) (post : Int64 → S → Prop) (w1 : S → va_W) (mc ms : Nat) : Prop := Met l y ws rm (zPc D ad av wc tyc sz) (va_Ql post (zB D (va_A wc sz) w1) (va_A wc sz)) mc ms (va_A wc sz)
abbrev zMv {S : Type} (l : Launch) (y : MethodName) (ws : List Cond) (rm : Room) (D : va_G) (ad : Nat → Nat → Nat) (av : List Value) (wc : va_W) (tyc : List (ClassId × FieldType)) (sz : Nat) (post : S → Prop) (w1 : S → va_W) (mc ms : Nat) : Prop := Met l y ws rm (zPc D ad av wc tyc sz) (va_Qv post (zB D (va_A wc sz) w1) (va_A wc sz)) mc ms (va_A wc sz)
def zBN {S : Type} (D : va_G) (A : Nat → Prop) (w1 : S → va_W) (t1 : S → List (ClassId × FieldType)) : S → State → Prop := fun u t => va_P D vwCl (w1 u) t.heap ∧ va_D A (w1 u) ∧ va_K D vwCl (t1 u) t
abbrev zN {S : Type} (l : Launch) (y : MethodName) (ws : List Cond) (rm : Room) (D : va_G) (ad : Nat → Nat → Nat) (av : List Value) (wc : va_W) (tyc : List (ClassId × FieldType)) (sz : Nat) (w1 : S → va_W) (t1 : S → List (ClassId × FieldType)) (mc ms : Nat) : Prop := Met l y ws rm (zPc D ad av wc tyc sz) (va_Qv (fun _ : S => True) (zBN D (va_A wc sz) w1 t1) (va_A wc sz)) mc ms (va_A wc sz)
section ZZB
variable {p : Program} {l : Launch} {e : Env} {R : Room} {s : State} {m : MethodId} {args : Array Value} {below : List Frame} {meth : Method} {c : Code} {H : Heap} {locs : List Loc} {cells slots : Nat} {Q : State → Prop}
variable {cc : ByteArray} {pc : Nat} {ls : Array Slot} {rest st0 : List Value} {D : va_G} {ad : Nat → Nat → Nat} {A0 A : Nat → Prop} {tys tyc : List (ClassId × FieldType)} {ws wc : va_W} {mc ms : Nat} {a : Array Value} {S : Type}
theorem zPc.blind {av : List Value} {sz : Nat} : FrameBlind (zPc D ad av wc tyc sz) := by
  intro a U g mk q
  obtain ⟨q0, q1, qP, qK, qD, qE⟩ := q
  exact ⟨q0, q1, qP, va_K.moved (u := U) (U := U.calling g mk a) (Vm.Alike.refl U.vm) qK, qD, qE.call va_S.rf (fun _ h => h) rfl (State.WarmedH.refl U)⟩
theorem zz_fm {α : Type} {β : Type} (f : α → Option β) (l : List α) (r : List β) (h : l.map f = r.map some) : l.filterMap f = r := by
  have h1 : l.filterMap f = (l.map f).filterMap id := by rw [List.filterMap_map]; rfl
  rw [h1, h, List.filterMap_map]
  simp
theorem zpre_at {av : List Value} (hE : zE ad A0 s) (hK : va_K D vwCl tys s) (hP : va_P D vwCl ws H) (hD : va_D A0 ws) (hS : va_S A0 s.heap H locs) (hA : ∀ q : Nat, s.heap.size ≤ q → A0 q) (isC isT : List Nat) (hC : isC.map (fun i => ws[i]?) = wc.map some) (hT : isT.filterMap (fun i => tys[i]?) = tyc) (hn : va_nd isC = true) : ∀ U : State, U.heap = H → s.WarmedH U.vm → zPc D ad av wc tyc H.size av.toArray U := by
  intro U hU hW
  exact ⟨rfl, by rw [hU], by rw [hU]; exact hP.sub isC (zz_fm _ _ _ hC), va_K.moved hW.alike (hK.sub isT hT), (hD.sub isC hn hC).weaken (fun _ _ _ _ => trivial), hE.call hS (va_free hD hS hA isC hC) hU hW⟩
theorem zpreV {b : Nat} {As : List Value} (hE : zE ad A0 s) (hK : va_K D vwCl tys s) (hP : va_P D vwCl ws H) (hD : va_D A0 ws) (hS : va_S A0 s.heap H locs) (hA : ∀ q : Nat, s.heap.size ≤ q → A0 q) (isC isT : List Nat) (hC : isC.map (fun i => ws[i]?) = wc.map some) (hT : isT.filterMap (fun i => tys[i]?) = tyc) (hn : va_nd isC = true) {ci q0 : Nat} {q : vw_C} {fs : List Value} (hcl : vwCl[ci]? = some q) (he : ws[q0]? = some (b, .inr (ci, fs))) : PreV s H q.1 b (zPc D ad (.ref b :: As) wc tyc H.size) As :=
  ⟨zPc.blind, va_recv hK hP hcl he, zpre_at hE hK hP hD hS hA isC isT hC hT hn⟩
theorem zpreC {b : Nat} {C : String} {As : List Value} (hE : zE ad A0 s) (hK : va_K D vwCl tys s) (hP : va_P D vwCl ws H) (hD : va_D A0 ws) (hS : va_S A0 s.heap H locs) (hA : ∀ q : Nat, s.heap.size ≤ q → A0 q) (isC isT : List Nat) (hC : isC.map (fun i => ws[i]?) = wc.map some) (hT : isT.filterMap (fun i => tys[i]?) = tyc) (hn : va_nd isC = true) (hrec : ∃ cellB : Cell, H[b]? = some cellB ∧ cellB.vm.isStatics = false ∧ s.vm.findClass C = some cellB.cls) : PreV s H C b (zPc D ad (.ref b :: As) wc tyc H.size) As :=
  ⟨zPc.blind, hrec, zpre_at hE hK hP hD hS hA isC isT hC hT hn⟩
theorem zpreS {As : List Value} (hE : zE ad A0 s) (hK : va_K D vwCl tys s) (hP : va_P D vwCl ws H) (hD : va_D A0 ws) (hS : va_S A0 s.heap H locs) (hA : ∀ q : Nat, s.heap.size ≤ q → A0 q) (isC isT : List Nat) (hC : isC.map (fun i => ws[i]?) = wc.map some) (hT : isT.filterMap (fun i => tys[i]?) = tyc) (hn : va_nd isC = true) : PreS s H (zPc D ad As wc tyc H.size) As :=
  ⟨zPc.blind, zpre_at hE hK hP hD hS hA isC isT hC hT hn⟩
theorem zcall_i {post : Int32 → S → Prop} {w1 : S → va_W} (hP : va_P D vwCl ws H) (hD : va_D A0 ws) (hS : va_S A0 s.heap H locs) (hA : ∀ q : Nat, s.heap.size ≤ q → A0 q) (isC isR : List Nat) (hr : va_Run p l e R s m args below meth c H locs cells slots mc ms (F0 m pc ls st0) rest (va_Qi post (zB D (va_A wc H.size) w1) (va_A wc H.size) a) (va_A wc H.size)) (hC : isC.map (fun i => ws[i]?) = wc.map some) (hR : isR.map (fun i => ws[i]?) = (isR.filterMap (fun i => ws[i]?)).map some) (hn : va_nd isR = true) (hdis : ∀ i ∈ isR, i ∉ isC)
    (kk : ∀ (r : Int32) (u : S) (H1 : Heap) (locs1 : List Loc), post r u → va_P D vwCl (isR.filterMap (fun i => ws[i]?) ++ w1 u) H1 → va_D A0 (isR.filterMap (fun i => ws[i]?) ++ w1 u) → va_S A0 s.heap H1 locs1 → W p l e R s m args below meth c H1 locs1 (cells + mc) (slots + ms) Q (F0 m (pc + 3) ls (.int r :: rest))) : W p l e R s m args below meth c H locs cells slots Q (F0 m pc ls st0) := by
  have hF := va_free hD hS hA isC hC
  refine va_calli hr hS (fun q _ h => hF q h) hF (fun r u t H1 locs1 ht hvm hw hB hz hk hS1 => ?_)
  obtain ⟨hP1, hD1⟩ := hB
  rw [ht] at hP1
  obtain ⟨hP2, hD2⟩ := va_join hP hD isC isR hC hR hn hdis hk hF hP1 hD1
  exact kk r u H1 locs1 hw hP2 hD2 hS1
theorem zcall_l {post : Int64 → S → Prop} {w1 : S → va_W} (hP : va_P D vwCl ws H) (hD : va_D A0 ws) (hS : va_S A0 s.heap H locs) (hA : ∀ q : Nat, s.heap.size ≤ q → A0 q) (isC isR : List Nat) (hr : va_Run p l e R s m args below meth c H locs cells slots mc ms (F0 m pc ls st0) rest (va_Ql post (zB D (va_A wc H.size) w1) (va_A wc H.size) a) (va_A wc H.size)) (hC : isC.map (fun i => ws[i]?) = wc.map some) (hR : isR.map (fun i => ws[i]?) = (isR.filterMap (fun i => ws[i]?)).map some) (hn : va_nd isR = true) (hdis : ∀ i ∈ isR, i ∉ isC)
    (kk : ∀ (r : Int64) (u : S) (H1 : Heap) (locs1 : List Loc), post r u → va_P D vwCl (isR.filterMap (fun i => ws[i]?) ++ w1 u) H1 → va_D A0 (isR.filterMap (fun i => ws[i]?) ++ w1 u) → va_S A0 s.heap H1 locs1 → W p l e R s m args below meth c H1 locs1 (cells + mc) (slots + ms) Q (F0 m (pc + 3) ls (.long r :: rest))) : W p l e R s m args below meth c H locs cells slots Q (F0 m pc ls st0) := by
  have hF := va_free hD hS hA isC hC
  refine va_calll hr hS (fun q _ h => hF q h) hF (fun r u t H1 locs1 ht hvm hw hB hz hk hS1 => ?_)
  obtain ⟨hP1, hD1⟩ := hB
  rw [ht] at hP1
  obtain ⟨hP2, hD2⟩ := va_join hP hD isC isR hC hR hn hdis hk hF hP1 hD1
  exact kk r u H1 locs1 hw hP2 hD2 hS1
theorem zcall_v {post : S → Prop} {w1 : S → va_W} (hP : va_P D vwCl ws H) (hD : va_D A0 ws) (hS : va_S A0 s.heap H locs) (hA : ∀ q : Nat, s.heap.size ≤ q → A0 q) (isC isR : List Nat) (hr : va_Run p l e R s m args below meth c H locs cells slots mc ms (F0 m pc ls st0) rest (va_Qv post (zB D (va_A wc H.size) w1) (va_A wc H.size) a) (va_A wc H.size)) (hC : isC.map (fun i => ws[i]?) = wc.map some) (hR : isR.map (fun i => ws[i]?) = (isR.filterMap (fun i => ws[i]?)).map some) (hn : va_nd isR = true) (hdis : ∀ i ∈ isR, i ∉ isC)
    (kk : ∀ (u : S) (H1 : Heap) (locs1 : List Loc), post u → va_P D vwCl (isR.filterMap (fun i => ws[i]?) ++ w1 u) H1 → va_D A0 (isR.filterMap (fun i => ws[i]?) ++ w1 u) → va_S A0 s.heap H1 locs1 → W p l e R s m args below meth c H1 locs1 (cells + mc) (slots + ms) Q (F0 m (pc + 3) ls (rest))) : W p l e R s m args below meth c H locs cells slots Q (F0 m pc ls st0) := by
  have hF := va_free hD hS hA isC hC
  refine va_callv hr hS (fun q _ h => hF q h) hF (fun u t H1 locs1 ht hvm hw hB hz hk hS1 => ?_)
  obtain ⟨hP1, hD1⟩ := hB
  rw [ht] at hP1
  obtain ⟨hP2, hD2⟩ := va_join hP hD isC isR hC hR hn hdis hk hF hP1 hD1
  exact kk u H1 locs1 hw hP2 hD2 hS1
theorem zcall_n {w1 : S → va_W} {t1 : S → List (ClassId × FieldType)} (hK : va_K D vwCl tys s) (hP : va_P D vwCl ws H) (hD : va_D A0 ws) (hS : va_S A0 s.heap H locs) (hA : ∀ q : Nat, s.heap.size ≤ q → A0 q) (isC isR : List Nat) (hr : va_Run p l e R s m args below meth c H locs cells slots mc ms (F0 m pc ls st0) rest (va_Qv (fun _ : S => True) (zBN D (va_A wc H.size) w1 t1) (va_A wc H.size) a) (va_A wc H.size)) (hC : isC.map (fun i => ws[i]?) = wc.map some) (hR : isR.map (fun i => ws[i]?) = (isR.filterMap (fun i => ws[i]?)).map some) (hn : va_nd isR = true) (hdis : ∀ i ∈ isR, i ∉ isC)
    (kk : ∀ (u : S) (H1 : Heap) (locs1 : List Loc), va_K D vwCl (tys ++ t1 u) s → va_P D vwCl (isR.filterMap (fun i => ws[i]?) ++ w1 u) H1 → va_D A0 (isR.filterMap (fun i => ws[i]?) ++ w1 u) → va_S A0 s.heap H1 locs1 → W p l e R s m args below meth c H1 locs1 (cells + mc) (slots + ms) Q (F0 m (pc + 3) ls rest)) : W p l e R s m args below meth c H locs cells slots Q (F0 m pc ls st0) := by
  have hF := va_free hD hS hA isC hC
  refine va_callv hr hS (fun q _ h => hF q h) hF (fun u t H1 locs1 ht hvm hw hB hz hk hS1 => ?_)
  obtain ⟨hP1, hD1, hK1⟩ := hB
  rw [ht] at hP1
  obtain ⟨hP2, hD2⟩ := va_join hP hD isC isR hC hR hn hdis hk hF hP1 hD1
  exact kk u H1 locs1 (hK.app (va_K.moved hvm.symm hK1)) hP2 hD2 hS1
end ZZB
