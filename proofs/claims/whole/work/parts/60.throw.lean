section TH1
variable {p : Program} {l : Launch} {e : Env} {R R' : Room} {s : State} {m : MethodId} {args : Array Value} {below : List Frame} {meth : Method} {c : Code} {T : State} {locs : List Loc} {cells slots : Nat}
/-- the same walk, said of the heap as it now is -/
theorem zt_room (X : Stand p l e R s m args below meth c T locs cells slots) (hf : R'.frames = R.frames) (hl : R'.locals = R.locals) (h1 : cells + R'.cells ≤ R.cells) (h2 : slots + R'.slots ≤ R.slots) :
    Stand p l e R' ((T.setVm s.vm).setFrames (.invoking m args :: below)) m args below meth c T [] 0 0 := by
  obtain ⟨g₀, hfr⟩ := X.frames_eq
  have hcur : T.cur < T.threads.size := State.cur_lt_of_frames hfr
  have hf' : ((T.setVm s.vm).setFrames (.invoking m args :: below)).frames = .invoking m args :: below := State.frames_setFrames _ hcur
  have hr := X.room
  have e1 := State.localsInUse_invoking X.frames X.method X.code
  have e2 := State.localsInUse_invoking (s := (T.setVm s.vm).setFrames (.invoking m args :: below)) hf' X.method X.code
  have h3 := X.heapSize
  have h4 := X.used
  have h5 := X.book
  have h6 : e.platform.stackLimits ((T.setVm s.vm).setFrames (.invoking m args :: below)).me = e.platform.stackLimits s.me := (State.stackLimits_setFrames ..).trans X.limits
  have h7 : ((T.setVm s.vm).setFrames (.invoking m args :: below)).me.stackBytes = s.me.stackBytes := (State.stackBytes_setFrames ..).trans X.bytes
  obtain ⟨th, hth, -⟩ := State.frames_cons hfr
  have hth' := State.frames_cons hf'
  obtain ⟨th2, hth2, -⟩ := hth'
  refine ⟨X.admits, X.cas, X.clock, hf', ?_, X.hears, X.method, X.code, X.here, X.tail, X.warmed, X.limits.trans h6.symm, X.bytes.trans h7.symm, ?_⟩
  · simp only [State.hasRoom, Bool.and_eq_true, decide_eq_true_eq] at hr ⊢
    rw [h6, h7, hf', e2]
    rw [e1, X.frames] at hr
    obtain ⟨⟨⟨⟨a1, a2, a3, a4, a5, a6⟩, a7⟩, a8⟩, a9⟩ := hr
    refine ⟨⟨⟨⟨by omega, by omega, by omega, by omega, by omega, a6⟩, ?_⟩, ?_⟩, h5⟩
    · show T.heap.size + R'.cells ≤ _
      omega
    · show T.slotsUsed + R'.slots ≤ _
      omega
  · have h := (State.sameButNew.refl _ hth2).setFrames T.frames (State.cur_lt_of_frames hf')
    rw [State.setFrames_setFrames] at h
    have h8 : (T.setVm s.vm).setFrames T.frames = T.setVm s.vm := State.setFrames_self (s := T.setVm s.vm) hth
    rw [h8] at h
    exact h
end TH1
theorem zt_isRef {C n d : String} {A : Nat → Prop} {U : State} {args : Array Value} (h : va_Zq C n d A U U.heap) : (Cond.isRef (.static C n d)).before args U = true := by
  rcases h with h | ⟨t, h⟩ <;>
  · obtain ⟨cf, kf, fi, f, a, cell, h1, h2, h3, h4, h5, h6, h7, h8⟩ := h
    simp [Cond.before, Cond.holds, Cond.value, Term.eval, State.fieldNamed?, h1, h2, h4, h5, h6, h7, Value.isRef]
theorem zt_laysS {C n d : String} {A : Nat → Prop} {U : State} {args : Array Value} (h : zL C n d A U U.heap) : (Cond.laysStatic C n d).before args U = true := by
  obtain ⟨c, k, i, f, a, cell, h1, h2, h3, h4, h5, h6, h7, h8, h9, h10⟩ := h
  exact Cond.laysStatic_of h1 h2 h3 h4 h5 h6 h7 h8 h9
def zt4 : List Cond := [.isRef (.static Bundle.tN "UNASSIGNED_STACK" Bundle.steD), .isRef (.static Bundle.tN "SUPPRESSED_SENTINEL" Bundle.listD), .laysStatic Bundle.tN "UNASSIGNED_STACK" Bundle.steD, .laysStatic Bundle.tN "SUPPRESSED_SENTINEL" Bundle.listD]
def ztB (a : Cond) : Bool := match a with
  | .declares y => decide (Cond.instanceMethod y ∈ zT) && zT.any (fun w => match w with | .code z _ _ _ => decide (z = y) | _ => false)
  | .castable X Y => decide (X = Y) && decide (Cond.instantiable X 6 ∈ zT)
  | a => decide (a ∈ zt4) || (decide (a ∈ zT) && a.onTables)
def ztOk (ws : List Cond) : Prop := ws.all ztB = true
theorem zt_declares {y : MethodName} {bytes : ByteArray} {n : Nat} {ret : Option FieldType} {args : Array Value} {U : State} (h1 : (Cond.instanceMethod y).before args U = true) (h2 : (Cond.code y bytes n ret).before args U = true) : (Cond.declares y).before args U = true := by
  obtain ⟨mk, methM, hnamed, hmethM, hstM, habM⟩ := Cond.instanceMethod_spec h1
  obtain ⟨methM', cM, hmethM', -, -, -, -, -, -, hsigM⟩ := Cond.code_spec hnamed h2
  cases hmethM.symm.trans hmethM'
  simp [Cond.before, Cond.holds, Cond.value, hnamed, hmethM, hstM, hsigM]
theorem zt_castable {X : String} {n : Nat} {args : Array Value} {U : State} (h1 : (Cond.instantiable X n).before args U = true) : (Cond.castable X X).before args U = true := by
  obtain ⟨c, k, hc, -⟩ := Cond.instantiable_spec h1
  simp [Cond.before, Cond.holds, Cond.value, hc, va_asg]
theorem zt_atoms {ad : Nat → Nat → Nat} {A : Nat → Prop} {s U : State} {args : Array Value} {ws : List Cond} (hw : ztOk ws) (hts : ∀ w ∈ zT, w.before args s = true) (hE : zE ad A U) (hv : s.vm = U.vm) : ∀ a ∈ ws, a.before args U = true := by
  intro a ha
  have h := List.all_eq_true.mp hw a ha
  unfold ztB at h
  split at h
  · rename_i y
    rw [Bool.and_eq_true, decide_eq_true_eq, List.any_eq_true] at h
    obtain ⟨h1, w, h2, h3⟩ := h
    split at h3
    · rename_i z b n r
      rw [decide_eq_true_eq] at h3
      subst h3
      exact zt_declares (va_tabs rfl hv (hts _ h1)) (va_tabs rfl hv (hts _ h2))
    · cases h3
  · rename_i X Y
    rw [Bool.and_eq_true, decide_eq_true_eq, decide_eq_true_eq] at h
    obtain ⟨h1, h2⟩ := h
    subst h1
    exact zt_castable (va_tabs rfl hv (hts _ h2))
  · rw [Bool.or_eq_true, Bool.and_eq_true, decide_eq_true_eq, decide_eq_true_eq] at h
    rcases h with h | ⟨h1, h2⟩
    · simp only [zt4, List.mem_cons, List.not_mem_nil, or_false] at h
      rcases h with rfl | rfl | rfl | rfl
      · exact zt_isRef hE.xU.1
      · exact zt_isRef hE.xN.1
      · exact zt_laysS hE.xU.2
      · exact zt_laysS hE.xN.2
    · exact va_tabs h2 hv (hts _ h1)
section TH2
variable {p : Program} {l : Launch} {e : Env} {R R' : Room} {s : State} {m : MethodId} {args : Array Value} {below : List Frame} {meth : Method} {c : Code} {T : State} {locs : List Loc} {cells slots : Nat} {cc : ByteArray}
theorem zt_throw (X : Stand p l e R s m args below meth c T locs cells slots) (hexec : p.tables.exec = Jvm.exec) (hb : c.code = cc) (htr : l.stackTraces = false) {own cls text : String} {names : List String} {ik is ic pc sa : Nat} {ls : Array Slot}
    (hown : s.vm.findClass own = some m.cls) (hcls : Bundle.fit cls = true) (hnames : ∀ n ∈ names, Bundle.fit n = true)
    (hat : ∀ a ∈ Bundle.ownAtoms own ic cls names, a.before args ((T.setVm s.vm).setFrames (.invoking m args :: below)) = true)
    (hkl : (Cond.classLink own ik cls).before args s = true) (hin : (Cond.initialized cls).before args s = true) (hldc : vk_R own is text sa s) (hsz : ls.size = c.maxLocals)
    (d0 : decode cc pc = .ok (.new ik, 3)) (d3 : decode cc (pc + 3) = .ok (.dup, 1)) (d4 : decode cc (pc + 4) = .ok (.ldc is, 2)) (d6 : decode cc (pc + 6) = .ok (.invokespecial ic, 3)) (d9 : decode cc (pc + 9) = .ok (.athrow, 1))
    (hout : ∀ x ∈ c.exceptionTable.toList, covers x (pc + 9) = false)
    (hc : cells + 1 ≤ R.cells) (hs : slots + 6 ≤ R.slots) (hRf : names.length + 3 < R.frames) (hRl : 13 * (names.length + 1) + 52 ≤ R.locals) (hlocks : meth.locks = false) :
    ∃ U, Steps p.tables e below (T.setTop (F0 m pc ls [])) U ∧ U.status = .running ∧ Ended U below (.threw T.heap.size) ∧ s.WarmedH U.vm ∧ s.sameButNew ({ U with vm := s.vm } : State) locs (cells + 1) (slots + 6) ∧ T.heap.size ≤ U.heap.size ∧ (∀ q : Nat, q < T.heap.size → U.heap[q]? = T.heap[q]?) ∧
      ∃ ce : Cell, U.heap[T.heap.size]? = some ce ∧ ce.vm = .none ∧ s.vm.findClass cls = some ce.cls := by
  have X0 := zt_room (R' := { R with cells := 1, slots := 6 }) X rfl rfl hc hs
  have htr' : e.platform.stackTraces = false := by rw [X.admits.platform]; exact htr
  generalize hs' : (T.setVm s.vm).setFrames (.invoking m args :: below) = s' at hat X0
  have hv : s'.vm = s.vm := by rw [← hs']; rfl
  have hown' : s'.vm.findClass own = some m.cls := by rw [hv]; exact hown
  obtain ⟨vm₁, cX, kX, hfX, hkX, -, -, X₁, st1⟩ := X0.newCold hexec (own := own) (C := cls) (index := ik) (n := 6) hown' (va_tabs rfl hv.symm hkl) (hat (.instantiable cls 6) (by simp [Bundle.ownAtoms])) (va_tabs rfl hv.symm hin) (g := F0 m pc ls []) rfl (by rw [hb]; exact d0) (Nat.le_refl _) (Nat.le_refl _)
  generalize hT : (T.setVm vm₁).pushCell { cls := cX, slots := kX.instanceTypes.map defaultValue, vm := .none } = T1 at X₁ st1
  have hcellA : T1.heap[T.heap.size]? = some (freshCell cX kX) := by rw [← hT]; exact State.heap_pushCell_size _ _
  have hz' : s'.heap.size = T.heap.size := by rw [← hs']; rfl
  have hR' : vk_R own is text sa s' := vk_R.same hv hldc
  obtain ⟨U, hsteps, hrun, hend, hW, hsame, ce, hce, K⟩ := X₁.ctorThrowS hexec htr' (own := own) (cls := cls) (names := names) (ic := ic) hown' hcls hnames
    hat (fun y hy => by cases hy) hfX hkX hcellA (by rw [hz']; exact Nat.le_refl _) (msg := .ref sa) rfl
    (g := F0 m (pc + 6) ls [.ref sa, .ref T.heap.size, .ref T.heap.size]) rfl hsz rfl rfl (rest := []) rfl
    (by rw [hb]; exact d6) (by rw [hb]; exact d9) hout hRf (by show 2 * 0 + _ + _ ≤ R.locals; simp [Value.category]; omega)
  refine ⟨U, st1 _ ?_, hrun, hend, ?_, ?_, ?_, ?_, ce, hce, K.vm, by rw [← hv]; exact K.cls⟩
  · show Steps p.tables e below (T1.setTop (F0 m (pc + 3) ls [.ref T.heap.size])) _
    jvm_step X₁.here [X₁.here.top, hexec, hb, d3, Value.category]
    exact X₁.ldcString hexec (own := own) (text := text) (index := is) (a := sa) hown' hR'.1 hR'.2 (g := F0 m (pc + 4) ls [.ref T.heap.size, .ref T.heap.size]) rfl (by rw [hb]; exact d4) _ hsteps
  · rw [← hs'] at hW
    exact hW
  · rw [← hs'] at hsame
    have h1 : (T.setVm s.vm).sameButNew ({ U with vm := s.vm } : State) [] 1 6 := by
      refine ⟨?_, hsame.2⟩
      have h := hsame.1
      rw [State.setFrames_setFrames] at h
      exact h
    have h2 := X.same.trans h1
    rw [List.append_nil] at h2
    exact h2
  · have h := hsame.2.1
    rw [hz'] at h
    exact h
  · rw [← hs'] at hsame
    intro q hq
    obtain ⟨c', h1, h2, h3, h4⟩ := hsame.2.2.2.2.2 q T.heap[q] (Array.getElem?_eq_getElem hq)
    rw [Array.getElem?_eq_getElem hq]
    have h5 : c'.slots = T.heap[q].slots := Array.ext_getElem? (fun i => h4 i (fun z => by cases z))
    refine Eq.trans h1 ?_
    rw [h2, h5]
end TH2
/-- what is said of the state behind a throw -/
def zTE {S : Type} (D : va_G) (A : Nat → Prop) (s : State) (xp : String → S → Prop) (w1 : S → va_W) (mc ms : Nat) (q : Nat) (t : State) : Prop :=
  ∃ (E : String) (ce : Cell) (u : S) (L : List Loc), xp E u ∧ va_P D vwCl (w1 u) t.heap ∧ va_D A (w1 u) ∧ va_F A s t ∧ t.heap[q]? = some ce ∧ ce.vm = .none ∧ s.vm.findClass E = some ce.cls ∧ s.WarmedH t.vm ∧ s.sameButNew ({ t with vm := s.vm } : State) L mc ms ∧ ∀ z ∈ L, A z.base
def zQT {S : Type} (below : List Frame) (D : va_G) (A : Nat → Prop) (s : State) (xp : String → S → Prop) (w1 : S → va_W) (mc ms : Nat) : State → Prop := fun t => ∃ q : Nat, t.status = .running ∧ Ended t below (.threw q) ∧ zTE D A s xp w1 mc ms q t
/-- a contract: it throws -/
def zMT {S : Type} (l : Launch) (y : MethodName) (ws : List Cond) (rm : Room) (D : va_G) (ad : Nat → Nat → Nat) (av : List Value) (wc : va_W) (tyc : List (ClassId × FieldType)) (sz : Nat) (xp : String → S → Prop) (w1 : S → va_W) (mc ms : Nat) : Prop :=
  Free.MetFree l y (headSpec ws rm) (zPc D ad av wc tyc sz) (fun _ _ _ _ _ => True) (fun _ st o t => ∃ q : Nat, o = .threw q ∧ zTE D (va_A wc sz) st xp w1 mc ms q t)
theorem zMT.ofW {S : Type} {l : Launch} {y : MethodName} {ws ws' : List Cond} {rm : Room} {D : va_G} {ad : Nat → Nat → Nat} {av : List Value} {wc : va_W} {tyc : List (ClassId × FieldType)} {sz : Nat} {xp : String → S → Prop} {w1 : S → va_W} {mc ms : Nat} {cc : ByteArray} {maxL : Nat} {ret : Option FieldType}
    (hy : plainName y.cls = true) (hw : ws = Cond.code y cc maxL ret :: ws')
    (body : ∀ p e s m args below meth c s₁, BodyLoose p l y (headSpec ws rm) cc maxL ret e s m args below meth c s₁ → c.maxLocals = maxL → (∀ (pc : Nat), ∀ x ∈ c.exceptionTable.toList, covers x pc = false) → zPc D ad av wc tyc sz args s →
      W p l e (headSpec ws rm).room s m args below meth c s.heap [] 0 0 (zQT below D (va_A wc sz) s xp w1 mc ms) (entryFrame m args maxL)) : zMT l y ws rm D ad av wc tyc sz xp w1 mc ms := by
  refine Free.MetFree.of_bodyS (code := cc) (maxLocals := maxL) (ret := ret) hy ?_ ?_
  · intro args s m h hn
    obtain ⟨meth, c, h1, h2, h3, h4, h5, h6, -, -⟩ := Cond.code_spec hn (atoms_spec (ws := ws) h _ (by rw [hw]; exact List.mem_cons_self))
    exact ⟨meth, c, h1, h2, h3, h4, h5, h6⟩
  · intro p e s m args below meth c s₁ B hml hP _
    have hh0 : s₁.heap = s.heap := by rw [B.state]; rfl
    have hcd : (Cond.code y cc maxL ret).before args s = true := atoms_spec (ws := ws) B.pre _ (by rw [hw]; exact List.mem_cons_self)
    obtain ⟨t, a1, q, b1, b2, b3⟩ := body p e s m args below meth c s₁ B hml (fun pc => covers_of_empty (B.noHandlers hcd) pc) hP s₁ hh0 (Stand.of_body B)
    exact ⟨t, .threw q, a1, b1, b2, q, rfl, b3⟩
section TH3
variable {p : Program} {l : Launch} {e : Env} {R : Room} {s : State} {m : MethodId} {args : Array Value} {below : List Frame} {meth : Method} {c : Code} {H : Heap} {locs : List Loc} {cells slots : Nat} {Q : State → Prop}
variable {cc : ByteArray} {pc : Nat} {ls : Array Slot} {rest st0 : List Value} {D : va_G} {ad : Nat → Nat → Nat} {A0 A : Nat → Prop} {tys tyc : List (ClassId × FieldType)} {ws wc : va_W} {mc ms : Nat} {S : Type}
/-- new, dup, ldc, <init>, athrow -/
theorem zt_W {xp : String → S → Prop} {w1 : S → va_W} {u : S} (hexec : p.tables.exec = Jvm.exec) (hb : c.code = cc) (htr : l.stackTraces = false) {own cls text : String} {names : List String} {ik is ic sa : Nat} (hown : s.vm.findClass own = some m.cls) (hcls : Bundle.fit cls = true) (hnames : ∀ n ∈ names, Bundle.fit n = true)
    (hw : ztOk (Bundle.ownAtoms own ic cls names)) (hts : ∀ w ∈ zT, w.before args s = true) (hE : zE ad A s)
    (hkl : (Cond.classLink own ik cls).before args s = true) (hin : (Cond.initialized cls).before args s = true) (hldc : vk_R own is text sa s) (hsz : ls.size = c.maxLocals)
    (d0 : decode cc pc = .ok (.new ik, 3)) (d3 : decode cc (pc + 3) = .ok (.dup, 1)) (d4 : decode cc (pc + 4) = .ok (.ldc is, 2)) (d6 : decode cc (pc + 6) = .ok (.invokespecial ic, 3)) (d9 : decode cc (pc + 9) = .ok (.athrow, 1))
    (hout : ∀ (k : Nat), ∀ x ∈ c.exceptionTable.toList, covers x k = false)
    (hc : cells + 1 ≤ R.cells) (hs : slots + 6 ≤ R.slots) (hRf : names.length + 3 < R.frames) (hRl : 13 * (names.length + 1) + 52 ≤ R.locals) (hlocks : meth.locks = false)
    (h : xp cls u) (hP : va_P D vwCl (w1 u) H) (hD : va_D A (w1 u)) (hS : va_S A s.heap H locs) :
    W p l e R s m args below meth c H locs cells slots (zQT below D A s xp w1 (cells + 1) (slots + 6)) (F0 m pc ls []) := by
  intro T hT X
  subst hT
  have hE' : zE ad A ((T.setVm s.vm).setFrames (.invoking m args :: below)) := hE.call hS (fun _ h => h) rfl (State.WarmedH.refl s)
  obtain ⟨U, h1, h2, h3, h4, h5, h6, h7, ce, h8, h9, h10⟩ := zt_throw X hexec hb htr hown hcls hnames (zt_atoms hw hts hE' rfl) hkl hin hldc hsz d0 d3 d4 d6 d9 (hout _) hc hs hRf hRl hlocks
  refine ⟨U, h1, T.heap.size, h2, h3, cls, ce, u, locs, h, ?_, hD, ⟨Nat.le_trans hS.1 h6, fun q g1 g2 => ?_⟩, h8, h9, h10, h4, h5, hS.2.2⟩
  · exact hP.kept (fun k q hk => h7 q.1 (hP k q hk).lt)
  · rw [h7 q (Nat.lt_of_lt_of_le g1 hS.1)]
    exact hS.2.1 q g1 g2
/-- a call of a method that throws -/
def zRT {S : Type} (p : Program) (l : Launch) (e : Env) (R : Room) (s : State) (m : MethodId) (args : Array Value) (below : List Frame) (meth : Method) (c : Code) (H : Heap) (locs : List Loc) (cells slots mc ms : Nat) (g : JFrame) (rest : List Value) (D : va_G) (wc : va_W) (xp : String → S → Prop) (w1 : S → va_W) : Prop :=
  ∀ T : State, T.heap = H → Stand p l e R s m args below meth c T locs cells slots → ∃ (T' : State) (q : Nat) (E : String) (ce : Cell) (u : S) (L : List Loc), Stand p l e R s m args below meth c T' (locs ++ L) (cells + mc) (slots + ms) ∧ Steps p.tables e below (T.setTop g) ((T'.setTop { g with stack := rest }).pushFrame (.throwing q)) ∧
    xp E u ∧ va_P D vwCl (w1 u) T'.heap ∧ va_D (va_A wc H.size) (w1 u) ∧ H.size ≤ T'.heap.size ∧ (∀ q : Nat, q < H.size → ¬ va_A wc H.size q → T'.heap[q]? = H[q]?) ∧ T'.heap[q]? = some ce ∧ ce.vm = .none ∧ s.vm.findClass E = some ce.cls ∧ ∀ z ∈ L, va_A wc H.size z.base
theorem zt_back {T : State} {y : MethodName} {bytes : ByteArray} {maxL n index : Nat} {ret : Option FieldType} {wy : List Cond} {rm : Room} {own : String} {av : List Value} {xp : String → S → Prop} {w1 : S → va_W} {mk : MethodId} {g : JFrame} {ig : Instr}
    (hM : zMT l y wy rm D ad av wc tyc T.heap.size xp w1 mc ms) (cw : CallB R s args own index y bytes maxL ret wy rm mc ms n) (X : Stand p l e R s m args below meth c T locs cells slots) (hPc : zPc D ad av wc tyc T.heap.size av.toArray T)
    (hg : g.method = m) (hsize : g.locals.size = c.maxLocals) (hdg : decode c.code g.pc = .ok (ig, 3)) (hW : 2 * g.monitorRoom + (g.stack.map fun v => v.category).sum ≤ 8) (hn : T.methodNamed? y = some mk) (hf : cells + mc ≤ R.cells ∧ slots + ms ≤ R.slots) :
    ∃ (T' : State) (q : Nat) (E : String) (ce : Cell) (u : S) (L : List Loc), Stand p l e R s m args below meth c T' (locs ++ L) (cells + mc) (slots + ms) ∧ Steps p.tables e below (doInvoke e (T.setTop g) [] mk av.toArray).1 ((T'.setTop g).pushFrame (.throwing q)) ∧
      xp E u ∧ va_P D vwCl (w1 u) T'.heap ∧ va_D (va_A wc T.heap.size) (w1 u) ∧ T.heap.size ≤ T'.heap.size ∧ (∀ q : Nat, q < T.heap.size → ¬ va_A wc T.heap.size q → T'.heap[q]? = T.heap[q]?) ∧ T'.heap[q]? = some ce ∧ ce.vm = .none ∧ T.vm.findClass E = some ce.cls ∧ ∀ z ∈ L, va_A wc T.heap.size z.base := by
  obtain ⟨hrc, hrs, hfr, hlo, hws, hcw, hcode, hini, hy, hlen, hl⟩ := cw
  have hcT : (Cond.code y bytes maxL ret).before av.toArray T = true := hws _ hcw _ _ X.warmed
  obtain ⟨methY, cY, hmY, hcY, -, hlY, -, -, -, -⟩ := Cond.code_spec hn hcT
  obtain ⟨kY, hkY, -⟩ := className_of_methodNamed hn
  have hiT : (Cond.initialized y.cls).before av.toArray T = true := word_at X.warmed (Or.inl (by first | rfl | simp [Cond.onTables, Cond.keeps, Cond.steady])) hini
  have hinitY : kY.init = .initialized := Cond.initialized_spec (findClass_of_methodNamed hn) hkY hiT
  have h : At T g.method c below := by rw [hg]; exact X.here
  have happ : (headSpec wy rm).appliesLoose y e.platform (T.calling g mk av.toArray) = true :=
    Spec.appliesLoose_calling (g := g) h hdg hn hkY hinitY
      (X.room_calling (g := g) (R' := (headSpec wy rm).room) hsize hmY hcY hfr (by rw [hlY]; show _ + _ + rm.locals ≤ R.locals; omega) (by show cells + rm.cells ≤ R.cells; rw [hrc]; exact hf.1) (by show slots + rm.slots ≤ R.slots; rw [hrs]; exact hf.2)) (atoms_intro fun w hw => hws w hw _ _ X.warmed)
  obtain ⟨mid, hmid⟩ := h.above
  have hfrm : (T.setTop g).frames = (.java g :: mid) ++ below := by rw [State.frames_setTop' g h.top, hmid]; rfl
  obtain ⟨o, s₂, hsteps, -, hend, q, hq, E, ce, u, L, g1, g2, g3, g4, g5, g6, g7, g8, g9, g10⟩ := Free.Steps.callFree hM p X.admits X.cas X.clock (acts := []) hfrm happ (zPc.blind _ _ g mk hPc) trivial
  subst hq
  rw [State.frames_setTop' g h.top] at hend
  have hend' : Ended s₂ (.java g :: below) (.threw q) := by rw [← X.tail]; exact hend
  obtain ⟨T', X', hW', hs', ht⟩ := X.outOfThrown hg hend' g8 g9
  have hh : s₂.heap = T'.heap := by rw [ht]; rfl
  rw [hh] at g2 g5
  refine ⟨T', q, E, ce, u, L, X', by rw [← ht]; exact hsteps, g1, g2, g3, ?_, ?_, g5, g6, g7, g10⟩
  · have := g4.1
    rw [hh] at this
    exact this
  · intro q h1 h2
    have := g4.2 q h1 h2
    rw [hh] at this
    exact this
end TH3
section TH4
variable {p : Program} {l : Launch} {e : Env} {R : Room} {s : State} {m : MethodId} {args : Array Value} {below : List Frame} {meth : Method} {c : Code} {H : Heap} {locs : List Loc} {cells slots : Nat} {Q : State → Prop}
variable {cc : ByteArray} {pc : Nat} {ls : Array Slot} {rest st0 : List Value} {D : va_G} {ad : Nat → Nat → Nat} {A0 A : Nat → Prop} {tys tyc : List (ClassId × FieldType)} {ws wc : va_W} {mc ms : Nat} {S : Type}
variable {y : MethodName} {bytes : ByteArray} {maxL nL n index : Nat} {ret : Option FieldType} {wy : List Cond} {rm : Room} {Ts : List Cond} {own C : String} {b : Addr} {As : List Value} {g : JFrame} {xp : String → S → Prop} {w1 : S → va_W}
theorem zt_runV (F : CallFix p m c cc nL s args Ts own) (hM : zMT l y wy rm D ad (.ref b :: As) wc tyc H.size xp w1 mc ms) (cw : CallW R s args own C index y bytes maxL ret wy rm mc ms n) (hp : PreV s H C b (zPc D ad (.ref b :: As) wc tyc H.size) As)
    (hg : g.method = m) (hn : As.length = n) (hsize : g.locals.size = nL) (hstack : g.stack = As.reverse ++ .ref b :: rest) (hW : 2 * g.monitorRoom + (rest.map fun v => v.category).sum ≤ 8) (hdg : decode cc g.pc = .ok (.invokevirtual index, 3)) (hf : cells + mc ≤ R.cells ∧ slots + ms ≤ R.slots) :
    zRT p l e R s m args below meth c H locs cells slots mc ms g rest D wc xp w1 := by
  have cb := cw.1
  obtain ⟨⟨-, -, -, -, -, -, hcode, -, hy, hlen, hlink⟩, hinst, hsel⟩ := cw
  obtain ⟨hx, hb, hml, ho, -⟩ := F
  obtain ⟨-, ⟨cellB, hcB, hoB, hclB⟩, hPc⟩ := hp
  intro T hT X
  subst hT
  obtain ⟨mk, methM, hnamed, hmethM, hstM, habM⟩ := Cond.instanceMethod_spec hinst
  obtain ⟨methM', cM, hmethM', -, -, -, -, -, -, hsigM⟩ := Cond.code_spec hnamed hcode
  cases hmethM.symm.trans hmethM'
  obtain ⟨c2, r2, m2, q1, q2, q3, q4, kP, hkP, hkPi⟩ := Cond.selects_spec hsel
  cases hclB.symm.trans q1
  cases (State.methodFound?_of_named hnamed hy).symm.trans q2
  cases hnamed.symm.trans q3
  have hselP : selectMethod e.platform s.vm cellB.cls mk = .method mk := by rw [Launch.admits_selectMethod X.admits]; exact q4
  obtain ⟨vm₁, X₁, hstep₁⟩ := X.invokevirtual hx ho hlink hnamed hmethM hstM hkP hkPi hy (a := b) (cell := cellB) hcB
    (fun z h => by rw [h] at hoB; cases hoB) hselP hmethM habM hkP hkPi (g := g) hg (argsL := As) (rest := rest) (hn.trans (hlen _ hsigM)) hstack (by rw [hb]; exact hdg)
  obtain ⟨T', q, E, ce, u, L, g1, g2, g3, g4, g5, g6, g7, g8, g9, g10, g11⟩ := zt_back (T := T.setVm vm₁) (g := { g with stack := rest }) hM cb X₁ (hPc (T.setVm vm₁) rfl X₁.warmed) hg (hsize.trans hml.symm) (by rw [hb]; exact hdg) hW (X₁.named hnamed) hf
  exact ⟨T', q, E, ce, u, L, g1, hstep₁ _ fun acts => by rw [doInvoke_state]; exact g2, g3, g4, g5, g6, g7, g8, g9, by rw [← X₁.warmed.alike.findClass]; exact g10, g11⟩
theorem zt_runS (F : CallFix p m c cc nL s args Ts own) (hM : zMT l y wy rm D ad As wc tyc H.size xp w1 mc ms) (cw : CallB R s args own index y bytes maxL ret wy rm mc ms n ∧ (Cond.static y).before args s = true) (hp : PreS s H (zPc D ad As wc tyc H.size) As)
    (hg : g.method = m) (hn : As.length = n) (hsize : g.locals.size = nL) (hstack : g.stack = As.reverse ++ rest) (hW : 2 * g.monitorRoom + (rest.map fun v => v.category).sum ≤ 8) (hdg : decode cc g.pc = .ok (.invokestatic index, 3)) (hf : cells + mc ≤ R.cells ∧ slots + ms ≤ R.slots) :
    zRT p l e R s m args below meth c H locs cells slots mc ms g rest D wc xp w1 := by
  have cb := cw.1
  obtain ⟨⟨-, -, -, -, -, -, hcode, hini, hy, hlen, hlink⟩, hstat⟩ := cw
  obtain ⟨hx, hb, hml, ho, -⟩ := F
  obtain ⟨-, hPc⟩ := hp
  intro T hT X
  subst hT
  obtain ⟨mk, hnamed⟩ := Cond.code_named hcode
  obtain ⟨methM, cM, hmethM, -, -, -, -, -, -, hsigM⟩ := Cond.code_spec hnamed hcode
  have hstatic : methM.isStatic = true := Cond.static_spec hnamed hmethM hstat
  obtain ⟨kP, hkP, -⟩ := className_of_methodNamed hnamed
  have hinitP : kP.init = .initialized := Cond.initialized_spec (findClass_of_methodNamed hnamed) hkP hini
  obtain ⟨vm₁, X₁, hstep₁⟩ := X.invokestatic hx ho hlink hnamed hmethM hstatic hkP hinitP hy (g := g) hg (argsL := As) (rest := rest) (hn.trans (hlen _ hsigM)) hstack (by rw [hb]; exact hdg)
  obtain ⟨T', q, E, ce, u, L, g1, g2, g3, g4, g5, g6, g7, g8, g9, g10, g11⟩ := zt_back (T := T.setVm vm₁) (g := { g with stack := rest }) hM cb X₁ (hPc (T.setVm vm₁) rfl X₁.warmed) hg (hsize.trans hml.symm) (by rw [hb]; exact hdg) hW (X₁.named hnamed) hf
  exact ⟨T', q, E, ce, u, L, g1, hstep₁ _ fun acts => by rw [doInvoke_state]; exact g2, g3, g4, g5, g6, g7, g8, g9, by rw [← X₁.warmed.alike.findClass]; exact g10, g11⟩
/-- the callee's throw leaves this method too -/
theorem zt_out {S2 : Type} {xq : String → S2 → Prop} {w2 : S2 → va_W} (hP : va_P D vwCl ws H) (hD : va_D A0 ws) (hS : va_S A0 s.heap H locs) (hA : ∀ q : Nat, s.heap.size ≤ q → A0 q) (isC isR : List Nat) (hr : zRT p l e R s m args below meth c H locs cells slots mc ms (F0 m pc ls st0) rest D wc xp w1)
    (hC : isC.map (fun i => ws[i]?) = wc.map some) (hR : isR.map (fun i => ws[i]?) = (isR.filterMap (fun i => ws[i]?)).map some) (hn : va_nd isR = true) (hdis : ∀ i ∈ isR, i ∉ isC) (hout : ∀ (k : Nat), ∀ x ∈ c.exceptionTable.toList, covers x k = false) (hlocks : meth.locks = false)
    (kk : ∀ (E : String) (u : S) (H1 : Heap), xp E u → va_P D vwCl (isR.filterMap (fun i => ws[i]?) ++ w1 u) H1 → va_D A0 (isR.filterMap (fun i => ws[i]?) ++ w1 u) → ∃ u2 : S2, xq E u2 ∧ va_P D vwCl (w2 u2) H1 ∧ va_D A0 (w2 u2)) : W p l e R s m args below meth c H locs cells slots (zQT below D A0 s xq w2 (cells + mc) (slots + ms)) (F0 m pc ls st0) := by
  have hF := va_free hD hS hA isC hC
  intro T hT X
  obtain ⟨T', q, E, ce, u, L, X', st, g3, g4, g5, g6, g7, g8, g9, g10, g11⟩ := hr T hT X
  obtain ⟨hP2, hD2⟩ := va_join hP hD isC isR hC hR hn hdis g7 hF g4 g5
  obtain ⟨u2, k1, k2, k3⟩ := kk E u T'.heap g3 hP2 hD2
  obtain ⟨l1, l2, l3, l4, l5⟩ := X'.leaveThrown q (g := F0 m pc ls rest) rfl rfl rfl (hout _) hlocks
  refine ⟨_, st.trans l1, q, l2, l3, E, ce, u2, locs ++ L, k1, k2, k3, ⟨Nat.le_trans hS.1 g6, fun q h1 h2 => ?_⟩, g8, g9, g10, l4, l5, fun z hz => ?_⟩
  · show T'.heap[q]? = _
    rw [g7 q (Nat.lt_of_lt_of_le h1 hS.1) (fun z => h2 (hF q z))]
    exact hS.2.1 q h1 h2
  · rcases List.mem_append.mp hz with h | h
    · exact hS.2.2 z h
    · exact hF _ (g11 z h)
/-- the callee's throw is caught here: the rows that the search passes, and the one that catches -/
def zPass (own : String) (E : String) (args : Array Value) (s : State) (pc : Nat) (x : ExceptionTableEntry) : Prop := x.catchType ≠ 0 ∧ ∃ name : String, (Cond.classLink own x.catchType name).before args s = true ∧ va_Nc E name s
theorem zt_catch (hown : s.vm.findClass own = some m.cls) (hP : va_P D vwCl ws H) (hD : va_D A0 ws) (hS : va_S A0 s.heap H locs) (hA : ∀ q : Nat, s.heap.size ≤ q → A0 q) (isC isR : List Nat) (hr : zRT p l e R s m args below meth c H locs cells slots mc ms (F0 m pc ls st0) rest D wc xp w1)
    (hC : isC.map (fun i => ws[i]?) = wc.map some) (hR : isR.map (fun i => ws[i]?) = (isR.filterMap (fun i => ws[i]?)).map some) (hn : va_nd isR = true) (hdis : ∀ i ∈ isR, i ∉ isC)
    (kk : ∀ (E : String) (q : Nat) (u : S) (H1 : Heap) (locs1 : List Loc), xp E u → va_P D vwCl (isR.filterMap (fun i => ws[i]?) ++ w1 u) H1 → va_D A0 (isR.filterMap (fun i => ws[i]?) ++ w1 u) → va_S A0 s.heap H1 locs1 →
      ∃ (pre : List ExceptionTableEntry) (x : ExceptionTableEntry) (post : List ExceptionTableEntry), c.exceptionTable.toList = pre ++ x :: post ∧ (∀ y ∈ pre, zPass own E args s pc y) ∧ covers x pc = true ∧ x.catchType ≠ 0 ∧ (Cond.classLink own x.catchType E).before args s = true ∧
        W p l e R s m args below meth c H1 locs1 (cells + mc) (slots + ms) Q (F0 m x.handlerPc ls [.ref q])) : W p l e R s m args below meth c H locs cells slots Q (F0 m pc ls st0) := by
  have hF := va_free hD hS hA isC hC
  intro T hT X
  have hpl : e.platform.magicAccessors = ({} : Platform).magicAccessors := by rw [X.admits.platform]
  obtain ⟨T', q, E, ce, u, L, X', st, g3, g4, g5, g6, g7, g8, g9, g10, g11⟩ := hr T hT X
  obtain ⟨hP2, hD2⟩ := va_join hP hD isC isR hC hR hn hdis g7 hF g4 g5
  have hS2 : va_S A0 s.heap T'.heap (locs ++ L) := by
    refine ⟨Nat.le_trans hS.1 g6, fun q h1 h2 => ?_, fun z hz => ?_⟩
    · rw [g7 q (Nat.lt_of_lt_of_le h1 hS.1) (fun z => h2 (hF q z))]
      exact hS.2.1 q h1 h2
    · rcases List.mem_append.mp hz with h | h
      · exact hS.2.2 z h
      · exact hF _ (g11 z h)
  obtain ⟨pre, x, post, k1, k2, k3, k4, k5, k7⟩ := kk E q u T'.heap (locs ++ L) g3 hP2 hD2 hS2
  obtain ⟨hend, hk0⟩ := X'.catches_of_link hown k4 k5 g10 (va_asg _ _)
  obtain ⟨vm', XV, stV⟩ := X'.thenCaughtThrough q (g := F0 m pc ls rest) rfl st g8 (by rw [g9]; rfl) hk0 pre x post k1 (fun y hy => by
    obtain ⟨z0, nm, z1, z2, z3, z4, z5, z6⟩ := k2 y hy
    obtain ⟨c', hc', hcl⟩ := Cond.classLink_spec hown z1 e.platform hpl
    cases g10.symm.trans z4
    cases hc'.symm.trans z5
    exact Or.inr ⟨z0, _, hcl, z6⟩) k3 hend
  obtain ⟨t, a1, b1⟩ := k7 (T'.setVm vm') rfl XV
  exact ⟨t, stV.trans a1, b1⟩
end TH4
theorem zt_table {p : Program} {l : Launch} {y : MethodName} {S : Spec} {cc : ByteArray} {maxL : Nat} {ret : Option FieldType} {e : Env} {s : State} {m : MethodId} {args : Array Value} {below : List Frame} {meth : Method} {c : Code} {s₁ : State} {hh : List (Nat × Nat × Nat × Nat)}
    (B : BodyLoose p l y S cc maxL ret e s m args below meth c s₁) (h : (Cond.codeWith y cc maxL ret hh).before args s = true) : c.exceptionTable.toList = tableOf hh := by
  obtain ⟨m', meth', c', hn', hm', hc', -, -, ht, -⟩ := Cond.codeWith_spec h
  cases B.named.symm.trans hn'
  cases B.method.symm.trans hm'
  cases (Stand.of_body B).code.symm.trans hc'
  rw [← ht]
  exact (table_eq _).symm
section TH5
variable {p : Program} {l : Launch} {e : Env} {R : Room} {s : State} {m : MethodId} {args : Array Value} {below : List Frame} {meth : Method} {c : Code} {H : Heap} {locs : List Loc} {cells slots : Nat} {Q : State → Prop}
variable {y : MethodName} {bytes cc : ByteArray} {maxL nL mc ms n index : Nat} {ret : Option FieldType} {ws ws' : List Cond} {rm : Room} {Pc : Array Value → State → Prop} {Qc : Array Value → State → Outcome → State → Prop} {free : Addr → Prop} {Ts : List Cond} {own C : String} {b : Addr} {As rest : List Value} {g : JFrame} {hh : List (Nat × Nat × Nat × Nat)}
def zCBW (R : Room) (s : State) (args : Array Value) (own : String) (index : Nat) (y : MethodName) (bytes : ByteArray) (maxL : Nat) (ret : Option FieldType) (hh : List (Nat × Nat × Nat × Nat)) (ws : List Cond) (rm : Room) (mc ms n : Nat) : Prop :=
  rm.cells = mc ∧ rm.slots = ms ∧ rm.frames + 1 ≤ R.frames ∧ 8 + (maxL + 11) + rm.locals ≤ R.locals ∧ (∀ w ∈ ws, ∀ (a' : Array Value) (U : State), s.WarmedH U.vm → w.before a' U = true) ∧ Cond.codeWith y bytes maxL ret hh ∈ ws ∧
  (Cond.codeWith y bytes maxL ret hh).before args s = true ∧ (Cond.initialized y.cls).before args s = true ∧ (y.cls ≠ "java/lang/invoke/MethodHandle" ∧ y.cls ≠ "java/lang/invoke/VarHandle") ∧ (∀ sig, parseMethodDescriptor y.desc = some sig → n = sig.parameters.length) ∧ (Cond.methodLink own index y).before args s = true
theorem zt_callBW (n : Nat) (ht : ∀ w ∈ Ts, w.before args s = true) (hG : GoodIn Ts ws) (hw : ws = Cond.codeWith y bytes maxL ret hh :: ws') (hrc : rm.cells = mc) (hrs : rm.slots = ms) (hini : (Cond.initialized y.cls).before args s = true) (hl : (Cond.methodLink own index y).before args s = true)
    (hd : y.cls ≠ "java/lang/invoke/MethodHandle" ∧ y.cls ≠ "java/lang/invoke/VarHandle" ∧ (parseMethodDescriptor y.desc).map (fun d => d.parameters.length) = some n) (hR : rm.frames + 1 ≤ R.frames ∧ 8 + (maxL + 11) + rm.locals ≤ R.locals) :
    zCBW R s args own index y bytes maxL ret hh ws rm mc ms n := by
  have hc : Cond.codeWith y bytes maxL ret hh ∈ ws := by rw [hw]; exact List.mem_cons_self
  refine ⟨hrc, hrs, hR.1, hR.2, pay_in ht hG, hc, ht _ (hG _ hc).1, hini, ⟨hd.1, hd.2.1⟩, fun sig h => ?_, hl⟩
  have h2 := hd.2.2
  rw [h] at h2
  exact (Option.some.inj h2).symm
theorem zt_runSW (F : CallFix p m c cc nL s args Ts own) (hM : Met l y ws rm Pc Qc mc ms free) (cw : zCBW R s args own index y bytes maxL ret hh ws rm mc ms n ∧ (Cond.static y).before args s = true) (hp : PreS s H Pc As)
    (hg : g.method = m) (hn : As.length = n) (hsize : g.locals.size = nL) (hstack : g.stack = As.reverse ++ rest) (hW : 2 * g.monitorRoom + (rest.map fun v => v.category).sum ≤ 8) (hdg : decode cc g.pc = .ok (.invokestatic index, 3)) (hf : cells + mc ≤ R.cells ∧ slots + ms ≤ R.slots) :
    va_Run p l e R s m args below meth c H locs cells slots mc ms g rest (Qc As.toArray) (free) := by
  obtain ⟨⟨hrc, hrs, hfr, hlo, hws, hcw, hcode, hini, hy, hlen, hlink⟩, hstat⟩ := cw
  have hK : Free.Back l R p e below s args y 3 8 (PreOf R mc ms Pc) (PostOf Qc mc ms free) :=
    va_backW hM hp.1 hrc hrs hfr hlo hws hcw (fun a' U hW => word_at hW (Or.inl (by first | rfl | simp [Cond.onTables, Cond.keeps, Cond.steady])) hini)
  obtain ⟨hx, hb, hml, ho, -⟩ := F
  obtain ⟨-, hPc⟩ := hp
  intro T hT X
  subst hT
  obtain ⟨mk, methM, cM, hnamed, hmethM, -, -, -, -, -, -, hsigM⟩ := Cond.codeWith_spec hcode
  have hstatic : methM.isStatic = true := Cond.static_spec hnamed hmethM hstat
  obtain ⟨kP, hkP, -⟩ := className_of_methodNamed hnamed
  have hinitP : kP.init = .initialized := Cond.initialized_spec (findClass_of_methodNamed hnamed) hkP hini
  obtain ⟨vm₁, X₁, hstep₁⟩ := X.invokestatic hx ho hlink hnamed hmethM hstatic hkP hinitP hy (g := g) hg (argsL := As) (rest := rest) (hn.trans (hlen _ hsigM)) hstack (by rw [hb]; exact hdg)
  obtain ⟨v, ⟨U', l2, c2, s2⟩, X', ⟨g', mk', t, L, e1, e2, hq, h1, hL, h2, h3⟩, hsteps⟩ := hK m meth c ⟨T.setVm vm₁, locs, cells, slots⟩ { g with stack := rest } (.invokestatic index) mk As.toArray X₁ hg (hsize.trans hml.symm) (by rw [hb]; exact hdg) hW (X₁.named hnamed) ⟨hf.1, hf.2, hPc (T.setVm vm₁) rfl X₁.warmed⟩
  dsimp only [Free.Pt.U, Free.Pt.locs, Free.Pt.cells, Free.Pt.slots] at X' e1 e2 h1 h2 h3 hsteps
  subst h1; subst h2; subst h3
  exact ⟨v, (T.setVm vm₁).calling g' mk' As.toArray, t, U', L, rfl, X', hL, e1, e2, hq, fun target h => hstep₁ _ fun acts => by rw [doInvoke_state]; exact hsteps.trans h⟩
end TH5
