/-! throwing NoSuchElementException: its constructor calls its parent's by another index than the other exceptions do -/
section NSE
variable {p : Program} {l : Launch} {e : Env} {R : Room} {s : State} {m₀ : MethodId} {args : Array Value} {below : List Frame} {meth : Method} {c : Code} {W : State} {locs : List Loc} {cells slots : Nat}
set_option maxHeartbeats 1000000 in
theorem nt_ctor (X : Stand p l e R s m₀ args below meth c W locs cells slots) (hexec : p.tables.exec = Jvm.exec) (htr : e.platform.stackTraces = false) {own cls : String} {names : List String} {ic ix : Nat} {rx : ByteArray}
    (hx : decode rx 0 = .ok (.aload_n 0, 1) ∧ decode rx 1 = .ok (.aload_n 1, 1) ∧ decode rx 2 = .ok (.invokespecial ix, 3) ∧ decode rx 5 = .ok (.return_, 1))
    (hown : s.vm.findClass own = some m₀.cls) (hcls : Bundle.fit cls = true) (hnames : ∀ n ∈ names, Bundle.fit n = true) (h : ∀ w ∈ Bundle.ownAtomsX own ic cls ix rx names, w.before args s = true)
    (hlocs : ∀ x ∈ locs, ∀ cell, s.heap[x.base]? = some cell → cell.vm.isStatics = false)
    {a : Addr} {cX : ClassId} {kX : Class} (hfX : s.vm.findClass cls = some cX) (hkX : s.vm.classes[cX]? = some kX) (hcell : W.heap[a]? = some (freshCell cX kX)) (hnew : s.heap.size ≤ a)
    {msg : Value} (hmsg : msg.isRef = true) {g : JFrame} (hg : g.method = m₀) (hsize : g.locals.size = c.maxLocals) (hlk : g.locked = none) (hen : g.entered = []) {rest : List Value} (hst : g.stack = msg :: .ref a :: .ref a :: rest)
    (hd6 : decode c.code g.pc = .ok (.invokespecial ic, 3)) (hd9 : decode c.code (g.pc + 3) = .ok (.athrow, 1)) (hout : ∀ x ∈ c.exceptionTable.toList, covers x (g.pc + 3) = false)
    (hR1 : names.length + 3 < R.frames) (hR2 : 2 * g.monitorRoom + ((Value.ref a :: rest).map fun v => v.category).sum + (13 * (names.length + 1) + 42) ≤ R.locals) (hlocks : meth.locks = false) :
    ∃ U : State, Steps p.tables e below (W.setTop g) U ∧ U.status = .running ∧ Ended U below (.threw a) ∧ s.WarmedH U.vm ∧ s.sameButNew ({ U with vm := s.vm } : State) locs cells slots ∧
      ∃ ce, U.heap[a]? = some ce ∧ s.vm.findClass cls = some ce.cls ∧ ce.vm = .none := by
  have hP := X.admits.platform
  have o1 : e.platform.frameOwnsMonitors = true := by rw [hP]
  have o2 : e.platform.finalization = false := by rw [hP]
  have o3 : e.platform.magicAccessors = ({} : Platform).magicAccessors := by rw [hP]
  -- the words, group by group
  have wd : ∀ w, w ∈ Bundle.ownAtomsX own ic cls ix rx names → w.holds args s none s [] = true := fun w hw => h w hw
  have ch : ∀ w ∈ Bundle.chainSAtomsX cls ix rx names, w.before args s = true := fun w hw => h w (List.mem_append_left _ (List.mem_append_right _ hw))
  have wi : (Cond.instanceMethod (Bundle.initS cls)).before args s = true := ch _ (by cases names <;> simp [Bundle.chainSAtomsX, Bundle.passSAtoms])
  have wc : (Cond.code (Bundle.initS cls) rx 2 none).before args s = true := ch _ (by cases names <;> simp [Bundle.chainSAtomsX, Bundle.passSAtoms])
  obtain ⟨T, Z0, L, -, Y⟩ := ThrowableC.of_atoms (args := args) o1 o2 o3 (fun w hw => h w (List.mem_append_left _ (List.mem_append_left _ (List.mem_append_left _ hw))))
  obtain ⟨Z, M, LZ, LM, hnZ⟩ := Init0T.ofS_atoms (args := args) o3 L Y (fun w hw => h w (List.mem_append_left _ (List.mem_append_left _ (List.mem_append_right _ hw))))
  obtain ⟨P1, Ps, hlen, L1, hL, hm1, hk1, hk2⟩ := Bundle.chainSX (args := args) o3 hnZ hx.1 hx.2.1 hx.2.2.1 hx.2.2.2 names cls hcls hnames ch
  have hf1 : s.vm.findClass cls = some P1.m.cls := findClass_of_methodNamed hm1
  obtain rfl : cX = P1.m.cls := Option.some.inj (hfX.symm.trans hf1)
  obtain ⟨c1, k1, i1, i2, hord, -, -, h6⟩ := Cond.instantiable_spec (wd (.instantiable cls 6) (by simp [Bundle.ownAtomsX]))
  obtain rfl : c1 = P1.m.cls := Option.some.inj (i1.symm.trans hf1)
  obtain rfl : kX = k1 := Option.some.inj (hkX.symm.trans i2)
  -- which methods are taken
  have sel : ∀ (y : MethodName) (k : MethodId), Cond.selects cls y y ∈ Bundle.ownAtomsX own ic cls ix rx names → s.methodNamed? y = some k → (y.cls ≠ "java/lang/invoke/MethodHandle" ∧ y.cls ≠ "java/lang/invoke/VarHandle") → selectMethod e.platform s.vm P1.m.cls k = .method k := fun y k hy hk hn => by
    obtain ⟨c2, r2, m2, q1, q2, q3, q4, -⟩ := Cond.selects_spec (wd _ hy)
    obtain rfl : c2 = P1.m.cls := Option.some.inj (q1.symm.trans hf1)
    obtain rfl : m2 = k := Option.some.inj (q3.symm.trans hk)
    obtain rfl : r2 = m2 := Option.some.inj (q2.symm.trans (State.methodFound?_of_named hk hn))
    rw [Launch.admits_selectMethod X.admits]
    exact q4
  have s0 := sel _ _ (by simp [Bundle.ownAtomsX]) Y.fill0 (by decide)
  have s1 := sel _ _ (by simp [Bundle.ownAtomsX]) Y.fill (by decide)
  -- the statics cell of Throwable
  obtain ⟨cS0, e0, e1⟩ := Y.statics
  obtain ⟨u0, hu0⟩ := Cond.staticRefV Y.unassigned L.unassignedStatic L.statics e0 e1 (wd (.isRef (.static Bundle.tN "UNASSIGNED_STACK" Bundle.steD)) (by simp [Bundle.ownAtomsX]))
  obtain ⟨sen, hsen⟩ := Cond.staticRefV Y.sentinel L.sentinelStatic L.statics e0 e1 (wd (.isRef (.static Bundle.tN "SUPPRESSED_SENTINEL" Bundle.listD)) (by simp [Bundle.ownAtomsX]))
  obtain ⟨cS, e2, e3, -, hkeep⟩ := X.same.2.2.2.2.2 T.aS cS0 e0
  have e4 : W.heap[T.aS]? = some cS := e2
  have off : ∀ i, (⟨T.aS, i⟩ : Loc) ∉ locs := fun i hm => by
    have := hlocs _ hm cS0 e0
    rw [e1] at this; cases this
  have nS : T.aS ≠ a := Nat.ne_of_lt (Nat.lt_of_lt_of_le (Array.getElem?_eq_some_iff.mp e0).1 hnew)
  have kS : cS.vm ≠ .unknown := by
    rw [e3]; intro hu
    rw [show cS0.vm = .unknown from hu] at e1
    cases e1
  -- where the fields lie
  obtain ⟨ciB, iB, fB, b1, b2, b3, b4, -, b5, b6, b7⟩ := Cond.ownField (t := .object "java/lang/Object") Y.found L.cls (by decide +kernel) (wd (.fieldLink Bundle.tN 198 Bundle.tN "backtrace" "Ljava/lang/Object;") (by simp [Bundle.ownAtomsX])) (wd (.lays Bundle.tN Bundle.tN "backtrace" "Ljava/lang/Object;") (by simp [Bundle.ownAtomsX])) e.platform o3
  obtain ⟨iM, fM⟩ := Y.msg
  obtain ⟨tC, dC, gC, nC⟩ := Cond.laysAt hf1 i2 Y.cause (wd (.lays cls Bundle.tN "cause" "Ljava/lang/Throwable;") (by simp [Bundle.ownAtomsX]))
  obtain ⟨tS, dS, gS, n2⟩ := Cond.laysAt hf1 i2 Y.stack (wd (.lays cls Bundle.tN "stackTrace" Bundle.steD) (by simp [Bundle.ownAtomsX]))
  obtain ⟨tP, dP, gP, nP⟩ := Cond.laysAt hf1 i2 Y.supp (wd (.lays cls Bundle.tN "suppressedExceptions" Bundle.listD) (by simp [Bundle.ownAtomsX]))
  obtain ⟨tM, dM, gM, nM⟩ := Cond.laysAt hf1 i2 fM (wd (.lays cls Bundle.tN "detailMessage" "Ljava/lang/String;") (by simp [Bundle.ownAtomsX]))
  obtain ⟨tB, dB, gB, nB⟩ := Cond.laysAt hf1 i2 b7 (wd (.lays cls Bundle.tN "backtrace" "Ljava/lang/Object;") (by simp [Bundle.ownAtomsX]))
  have a1 := Cond.laysApart gB gC nB nC (by rw [b5, Y.causeName]; decide)
  have a2 := Cond.laysApart gB gS nB n2 (by rw [b5, Y.stackName]; decide)
  have a3 := Cond.laysApart gB gP nB nP (by rw [b5, Y.suppName]; decide)
  have hsk : SkipFacts T e.platform s (fun u => u) u0 ((preparedCellV T.toThrowableT (freshCell P1.m.cls kX) a u0 sen).withEntry W.cur) := by
    refine ⟨{ ci198 := ciB, i198 := iB, fBack := fB }, ⟨b1, b2, b3, b4⟩, ?_, fun _ _ => rfl⟩
    have := fresh_default (c := P1.m.cls) tB
    rw [b6] at this
    simpa [preparedCellV, Cell.setSlot, Cell.withEntry, Array.getElem?_setIfInBounds, a1, a2, a3, a1.symm, a2.symm, a3.symm, defaultValue] using this
  -- the constructor's call, then the throw
  obtain ⟨tm, -, -, -, vm1, hn1, -, -, -, -, -, -, -, hW1, st1⟩ := Steps.initColdS (tb := p.tables) (e := e) (below := below) (s := s) (U := W) X.here hexec X.warmed o3 hown (t := Bundle.initS cls) rfl rfl (Bundle.fit_spec hcls).2
    (wd (.methodLink own ic (Bundle.initS cls)) (by simp [Bundle.ownAtomsX])) wi (bytes := rx) (maxL := 2) wc (f := g) hg (a := a) (msg := msg) (rest := .ref a :: rest) hst hd6
  obtain rfl : tm = P1.m := Option.some.inj (hn1.symm.trans hm1)
  have X1 := X.noted hW1
  obtain ⟨vm2, X2, st2⟩ := X1.ctorMessageOffV hexec (g := { g with stack := .ref a :: rest }) hg hsize T L Z LZ M LM (P1 :: Ps)
    (fun P hP => (List.mem_cons.mp hP).elim (fun z => z ▸ L1) (hL P)) ⟨hk1, hk2⟩ (u0 := u0) (sen := sen) (self := a) hmsg (cell := freshCell P1.m.cls kX) (cellS := cS)
    hcell (fun _ => by simp) (by simp) rfl rfl s0 s1 e4 nS kS (by rw [hkeep _ (off _)]; exact hu0) (by rw [hkeep _ (off _)]; exact hsen)
    (Takes.of_laid i2 hord tC (by rw [Y.causeType]; rfl)) (Takes.of_laid i2 hord tS (by rw [Y.stackType]; exact fits_refV_array _ u0)) (Takes.of_laid i2 hord tP (by rw [Y.suppType]; exact fits_refV_object _ sen))
    (Takes.of_laid i2 hord tM (by rw [Y.msgType]; exact fits_refV_object _ ⟨msg, hmsg⟩)) Y.objLocals hsk htr [] hd6
    (by simp only [List.length_cons, hlen]; omega) (by simp only [List.length_cons, hlen]; exact hR2)
  obtain ⟨w1, w2, w3, w4, w5⟩ := X2.athrowLeaves hexec (g := { g with stack := .ref a :: rest, pc := g.pc + 3 }) hg hlk hen hout (a := a) (rest := rest) rfl hd9
  have lt : a < ((W.setVm vm1).setVm vm2).heap.size := (Array.getElem?_eq_some_iff.mp hcell).1
  refine ⟨_, st1 _ (fun acts => ?_), w2, w3, w4, w5.weaken (fun y hy hlt => ?_) (Nat.le_refl _) (Nat.le_refl _), _, heapAt_setCell_self (s := (W.setVm vm1).setVm vm2) (plainBareV T.toThrowableT (freshCell P1.m.cls kX) a u0 sen msg) lt, hf1, rfl⟩
  · rw [doInvoke_state]
    exact st2 _ w1
  · rcases List.mem_append.mp hy with h1 | h1
    · exact h1
    · have hb : y.base = a := by
        simp only [List.mem_cons, List.not_mem_nil, or_false] at h1
        rcases h1 with rfl | rfl | rfl | rfl | rfl <;> rfl
      rw [hb] at hlt
      exact absurd hlt (Nat.not_lt.mpr hnew)
end NSE
section NSE2
variable {p : Program} {l : Launch} {e : Env} {R : Room} {s : State} {m : MethodId} {args : Array Value} {below : List Frame} {meth : Method} {c : Code} {H : Heap} {locs : List Loc} {cells slots : Nat} {Qc : Array Value → State → Outcome → State → Prop} {XC : String → State → State → Prop} {free : Addr → Prop} {ls : Array Slot} {rest : List Value}
def nt_at (own : String) (ic : Nat) (X : String) (ix : Nat) (rx : ByteArray) (names : List String) : List Cond := (Bundle.ownAtomsX own ic X ix rx names).filter vx_no
set_option maxHeartbeats 1000000 in
theorem nt_throw {cc : ByteArray} {pc : Nat} (hexec : p.tables.exec = Jvm.exec) (hb : c.code = cc) (hl : l.stackTraces = false) {own cls text : String} {names : List String} {ik is ic mc ms sa ix : Nat} {rx : ByteArray} {A : Nat → Prop}
    (hx9 : decode rx 0 = .ok (.aload_n 0, 1) ∧ decode rx 1 = .ok (.aload_n 1, 1) ∧ decode rx 2 = .ok (.invokespecial ix, 3) ∧ decode rx 5 = .ok (.return_, 1))
    (hown : s.vm.findClass own = some m.cls) (hcls : Bundle.fit cls = true) (hnames : ∀ n ∈ names, Bundle.fit n = true)
    (hstr : vk_R own is text sa s) (hat : ∀ w ∈ Cond.classLink own ik cls :: Cond.initialized cls :: nt_at own ic cls ix rx names, w.before args s = true)
    (hgood : ∀ w ∈ Cond.classLink own ik cls :: Cond.initialized cls :: nt_at own ic cls ix rx names, vx_ot w = true)
    (hU : vx_Zq Bundle.tN "UNASSIGNED_STACK" Bundle.steD A s s.heap) (hN : vx_Zq Bundle.tN "SUPPRESSED_SENTINEL" Bundle.listD A s s.heap) (hS : va_S A s.heap H locs) (hsize : ls.size = c.maxLocals)
    (d0 : decode cc pc = .ok (.new ik, 3)) (d3 : decode cc (pc + 3) = .ok (.dup, 1)) (d4 : decode cc (pc + 4) = .ok (.ldc is, 2)) (d6 : decode cc (pc + 6) = .ok (.invokespecial ic, 3)) (d9 : decode cc (pc + 9) = .ok (.athrow, 1))
    (hout : ∀ x ∈ c.exceptionTable.toList, covers x (pc + 9) = false)
    (hR1 : names.length + 3 < R.frames) (hR2 : (rest.map fun v => v.category).sum + (13 * (names.length + 1) + 43) ≤ R.locals) (hR3 : cells + 1 ≤ R.cells) (hR4 : slots + 6 ≤ R.slots) (hlocks : meth.locks = false)
    (hx : ∀ t : State, s.vm.Alike t.vm → H.size ≤ t.heap.size → (∀ q : Nat, q < H.size → t.heap[q]? = H[q]?) → XC cls s t)
    (hf : ∀ z ∈ locs, free z.base) (hc : cells + 1 ≤ mc) (hs : slots + 6 ≤ ms) :
    W p l e R s m args below meth c H locs cells slots (vx_MQ below Qc XC args s mc ms free) (F0 m pc ls rest) := by
  intro T hT X
  have htr : e.platform.stackTraces = false := (show e.platform.stackTraces = l.stackTraces by rw [X.admits.platform]).trans hl
  have Y := vx_rebase X (R' := { frames := R.frames, locals := R.locals, cells := 1, slots := 6 }) (Nat.le_refl _) (Nat.le_refl _) hR3 hR4
  obtain ⟨s', hA⟩ : ∃ z, z = (T.setVm s.vm).setFrames (.invoking m args :: below) := ⟨_, rfl⟩
  rw [← hA] at Y
  have hvm : s'.vm = s.vm := by rw [hA]; rfl
  have hhp : s'.heap = H := by rw [hA]; exact hT
  have hW0 : s.WarmedH s'.vm := by rw [hvm]; exact State.WarmedH.refl s
  have all : ∀ w ∈ Cond.classLink own ik cls :: Cond.initialized cls :: nt_at own ic cls ix rx names, w.before args s' = true := fun w hw => vx_ot_at hW0 hvm.symm (hgood w hw) (hat w hw)
  have hU' : vx_Zq Bundle.tN "UNASSIGNED_STACK" Bundle.steD A s' s'.heap := by rw [hhp]; exact vx_Zq.moved hW0.alike (hU.kept hS.2.1)
  have hN' : vx_Zq Bundle.tN "SUPPRESSED_SENTINEL" Bundle.listD A s' s'.heap := by rw [hhp]; exact vx_Zq.moved hW0.alike (hN.kept hS.2.1)
  have h : ∀ w ∈ Bundle.ownAtomsX own ic cls ix rx names, w.before args s' = true := vx_own (fun w hw => all w (List.mem_cons_of_mem _ (List.mem_cons_of_mem _ hw))) (vx_isRefq hU'.1) (vx_isRefq hN'.1) hU'.2.word hN'.2.word
  have hown' : s'.vm.findClass own = some m.cls := by rw [hvm]; exact hown
  obtain ⟨vm1, cX, kX, hfX, hkX, -, -, X1, st1⟩ := Y.newCold hexec (own := own) (C := cls) (index := ik) (n := 6) hown' (all _ List.mem_cons_self) (h _ (by simp [Bundle.ownAtomsX])) (all _ (List.mem_cons_of_mem _ List.mem_cons_self))
    (g := F0 m pc ls rest) rfl (by rw [hb]; exact d0) (Nat.le_refl _) (Nat.le_refl _)
  generalize hT1 : (T.setVm vm1).pushCell { cls := cX, slots := kX.instanceTypes.map defaultValue, vm := .none } = T1 at X1 st1
  have hcat : (Value.ref T.heap.size).category = 1 := rfl
  have hcA : T1.heap[T.heap.size]? = some (freshCell cX kX) := by rw [← hT1]; exact State.heap_pushCell_size _ _
  have d3' : decode c.code (pc + 3) = .ok (.dup, 1) := by rw [hb]; exact d3
  have d4' : decode c.code (pc + 4) = .ok (.ldc is, 2) := by rw [hb]; exact d4
  have hstr' : vk_R own is text sa s' := vk_R.warm hW0 hstr
  obtain ⟨U, hsteps, hrun, hend, hW, hsame, ce, hce, hcl, hcv⟩ := nt_ctor X1 hexec htr (own := own) (cls := cls) (names := names) (ic := ic) hx9 hown' hcls hnames h (fun x hx => nomatch hx) hfX hkX hcA (by rw [hhp, hT]; exact Nat.le_refl _) (msg := .ref sa) rfl
    (g := { method := m, pc := pc + 6, locals := ls, stack := .ref sa :: .ref T.heap.size :: .ref T.heap.size :: rest, locked := none }) rfl hsize rfl rfl (rest := rest) rfl
    (by rw [hb]; exact d6) (by rw [hb]; exact d9) hout hR1 (by simp only [List.map_cons, List.sum_cons, hcat]; omega) hlocks
  obtain ⟨f1, f2⟩ := vx_frame hsame
  rw [hhp] at f1 f2
  have hWs : s.WarmedH U.vm := State.WarmedH.trans hW0 hW
  have hcl' : s.vm.findClass cls = some ce.cls := by rw [← hvm]; exact hcl
  have hall : s.sameButNew ({ U with vm := s.vm } : State) locs mc ms := by
    subst hA
    obtain ⟨e1, e2⟩ := hsame
    rw [State.setFrames_setFrames] at e1
    have h2 : (T.setVm s.vm).sameButNew ({ U with vm := s.vm } : State) [] (0 + 1) (0 + 6) := ⟨e1, e2⟩
    have h3 := X.same.trans h2
    rw [List.append_nil] at h3
    exact h3.mono hc hs
  refine ⟨U, ?_, .threw T.heap.size, hrun, hend, Or.inr ⟨T.heap.size, rfl, cls, ce, locs, hx U hWs.alike f1 (fun q hq => f2 q hq (fun z hz => nomatch hz)), hce, hcv, hcl', hWs, hall, hf⟩⟩
  refine st1 _ ?_
  show Steps p.tables e below (T1.setTop { method := m, pc := pc + 3, locals := ls, stack := .ref T.heap.size :: rest, locked := none }) _
  jvm_step X1.here [X1.here.top, hexec, d3', Value.category]
  exact X1.ldcString hexec (own := own) (text := text) (index := is) (a := sa) hown' hstr'.1 hstr'.2
    (g := { method := m, pc := pc + 4, locals := ls, stack := .ref T.heap.size :: .ref T.heap.size :: rest, locked := none }) rfl d4' _ hsteps
end NSE2
section NSE3
variable {K : Nat → List (Option GV) → List GV → GH → Nat → Nat → Prop} {KX : Nat → List (Option GV) → GH → Nat → Nat → String → Prop} {D : DD} {own mn : String} {cc : ByteArray} {nL dep mc ms : Nat} {pc : Nat} {ls : List (Option GV)} {h : GH} {a b : Nat}
abbrev eNS : String := "java/util/NoSuchElementException"
abbrev upN : List String := ["java/lang/RuntimeException", "java/lang/Exception"]
def TN (own : String) (ik is ic : Nat) (text : String) (i : Nat) : Prop := (own, is, text, i) ∈ gstr ∧ ∀ w ∈ Cond.classLink own ik eNS :: Cond.initialized eNS :: nt_at own ic eNS 13 prog_37_method_4_code upN, vx_ot w = true ∧ w ∈ kwl
theorem nt_dec : decode prog_37_method_4_code 0 = .ok (.aload_n 0, 1) ∧ decode prog_37_method_4_code 1 = .ok (.aload_n 1, 1) ∧ decode prog_37_method_4_code 2 = .ok (.invokespecial 13, 3) ∧ decode prog_37_method_4_code 5 = .ok (.return_, 1) := by decide +kernel
theorem nt_fit : Bundle.fit eNS = true ∧ ∀ n ∈ upN, Bundle.fit n = true := by decide +kernel
theorem k_throwN {post : GO → GH → Prop} {ret : Option FieldType} {text : String} {ik is ic i : Nat} (S : Mach K KX D own mn cc nL dep mc ms [] (some (ret, post))) (hw : TN own ik is ic text i) (d0 : decode cc pc = .ok (.new ik, 3)) (d3 : decode cc (pc + 3) = .ok (.dup, 1)) (d4 : decode cc (pc + 4) = .ok (.ldc is, 2)) (d6 : decode cc (pc + 6) = .ok (.invokespecial ic, 3)) (d9 : decode cc (pc + 9) = .ok (.athrow, 1))
    (hp : post (.inr eNS) h) (ha : a + 1 ≤ mc) (hb9 : b + 6 ≤ ms) (hd9 : 7 ≤ dep) : K pc ls [] h a b := by
  obtain ⟨p, l, e, R, s, m, args, below, meth, c, Q, ⟨hx, hb, hown, hlk, hlD, hst, hKn, hmn⟩, hml, ⟨hRf, hRl, hRc, hRs⟩, htab, rfl, rfl, hrp⟩ := S
  intro H locs LS hR hS hL
  obtain ⟨hret, rfl⟩ := hrp _ rfl
  obtain ⟨w1, w2⟩ := hw
  obtain ⟨-, -, -, c4, c5, c6, -⟩ := hKn.2.2.1
  refine nt_throw (sa := cad D i) (rest := []) hx hb hst nt_dec hown nt_fit.1 nt_fit.2 (c6 _ w1) (fun w hw => hKn.2.1 _ (w2 w hw).2 _) (fun w hw => (w2 w hw).1) c4 c5 hS hL.1 d0 d3 d4 d6 d9 (fun x hx9 => ?_) (by show 2 + 3 < _; omega) ?_ (by omega) (by omega) hlk (fun t hW h1 h2 => ⟨h, hp, ?_, Nat.le_trans hS.1 h1, fun q hq hA => ?_⟩) (fun z hz => hS.2.2 z hz) ha hb9
  · rw [htab] at hx9
    exact nomatch hx9
  · simp only [List.map_nil, List.sum_nil, List.length_cons, List.length_nil]
    omega
  · obtain ⟨ws, r1, r2, r3⟩ := hR
    exact ⟨ws, r1.kept fun k q hq => h2 q.1 (r1 k q hq).lt, r2, r3⟩
  · rw [h2 q (Nat.lt_of_lt_of_le hq hS.1)]
    exact hS.2.1 q hq hA
end NSE3
set_option maxRecDepth 100000 in
theorem thw_173 : ∀ w ∈ Cond.classLink RX7 173 eNS :: Cond.initialized eNS :: nt_at RX7 177 eNS 13 prog_37_method_4_code upN, vx_ot w = true ∧ w ∈ kwl := by decide +kernel
theorem th_175_173 : TN RX7 173 175 177 "there is no such character" 13 := ⟨by decide, thw_173⟩
theorem th_185_173 : TN RX7 173 185 177 "there is no such stop" 14 := ⟨by decide, thw_173⟩
theorem th_203_173 : TN RX7 173 203 177 "the snippet is not shadowed" 15 := ⟨by decide, thw_173⟩
theorem th_221_173 : TN RX7 173 221 177 "no character is ahead of the caret" 17 := ⟨by decide, thw_173⟩
theorem th_229_173 : TN RX7 173 229 177 "there is no stop" 19 := ⟨by decide, thw_173⟩
theorem th_246_173 : TN RX7 173 246 177 "there was no expansion" 21 := ⟨by decide, thw_173⟩
