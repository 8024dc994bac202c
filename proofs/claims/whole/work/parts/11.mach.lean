/-! locals -/
def lvs (ls : List (Option GV)) (LS : Array Slot) (n : Nat) : Prop := LS.size = n ∧ lv_wf LS ∧ ∀ (i : Nat) (v : GV), ls[i]? = some (some v) → LS[i]? = some (.val (tv v)) ∧ gcat v = 1
def lvL (ls : List (Option GV)) : List (Nat × Value) := (List.range ls.length).filterMap fun i => match ls[i]? with
  | some (some v) => some (i, tv v)
  | _ => none
theorem lvL_mem {ls : List (Option GV)} {i : Nat} {v : GV} (h : ls[i]? = some (some v)) : (i, tv v) ∈ lvL ls :=
  List.mem_filterMap.mpr ⟨i, List.mem_range.mpr (List.getElem?_eq_some_iff.mp h).1, by simp only [h]⟩
theorem lvs.has {ls : List (Option GV)} {LS : Array Slot} {n : Nat} (h : lvs ls LS n) : lv_has LS n (lvL ls) := by
  refine ⟨h.1, h.2.1, fun q hq => ?_⟩
  obtain ⟨i, -, hi⟩ := List.mem_filterMap.mp hq
  split at hi
  · next v hv =>
    cases hi
    exact (h.2.2 i v hv).1
  · cases hi
theorem lvs.set {ls : List (Option GV)} {LS LS' : Array Slot} {n i : Nat} {v : GV} (h : lvs ls LS n) (hc : gcat v = 1) (h' : lv_has LS' n ((i, tv v) :: (lvL ls).filter (fun q => !(q.1 == i) && !(q.1 + 1 == i && q.2.category == 2)))) : lvs (ls.set i (some v)) LS' n := by
  refine ⟨h'.1, h'.2.1, fun j w hj => ?_⟩
  by_cases e : i = j
  · subst e
    have hl : i < (ls.set i (some v)).length := (List.getElem?_eq_some_iff.mp hj).1
    rw [List.length_set] at hl
    rw [List.getElem?_set_self hl] at hj
    cases hj
    exact ⟨h'.2.2 _ List.mem_cons_self, hc⟩
  · rw [List.getElem?_set_ne e] at hj
    have h1 := (h.2.2 j w hj).2
    refine ⟨h'.2.2 (j, tv w) (List.mem_cons_of_mem _ (List.mem_filter.mpr ⟨lvL_mem hj, ?_⟩)), h1⟩
    have e2 : (j == i) = false := by simpa using fun z => e z.symm
    simp [e2, tv_cat, h1]
theorem lg_sl1 (vs : List GV) (h : ∀ v ∈ vs, gcat v = 1) : (lg_sl (vs.map tv)).length = vs.length := by
  induction vs with
  | nil => rfl
  | cons a l ih =>
    have h1 : (tv a).category = 1 := by rw [tv_cat]; exact h a List.mem_cons_self
    have := ih fun v hv => h v (List.mem_cons_of_mem _ hv)
    simp only [lg_sl, List.map_cons, List.flatMap_cons, List.length_append] at this ⊢
    rw [this]
    simp [h1]
    omega
theorem lv_args1 (vs : List GV) : ∀ (k : Nat), (∀ v ∈ vs, gcat v = 1) → ∀ (i : Nat) (v : GV), vs[i]? = some v → (k + i, tv v) ∈ lv_args k (vs.map tv) := by
  induction vs with
  | nil => intro k _ i v h; simp at h
  | cons a l ih =>
    intro k h i v hi
    have h1 : (tv a).category = 1 := by rw [tv_cat]; exact h a List.mem_cons_self
    rw [List.map_cons]
    simp only [lv_args, h1]
    cases i with
    | zero => simp at hi; subst hi; exact List.mem_cons_self
    | succ i =>
      have := ih (k + 1) (fun v hv => h v (List.mem_cons_of_mem _ hv)) i v (by simpa using hi)
      rw [show k + (i + 1) = k + 1 + i by omega]
      exact List.mem_cons_of_mem _ (by simpa using this)
/-! the walk over ghost states -/
def KP (p : Program) (l : Launch) (e : Env) (R : Room) (s : State) (m : MethodId) (args : Array Value) (below : List Frame) (meth : Method) (c : Code) (Q : State → Prop) (D : DD) : Nat → List (Option GV) → List GV → GH → Nat → Nat → Prop := fun pc ls st h a b =>
  ∀ (H : Heap) (locs : List Loc) (LS : Array Slot), Rel D h H → va_S (dS D) s.heap H locs → lvs ls LS c.maxLocals → W p l e R s m args below meth c H locs a b Q (F0 m pc LS (st.map tv))
def KXP (p : Program) (l : Launch) (e : Env) (R : Room) (s : State) (m : MethodId) (args : Array Value) (below : List Frame) (meth : Method) (c : Code) (Q : State → Prop) (D : DD) : Nat → List (Option GV) → GH → Nat → Nat → String → Prop := fun pc ls h a b E =>
  ∀ (H : Heap) (locs : List Loc) (LS : Array Slot) (q : Addr) (ce : Cell) (rest : List Value), Rel D h H → va_S (dS D) s.heap H locs → lvs ls LS c.maxLocals → H[q]? = some ce → ce.vm = .none → s.vm.findClass E = some ce.cls → vx_W p l e R s m args below meth c H locs a b Q (F0 m pc LS rest) q
abbrev GO : Type := Option GV ⊕ String
def gPc (D : DD) (args : List GV) (h : GH) : Array Value → State → Prop := fun v U => v = (args.map tv).toArray ∧ Rel D h U.heap ∧ Kn D U
def gQc (D : DD) (post : GO → GH → Prop) : Array Value → State → Outcome → State → Prop := fun _ st o t => ∃ (r : Option GV) (h' : GH), o = .returned (r.map tv) ∧ post (.inl r) h' ∧ Rel D h' t.heap ∧ va_F (dS D) st t
def gXc (D : DD) (post : GO → GH → Prop) : String → State → State → Prop := fun E st t => ∃ h' : GH, post (.inr E) h' ∧ Rel D h' t.heap ∧ va_F (dS D) st t
def gWs (y : MethodName) (cc : ByteArray) (maxL : Nat) (ret : Option FieldType) (hh : List (Nat × Nat × Nat × Nat)) : Cond := match hh with
  | [] => .code y cc maxL ret
  | hh => .codeWith y cc maxL ret hh
def GMet (D : DD) (y : MethodName) (cc : ByteArray) (maxL : Nat) (ret : Option FieldType) (hh : List (Nat × Nat × Nat × Nat)) (dep mc ms : Nat) (args : List GV) (h : GH) (post : GO → GH → Prop) : Prop :=
  D.1.stackTraces = false → vx_Met D.1 y [gWs y cc maxL ret hh] { frames := dep, cells := mc, slots := ms, locals := 40 * dep } (gPc D args h) (gQc D post) (gXc D post) mc ms (dS D)
def Cx (D : DD) (own mn : String) (cc : ByteArray) (p : Program) (l : Launch) (s : State) (m : MethodId) (meth : Method) (c : Code) : Prop :=
  p.tables.exec = Jvm.exec ∧ c.code = cc ∧ s.vm.findClass own = some m.cls ∧ meth.locks = false ∧ l = D.1 ∧ l.stackTraces = false ∧ Kn D s ∧ (mn = "" ∨ meth.name = mn)
/-- K and KX are the walk of a method of the class own with the code cc; rp: what it returns, and what must hold behind it -/
def Mach (K : Nat → List (Option GV) → List GV → GH → Nat → Nat → Prop) (KX : Nat → List (Option GV) → GH → Nat → Nat → String → Prop) (D : DD) (own mn : String) (cc : ByteArray) (nL dep mc ms : Nat) (hh : List (Nat × Nat × Nat × Nat)) (rp : Option (Option FieldType × (GO → GH → Prop))) : Prop :=
  ∃ (p : Program) (l : Launch) (e : Env) (R : Room) (s : State) (m : MethodId) (args : Array Value) (below : List Frame) (meth : Method) (c : Code) (Q : State → Prop), Cx D own mn cc p l s m meth c ∧ c.maxLocals = nL ∧ (R.frames = dep ∧ 40 * dep ≤ R.locals ∧ R.cells = mc ∧ R.slots = ms) ∧ c.exceptionTable.toList = tableOf hh ∧ K = KP p l e R s m args below meth c Q D ∧ KX = KXP p l e R s m args below meth c Q D ∧
    ∀ q, rp = some q → meth.sig.returnType = q.1 ∧ Q = vx_MQ below (gQc D q.2) (gXc D q.2) args s mc ms (dS D)
theorem GMet.intro {D : DD} {y : MethodName} {cc : ByteArray} {maxL : Nat} {ret : Option FieldType} {dep mc ms : Nat} {args : List GV} {h : GH} {post : GO → GH → Prop} (own : String) (hown : y.cls = own) (hy : plainName y.cls = true) (hcat : ∀ v ∈ args, gcat v = 1) (hlen : args.length ≤ maxL)
    (body : ∀ (K : Nat → List (Option GV) → List GV → GH → Nat → Nat → Prop) (KX : Nat → List (Option GV) → GH → Nat → Nat → String → Prop), Mach K KX D own y.name cc maxL dep mc ms [] (some (ret, post)) → K 0 (args.map some ++ List.replicate (maxL - args.length) none) [] h 0 0) : GMet D y cc maxL ret [] dep mc ms args h post := by
  intro hl
  refine vx_ofW (cc := cc) (maxL := maxL) (ret := ret) hy rfl ?_
  intro p e s m args' below meth c s₁ B hml htab hPc
  obtain ⟨rfl, hR, hKn⟩ := hPc
  have hz : (lg_sl (args.map tv)).length ≤ maxL := by rw [lg_sl1 args hcat]; exact hlen
  have hle := lv_entry (args.map tv) (n := maxL) hz
  have S : Mach (KP p D.1 e (headSpec [gWs y cc maxL ret []] { frames := dep, cells := mc, slots := ms, locals := 40 * dep }).room s m (args.map tv).toArray below meth c (vx_MQ below (gQc D post) (gXc D post) (args.map tv).toArray s mc ms (dS D)) D) (KXP p D.1 e (headSpec [gWs y cc maxL ret []] { frames := dep, cells := mc, slots := ms, locals := 40 * dep }).room s m (args.map tv).toArray below meth c (vx_MQ below (gQc D post) (gXc D post) (args.map tv).toArray s mc ms (dS D)) D) D own y.name cc maxL dep mc ms [] (some (ret, post)) := by
    refine ⟨p, D.1, e, _, s, m, _, below, meth, c, _, ⟨B.exec, B.bytes, by rw [← hown]; exact findClass_of_methodNamed B.named, B.notSynchronized, rfl, hl, hKn, Or.inr (name_of_methodNamed B.named B.method).1⟩, hml, ⟨rfl, Nat.le_refl _, rfl, rfl⟩, ?_, rfl, rfl, fun q hq => by cases hq; exact ⟨B.returns, rfl⟩⟩
    show c.exceptionTable.toList = []
    exact List.eq_nil_iff_forall_not_mem.mpr fun x hx => htab x hx
  have := body _ _ S s.heap [] (lg_sl (args.map tv) ++ List.replicate (maxL - (lg_sl (args.map tv)).length) Slot.unset).toArray hR va_S.rf ⟨by rw [hml]; exact hle.1, hle.2.1, fun i v hv => ?_⟩
  · rw [lg_entry_eq]
    exact this
  · by_cases hi : i < args.length
    · rw [List.getElem?_append_left (by simpa using hi), List.getElem?_map] at hv
      have hv' : args[i]? = some v := by
        cases ha : args[i]? with
        | none => simp [ha] at hv
        | some w => simp [ha] at hv; rw [hv]
      refine ⟨?_, hcat v (List.mem_of_getElem? hv')⟩
      have := hle.2.2 _ (lv_args1 args 0 hcat i v hv')
      simpa using this
    · rw [List.getElem?_append_right (by simpa using hi)] at hv
      have := List.eq_of_mem_replicate (List.mem_of_getElem? hv)
      cases this
theorem g_ofWF {l : Launch} {y : MethodName} {ws ws' : List Cond} {rm : Room} {Pc : Array Value → State → Prop} {Qc : Array Value → State → Outcome → State → Prop} {XC : String → State → State → Prop} {mc ms : Nat} {free : Addr → Prop} {cc : ByteArray} {maxL : Nat} {ret : Option FieldType}
    (hy : plainFor y = true) (hw : ws = Cond.code y cc maxL ret :: ws')
    (body : ∀ p e s m args below meth c s₁, BodyLoose p l y (headSpec ws rm) cc maxL ret e s m args below meth c s₁ → c.maxLocals = maxL → (∀ x ∈ c.exceptionTable.toList, False) → Pc args s →
      W p l e (headSpec ws rm).room s m args below meth c s.heap [] 0 0 (vx_MQ below Qc XC args s mc ms free) (entryFrame m args maxL)) : vx_Met l y ws rm Pc Qc XC mc ms free := by
  refine MetFree.of_bodySF (code := cc) (maxLocals := maxL) (ret := ret) hy ?_ ?_
  · intro args s m h hn
    obtain ⟨meth, c, h1, h2, h3, h4, h5, h6, -, -⟩ := Cond.code_spec hn (atoms_spec (ws := ws) h _ (by rw [hw]; exact List.mem_cons_self))
    exact ⟨meth, c, h1, h2, h3, h4, h5, h6⟩
  · intro p e s m args below meth c s₁ B hml hP _
    have hh0 : s₁.heap = s.heap := by rw [B.state]; rfl
    have ht : ∀ x ∈ c.exceptionTable.toList, False := by
      obtain ⟨meth9, c9, h1, h2, -, -, -, -, h7, -⟩ := Cond.code_spec B.named (atoms_spec (ws := ws) B.pre _ (by rw [hw]; exact List.mem_cons_self))
      cases Option.some.inj (h1.symm.trans B.method)
      cases Option.some.inj (h2.symm.trans (Stand.of_body B).code)
      intro x hx
      rw [Array.isEmpty_iff.mp h7] at hx
      cases hx
    obtain ⟨t, a1, o, b1, b2, b3⟩ := body p e s m args below meth c s₁ B hml ht hP s₁ hh0 (Stand.of_body B)
    exact ⟨t, o, a1, b1, b2, b3⟩
theorem GMet.introF {D : DD} {y : MethodName} {cc : ByteArray} {maxL : Nat} {ret : Option FieldType} {dep mc ms : Nat} {args : List GV} {h : GH} {post : GO → GH → Prop} (own : String) (hown : y.cls = own) (hy : plainFor y = true) (hcat : ∀ v ∈ args, gcat v = 1) (hlen : args.length ≤ maxL)
    (body : ∀ (K : Nat → List (Option GV) → List GV → GH → Nat → Nat → Prop) (KX : Nat → List (Option GV) → GH → Nat → Nat → String → Prop), Mach K KX D own y.name cc maxL dep mc ms [] (some (ret, post)) → K 0 (args.map some ++ List.replicate (maxL - args.length) none) [] h 0 0) : GMet D y cc maxL ret [] dep mc ms args h post := by
  intro hl
  refine g_ofWF (cc := cc) (maxL := maxL) (ret := ret) hy rfl ?_
  intro p e s m args' below meth c s₁ B hml htab hPc
  obtain ⟨rfl, hR, hKn⟩ := hPc
  have hz : (lg_sl (args.map tv)).length ≤ maxL := by rw [lg_sl1 args hcat]; exact hlen
  have hle := lv_entry (args.map tv) (n := maxL) hz
  have S : Mach (KP p D.1 e (headSpec [gWs y cc maxL ret []] { frames := dep, cells := mc, slots := ms, locals := 40 * dep }).room s m (args.map tv).toArray below meth c (vx_MQ below (gQc D post) (gXc D post) (args.map tv).toArray s mc ms (dS D)) D) (KXP p D.1 e (headSpec [gWs y cc maxL ret []] { frames := dep, cells := mc, slots := ms, locals := 40 * dep }).room s m (args.map tv).toArray below meth c (vx_MQ below (gQc D post) (gXc D post) (args.map tv).toArray s mc ms (dS D)) D) D own y.name cc maxL dep mc ms [] (some (ret, post)) := by
    refine ⟨p, D.1, e, _, s, m, _, below, meth, c, _, ⟨B.exec, B.bytes, by rw [← hown]; exact findClass_of_methodNamed B.named, B.notSynchronized, rfl, hl, hKn, Or.inr (name_of_methodNamed B.named B.method).1⟩, hml, ⟨rfl, Nat.le_refl _, rfl, rfl⟩, ?_, rfl, rfl, fun q hq => by cases hq; exact ⟨B.returns, rfl⟩⟩
    show c.exceptionTable.toList = []
    exact List.eq_nil_iff_forall_not_mem.mpr fun x hx => htab x hx
  have := body _ _ S s.heap [] (lg_sl (args.map tv) ++ List.replicate (maxL - (lg_sl (args.map tv)).length) Slot.unset).toArray hR va_S.rf ⟨by rw [hml]; exact hle.1, hle.2.1, fun i v hv => ?_⟩
  · rw [lg_entry_eq]
    exact this
  · by_cases hi : i < args.length
    · rw [List.getElem?_append_left (by simpa using hi), List.getElem?_map] at hv
      have hv' : args[i]? = some v := by
        cases ha : args[i]? with
        | none => simp [ha] at hv
        | some w => simp [ha] at hv; rw [hv]
      refine ⟨?_, hcat v (List.mem_of_getElem? hv')⟩
      have := hle.2.2 _ (lv_args1 args 0 hcat i v hv')
      simpa using this
    · rw [List.getElem?_append_right (by simpa using hi)] at hv
      have := List.eq_of_mem_replicate (List.mem_of_getElem? hv)
      cases this
theorem GMet.introH {D : DD} {y : MethodName} {cc : ByteArray} {maxL : Nat} {ret : Option FieldType} {hd : Nat × Nat × Nat × Nat} {tl : List (Nat × Nat × Nat × Nat)} {dep mc ms : Nat} {args : List GV} {h : GH} {post : GO → GH → Prop} (own : String) (hown : y.cls = own) (hy : plainName y.cls = true) (hcat : ∀ v ∈ args, gcat v = 1) (hlen : args.length ≤ maxL)
    (body : ∀ (K : Nat → List (Option GV) → List GV → GH → Nat → Nat → Prop) (KX : Nat → List (Option GV) → GH → Nat → Nat → String → Prop), Mach K KX D own y.name cc maxL dep mc ms (hd :: tl) (some (ret, post)) → K 0 (args.map some ++ List.replicate (maxL - args.length) none) [] h 0 0) : GMet D y cc maxL ret (hd :: tl) dep mc ms args h post := by
  intro hl
  refine vx_ofWH (cc := cc) (maxL := maxL) (ret := ret) (hh := hd :: tl) hy rfl ?_
  intro p e s m args' below meth c s₁ B hml hPc
  obtain ⟨rfl, hR, hKn⟩ := hPc
  have hz : (lg_sl (args.map tv)).length ≤ maxL := by rw [lg_sl1 args hcat]; exact hlen
  have hle := lv_entry (args.map tv) (n := maxL) hz
  have hts := atoms_spec (ws := [gWs y cc maxL ret (hd :: tl)]) B.pre
  have S : Mach (KP p D.1 e (headSpec [gWs y cc maxL ret (hd :: tl)] { frames := dep, cells := mc, slots := ms, locals := 40 * dep }).room s m (args.map tv).toArray below meth c (vx_MQ below (gQc D post) (gXc D post) (args.map tv).toArray s mc ms (dS D)) D) (KXP p D.1 e (headSpec [gWs y cc maxL ret (hd :: tl)] { frames := dep, cells := mc, slots := ms, locals := 40 * dep }).room s m (args.map tv).toArray below meth c (vx_MQ below (gQc D post) (gXc D post) (args.map tv).toArray s mc ms (dS D)) D) D own y.name cc maxL dep mc ms (hd :: tl) (some (ret, post)) := by
    refine ⟨p, D.1, e, _, s, m, _, below, meth, c, _, ⟨B.exec, B.bytes, by rw [← hown]; exact findClass_of_methodNamed B.named, B.notSynchronized, rfl, hl, hKn, Or.inr (name_of_methodNamed B.named B.method).1⟩, hml, ⟨rfl, Nat.le_refl _, rfl, rfl⟩, vx_table (x := y) B (hts _ List.mem_cons_self), rfl, rfl, fun q hq => by cases hq; exact ⟨B.returns, rfl⟩⟩
  have := body _ _ S s.heap [] (lg_sl (args.map tv) ++ List.replicate (maxL - (lg_sl (args.map tv)).length) Slot.unset).toArray hR va_S.rf ⟨by rw [hml]; exact hle.1, hle.2.1, fun i v hv => ?_⟩
  · rw [lg_entry_eq]
    exact this
  · by_cases hi : i < args.length
    · rw [List.getElem?_append_left (by simpa using hi), List.getElem?_map] at hv
      have hv' : args[i]? = some v := by
        cases ha : args[i]? with
        | none => simp [ha] at hv
        | some w => simp [ha] at hv; rw [hv]
      refine ⟨?_, hcat v (List.mem_of_getElem? hv')⟩
      have := hle.2.2 _ (lv_args1 args 0 hcat i v hv')
      simpa using this
    · rw [List.getElem?_append_right (by simpa using hi)] at hv
      have := List.eq_of_mem_replicate (List.mem_of_getElem? hv)
      cases this
