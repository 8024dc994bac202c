def R_law : String := "ShorthandRulesLaw"
def lw_P (b : Addr) (xs : List Int32) (args : Array Value) (s : State) : Prop := args = #[.ref b] ∧ s.IntsAt b xs ∧ xs.length ≤ 2048 ∧ (Jvm.Cond.and given_1 narrow_1).before args s = true
/-- what a walk over the start with the record d0 says of its end, said of the start itself -/
theorem lw_closed {s t : State} {o : Outcome} {d0 : Drawn} {L : List Loc} {k n : Nat} (hd0 : s.drawn.sameBut d0 lw_cs) (hv : ∃ v, o = .returned v) (hW : (s.setDrawn d0).WarmedH t.vm) (hs : (s.setDrawn d0).sameButNew ({ t with vm := s.vm } : State) L k n) : State.butDraws s t lw_cs (fun t1 => Framed s o t1 L k n) := by
  have h2 : t.drawn = d0 := congrArg State.drawn hs.1
  refine ⟨⟨hv, hW, State.sameButNew.setDrawn hs s.drawn⟩, ?_, by decide⟩
  rw [h2]
  exact hd0
def lw_Q (_ : Array Value) (s : State) (o : Outcome) (t : State) : Prop := o = .returned (some (.int 1)) ∧ State.butDraws s t lw_cs (fun t1 => Framed s o t1 [] 601024 7293034)
def lw_Z (below : List Frame) (a : Array Value) (s : State) : State → Prop := fun t => ∃ o, t.status = .running ∧ Ended t below o ∧ lw_Q a s o t
/-- the law's own end, with 1 on the stack, nothing written that was there before, its room as the claim has it; d0: the record of draws at this point (at the entry s.drawn: begin with 'refine W.base ?_' and 'have hd0 := Drawn.sameBut.refl s.drawn lw_cs') -/
theorem lw_ret {p : Program} {l : Launch} {e : Env} {s : State} {m : MethodId} {below : List Frame} {meth : Method} {c : Code} {b : Nat} {d0 : Drawn} (hd0 : s.drawn.sameBut d0 lw_cs) (hx : p.tables.exec = Jvm.exec) (hb : c.code = code) (hr : meth.sig.returnType = ret) (hlocks : meth.locks = false) {pc : Nat} {H : Heap} {ls : Array Slot} (hdg : decode code pc = .ok (.ireturn, 1)) : W p l e room_1 (s.setDrawn d0) m #[Value.ref b] below meth c H [] 601024 7293034 (lw_Z below #[Value.ref b] s) (F0 m pc ls [.int 1]) := by
  intro T hT X
  obtain ⟨fs, hret, hrun, hended, hW, hframe⟩ := X.leave (v := some (.int 1)) (hlocks := hlocks) (fun h => by rw [hr] at h; cases h)
  have hmeth' : T.vm.method? m = some meth := X.method'
  refine ⟨T.setFrames fs, ?_, .returned (some (.int 1)), hrun, hended, rfl, lw_closed hd0 ⟨_, rfl⟩ hW hframe⟩
  jvm_step X.here [X.here.top, hx, hb, hdg, hmeth', hr, ret, narrow_b1]
  (try refine ⟨rfl, ?_⟩); (try refine ⟨rfl, ?_⟩)
  first | (intro acts; rw [hret _ acts rfl rfl rfl]) | rw [hret _ _ rfl rfl rfl]
  exact Steps.refl _
/-- what holds at the law's entry: the machine, the code, the tables' words (any of lw_tbl by 'hts w (by decide +kernel)'), the script of L ints xs at the cell b, what the Statement gives of the start (any of its parts by flat_of_before) -/
def lw_At (p : Program) (s : State) (m : MethodId) (meth : Method) (c : Code) (b L : Nat) (xs : Nat → Int32) : Prop :=
  p.tables.exec = Jvm.exec ∧ c.code = code ∧ meth.sig.returnType = ret ∧ c.maxLocals = 8 ∧ s.vm.findClass R_law = some m.cls ∧ (∀ w ∈ lw_tbl, w.before #[Value.ref b] s = true) ∧ va_X b L xs s s.heap ∧ b < s.heap.size ∧ meth.locks = false ∧ (Jvm.Cond.and given_1 narrow_1).before #[Value.ref b] s = true
/-! what the Statement gives of the start -/
def Bg (A : Array Value) (s : State) : Prop := (∀ w ∈ lw_tbl, w.before A s = true) ∧ ∀ c ∈ flatC narrow_1, c.before A s = true
section START
variable {A : Array Value} {s : State}
theorem Bg.tb9 (B : Bg A s) {w : Cond} (i : Nat) (h : tables_1[i]? = some w) : w.before A s = true := B.1 w (List.mem_append_right _ (List.mem_of_getElem? h))
theorem Bg.nl9 (B : Bg A s) {w : Cond} (i : Nat) (h : (flatC narrow_1)[i]? = some w) : w.before A s = true := B.2 w (List.mem_of_getElem? h)
theorem Bg.kw9 (B : Bg A s) : ∀ w ∈ kwl, w.before A s = true := fun w hw => B.1 w (List.mem_filter.mp hw).1
theorem st_ev {t : Term} {nm : String} (h : (Cond.exactly t nm).before A s = true) : ∃ a : Nat, t.eval A s none [] s = some (.ref a) := by
  obtain ⟨a, c, cell, k, q1, -⟩ := Cond.exactly_spec (args := A) (first := s) (o := none) (s := s) (idx := []) (t := t) (cls := nm) h
  exact ⟨a, q1⟩
theorem st_cls (B : Bg A s) : ∃ (cC : Nat → ClassId) (iS : Nat → Nat → Nat), ∀ (c : Nat) (q : vw_C), gcl[c]? = some q → u_Kn s q.1 q.2.1 q.2.2 (cC c) (iS c) := by
  obtain ⟨c0, i0, h0⟩ := u_known (s := s) (args := A) B.kw9 ck0.2.1 (B.tb9 111 (w := (Jvm.Cond.instantiable "ShorthandRules$Gift" (2 : Nat))) (by decide +kernel))
  obtain ⟨c2, i2, h2⟩ := u_known (s := s) (args := A) B.kw9 ck2.2.1 (B.tb9 579 (w := (Jvm.Cond.instantiable "ShorthandRules$Part" (3 : Nat))) (by decide +kernel))
  obtain ⟨c3, i3, h3⟩ := u_known (s := s) (args := A) B.kw9 ck3.2.1 (B.tb9 72 (w := (Jvm.Cond.instantiable "ShorthandRules$Row" (2 : Nat))) (by decide +kernel))
  obtain ⟨c4, i4, h4⟩ := u_known (s := s) (args := A) B.kw9 ck4.2.1 (B.tb9 399 (w := (Jvm.Cond.instantiable "ShorthandRules$Snippet" (8 : Nat))) (by decide +kernel))
  obtain ⟨c5, i5, h5⟩ := u_known (s := s) (args := A) B.kw9 ck5.2.1 (B.tb9 130 (w := (Jvm.Cond.instantiable "ShorthandRules$Text" (3 : Nat))) (by decide +kernel))
  obtain ⟨c6, i6, h6⟩ := u_known (s := s) (args := A) B.kw9 ck6.2.1 (B.tb9 66 (w := (Jvm.Cond.instantiable "ShorthandRules$TriggerTree" (3 : Nat))) (by decide +kernel))
  obtain ⟨c7, i7, h7⟩ := u_known (s := s) (args := A) B.kw9 ck7.2.1 (B.tb9 32 (w := (Jvm.Cond.instantiable "ShorthandRules" (11 : Nat))) (by decide +kernel))
  obtain ⟨c8, i8, h8⟩ := u_known (s := s) (args := A) B.kw9 ck8.2.1 (B.tb9 996 (w := (Jvm.Cond.instantiable "ShorthandRulesModel" (31 : Nat))) (by decide +kernel))
  obtain ⟨c9, i9, h9⟩ := u_known (s := s) (args := A) B.kw9 ck9.2.1 (B.tb9 40 (w := (Jvm.Cond.instantiable "java/util/ArrayList" (3 : Nat))) (by decide +kernel))
  refine ⟨fun c => [c0, c2, c2, c3, c4, c5, c6, c7, c8, c9].getD c 0, fun c => [i0, i2, i2, i3, i4, i5, i6, i7, i8, i9].getD c (fun _ => 0), fun c q hq => ?_⟩
  match c, hq with
  | 0, hq => (have e := Option.some.inj hq; subst e; exact h0)
  | 1, hq => (have e := Option.some.inj hq; subst e; exact h2)
  | 2, hq => (have e := Option.some.inj hq; subst e; exact h2)
  | 3, hq => (have e := Option.some.inj hq; subst e; exact h3)
  | 4, hq => (have e := Option.some.inj hq; subst e; exact h4)
  | 5, hq => (have e := Option.some.inj hq; subst e; exact h5)
  | 6, hq => (have e := Option.some.inj hq; subst e; exact h6)
  | 7, hq => (have e := Option.some.inj hq; subst e; exact h7)
  | 8, hq => (have e := Option.some.inj hq; subst e; exact h8)
  | 9, hq => (have e := Option.some.inj hq; subst e; exact h9)
  | c + 10, hq => (have e := (List.getElem?_eq_some_iff.mp hq).1; exact absurd (show c + 10 < 10 from e) (by omega))
theorem st_prim {ty : FieldType} (h : (Cond.arrayClass ty).before A s = true) : ∃ c : ClassId, ArrOfT s c ty ∧ s.vm.findClass ("[" ++ ty.toString) = some c := by
  obtain ⟨c, k, comp, hfind, hk, hkind⟩ := Cond.arrayClass_spec (args := A) (first := s) (o := none) (s := s) (idx := []) h
  exact ⟨c, fun n z => ⟨(fun k h => by cases h), k, hk, comp, hkind⟩, hfind⟩
theorem st_arr (B : Bg A s) : ∃ dA : Nat → ClassId, ∀ (k : Nat) (q : ClassId × FieldType), (gtys dA)[k]? = some q → ArrOfT s q.1 q.2 ∧ va_RA s q.1 q.2 := by
  obtain ⟨a0, f0, g0⟩ := st_prim (s := s) (A := A) (ty := .int) (B.tb9 87 (by decide +kernel))
  obtain ⟨a1, f1, g1⟩ := st_prim (s := s) (A := A) (ty := .char) (B.tb9 1095 (by decide +kernel))
  obtain ⟨a2, f2, g2⟩ := st_prim (s := s) (A := A) (ty := .boolean) (B.tb9 1096 (by decide +kernel))
  obtain ⟨a3, f3, g3⟩ := st_prim (s := s) (A := A) (ty := .long) (B.tb9 1331 (by decide +kernel))
  obtain ⟨a4, f4, g4⟩ := st_prim (s := s) (A := A) (ty := .double) (B.tb9 1332 (by decide +kernel))
  obtain ⟨comp, a5, k5, h1, h2, h3, h4, h5⟩ := Cond.arrayOver_spec (args := A) (first := s) (o := none) (s := s) (idx := []) (n := "java/lang/Object") (B.tb9 491 (w := .arrayOver (.object "java/lang/Object")) (by decide +kernel))
  have f5 : ArrOfT s a5 (.object "java/lang/Object") := fun N z => ⟨(fun k h => by cases h), k5, h3, comp, h4⟩
  have g5 : va_RA s a5 (.object "java/lang/Object") := ⟨k5, comp, h3, h4, h1, h5⟩
  refine ⟨fun k => [a0, a1, a2, a3, a4, a5].getD k 0, fun k q hq => ?_⟩
  match k, hq with
  | 0, hq => (have e := Option.some.inj hq; subst e; exact ⟨f0, g0⟩)
  | 1, hq => (have e := Option.some.inj hq; subst e; exact ⟨f1, g1⟩)
  | 2, hq => (have e := Option.some.inj hq; subst e; exact ⟨f2, g2⟩)
  | 3, hq => (have e := Option.some.inj hq; subst e; exact ⟨f3, g3⟩)
  | 4, hq => (have e := Option.some.inj hq; subst e; exact ⟨f4, g4⟩)
  | 5, hq => (have e := Option.some.inj hq; subst e; exact ⟨f5, g5⟩)
  | k + 6, hq => (have e := (List.getElem?_eq_some_iff.mp hq).1; exact absurd (show k + 6 < 6 from e) (by omega))
theorem st_kind (B : Bg A s) : ∃ a0 a1 a2 a3 : Nat, (∀ S : Nat → Prop, (∀ a : Nat, a < s.heap.size → ¬ S a) → va_Z RX1 "CHARACTER" kdD (.ref a0) S s s.heap ∧ va_Z RX1 "CHOICE" kdD (.ref a1) S s s.heap ∧ va_Z RX1 "DATE" kdD (.ref a2) S s s.heap ∧ va_Z RX1 "STOP" kdD (.ref a3) S s s.heap) ∧ a0 ≠ a1 ∧ a0 ≠ a2 ∧ a0 ≠ a3 ∧ a1 ≠ a2 ∧ a1 ≠ a3 ∧ a2 ≠ a3 := by
  obtain ⟨a0, e0⟩ := st_ev (B.nl9 8 (w := (Jvm.Cond.exactly (Jvm.Term.static "ShorthandRules$Kind" "CHARACTER" "LShorthandRules$Kind;") "ShorthandRules$Kind")) (by decide +kernel))
  obtain ⟨a1, e1⟩ := st_ev (B.nl9 10 (w := (Jvm.Cond.exactly (Jvm.Term.static "ShorthandRules$Kind" "CHOICE" "LShorthandRules$Kind;") "ShorthandRules$Kind")) (by decide +kernel))
  obtain ⟨a2, e2⟩ := st_ev (B.nl9 13 (w := (Jvm.Cond.exactly (Jvm.Term.static "ShorthandRules$Kind" "DATE" "LShorthandRules$Kind;") "ShorthandRules$Kind")) (by decide +kernel))
  obtain ⟨a3, e3⟩ := st_ev (B.nl9 17 (w := (Jvm.Cond.exactly (Jvm.Term.static "ShorthandRules$Kind" "STOP" "LShorthandRules$Kind;") "ShorthandRules$Kind")) (by decide +kernel))
  refine ⟨a0, a1, a2, a3, fun S hA => ⟨va_Zof (B.tb9 581 (w := (Jvm.Cond.laysStatic "ShorthandRules$Kind" "CHARACTER" "LShorthandRules$Kind;")) (by decide +kernel)) (B.tb9 25 (w := (Jvm.Cond.initialized "ShorthandRules$Kind")) (by decide +kernel)) e0 hA, va_Zof (B.tb9 613 (w := (Jvm.Cond.laysStatic "ShorthandRules$Kind" "CHOICE" "LShorthandRules$Kind;")) (by decide +kernel)) (B.tb9 25 (w := (Jvm.Cond.initialized "ShorthandRules$Kind")) (by decide +kernel)) e1 hA, va_Zof (B.tb9 625 (w := (Jvm.Cond.laysStatic "ShorthandRules$Kind" "DATE" "LShorthandRules$Kind;")) (by decide +kernel)) (B.tb9 25 (w := (Jvm.Cond.initialized "ShorthandRules$Kind")) (by decide +kernel)) e2 hA, va_Zof (B.tb9 705 (w := (Jvm.Cond.laysStatic "ShorthandRules$Kind" "STOP" "LShorthandRules$Kind;")) (by decide +kernel)) (B.tb9 25 (w := (Jvm.Cond.initialized "ShorthandRules$Kind")) (by decide +kernel)) e3 hA⟩, ?_, ?_, ?_, ?_, ?_, ?_⟩
  · exact va_neR (B.nl9 12 (w := (Jvm.Cond.not (Jvm.Cond.eq (Jvm.Term.static "ShorthandRules$Kind" "CHARACTER" "LShorthandRules$Kind;") (Jvm.Term.static "ShorthandRules$Kind" "CHOICE" "LShorthandRules$Kind;")))) (by decide +kernel)) e0 e1
  · exact va_neR (B.nl9 15 (w := (Jvm.Cond.not (Jvm.Cond.eq (Jvm.Term.static "ShorthandRules$Kind" "CHARACTER" "LShorthandRules$Kind;") (Jvm.Term.static "ShorthandRules$Kind" "DATE" "LShorthandRules$Kind;")))) (by decide +kernel)) e0 e2
  · exact va_neR (B.nl9 19 (w := (Jvm.Cond.not (Jvm.Cond.eq (Jvm.Term.static "ShorthandRules$Kind" "CHARACTER" "LShorthandRules$Kind;") (Jvm.Term.static "ShorthandRules$Kind" "STOP" "LShorthandRules$Kind;")))) (by decide +kernel)) e0 e3
  · exact va_neR (B.nl9 16 (w := (Jvm.Cond.not (Jvm.Cond.eq (Jvm.Term.static "ShorthandRules$Kind" "CHOICE" "LShorthandRules$Kind;") (Jvm.Term.static "ShorthandRules$Kind" "DATE" "LShorthandRules$Kind;")))) (by decide +kernel)) e1 e2
  · exact va_neR (B.nl9 20 (w := (Jvm.Cond.not (Jvm.Cond.eq (Jvm.Term.static "ShorthandRules$Kind" "CHOICE" "LShorthandRules$Kind;") (Jvm.Term.static "ShorthandRules$Kind" "STOP" "LShorthandRules$Kind;")))) (by decide +kernel)) e1 e3
  · exact va_neR (B.nl9 21 (w := (Jvm.Cond.not (Jvm.Cond.eq (Jvm.Term.static "ShorthandRules$Kind" "DATE" "LShorthandRules$Kind;") (Jvm.Term.static "ShorthandRules$Kind" "STOP" "LShorthandRules$Kind;")))) (by decide +kernel)) e2 e3
theorem st_str (B : Bg A s) : ∃ f : Nat → Nat, (∀ q ∈ gstr, vk_R q.1 q.2.1 q.2.2.1 (f q.2.2.2) s) ∧ (Term.string RX0 41).eval A s none [] s = some (.ref (f 5)) := by
  obtain ⟨t10, e10⟩ := st_ev (B.nl9 351 (w := (Jvm.Cond.exactly (Jvm.Term.string "ShorthandRules" (137 : Nat)) "java/lang/String")) (by decide +kernel))
  obtain ⟨t11, e11⟩ := st_ev (B.nl9 397 (w := (Jvm.Cond.exactly (Jvm.Term.string "ShorthandRules" (140 : Nat)) "java/lang/String")) (by decide +kernel))
  obtain ⟨t12, e12⟩ := st_ev (B.nl9 430 (w := (Jvm.Cond.exactly (Jvm.Term.string "ShorthandRules" (160 : Nat)) "java/lang/String")) (by decide +kernel))
  obtain ⟨t13, e13⟩ := st_ev (B.nl9 505 (w := (Jvm.Cond.exactly (Jvm.Term.string "ShorthandRules" (175 : Nat)) "java/lang/String")) (by decide +kernel))
  obtain ⟨t14, e14⟩ := st_ev (B.nl9 546 (w := (Jvm.Cond.exactly (Jvm.Term.string "ShorthandRules" (185 : Nat)) "java/lang/String")) (by decide +kernel))
  obtain ⟨t15, e15⟩ := st_ev (B.nl9 583 (w := (Jvm.Cond.exactly (Jvm.Term.string "ShorthandRules" (203 : Nat)) "java/lang/String")) (by decide +kernel))
  obtain ⟨t16, e16⟩ := st_ev (B.nl9 627 (w := (Jvm.Cond.exactly (Jvm.Term.string "ShorthandRules" (206 : Nat)) "java/lang/String")) (by decide +kernel))
  obtain ⟨t17, e17⟩ := st_ev (B.nl9 671 (w := (Jvm.Cond.exactly (Jvm.Term.string "ShorthandRules" (221 : Nat)) "java/lang/String")) (by decide +kernel))
  obtain ⟨t18, e18⟩ := st_ev (B.nl9 724 (w := (Jvm.Cond.exactly (Jvm.Term.string "ShorthandRules" (226 : Nat)) "java/lang/String")) (by decide +kernel))
  obtain ⟨t19, e19⟩ := st_ev (B.nl9 779 (w := (Jvm.Cond.exactly (Jvm.Term.string "ShorthandRules" (229 : Nat)) "java/lang/String")) (by decide +kernel))
  obtain ⟨t20, e20⟩ := st_ev (B.nl9 816 (w := (Jvm.Cond.exactly (Jvm.Term.string "ShorthandRules" (234 : Nat)) "java/lang/String")) (by decide +kernel))
  obtain ⟨t21, e21⟩ := st_ev (B.nl9 864 (w := (Jvm.Cond.exactly (Jvm.Term.string "ShorthandRules" (246 : Nat)) "java/lang/String")) (by decide +kernel))
  obtain ⟨t22, e22⟩ := st_ev (B.nl9 98 (w := (Jvm.Cond.exactly (Jvm.Term.string "ShorthandRules" (248 : Nat)) "java/lang/String")) (by decide +kernel))
  obtain ⟨t23, e23⟩ := st_ev (B.nl9 151 (w := (Jvm.Cond.exactly (Jvm.Term.string "ShorthandRules" (257 : Nat)) "java/lang/String")) (by decide +kernel))
  obtain ⟨t24, e24⟩ := st_ev (B.nl9 309 (w := (Jvm.Cond.exactly (Jvm.Term.string "ShorthandRules" (261 : Nat)) "java/lang/String")) (by decide +kernel))
  obtain ⟨t25, e25⟩ := st_ev (B.nl9 221 (w := (Jvm.Cond.exactly (Jvm.Term.string "ShorthandRules" (267 : Nat)) "java/lang/String")) (by decide +kernel))
  obtain ⟨t26, e26⟩ := st_ev (B.nl9 250 (w := (Jvm.Cond.exactly (Jvm.Term.string "ShorthandRules" (275 : Nat)) "java/lang/String")) (by decide +kernel))
  obtain ⟨t27, e27⟩ := st_ev (B.nl9 126 (w := (Jvm.Cond.exactly (Jvm.Term.string "ShorthandRules" (67 : Nat)) "java/lang/String")) (by decide +kernel))
  obtain ⟨t28, e28⟩ := st_ev (B.nl9 186 (w := (Jvm.Cond.exactly (Jvm.Term.string "ShorthandRules" (99 : Nat)) "java/lang/String")) (by decide +kernel))
  obtain ⟨t5, e5⟩ := st_ev (B.nl9 477 (w := (Jvm.Cond.exactly (Jvm.Term.string "ShorthandRules$Gift" (41 : Nat)) "java/lang/String")) (by decide +kernel))
  refine ⟨fun n => [0, 0, 0, 0, 0, t5, 0, 0, 0, 0, t10, t11, t12, t13, t14, t15, t16, t17, t18, t19, t20, t21, t22, t23, t24, t25, t26, t27, t28].getD n 0, ?_, e5⟩
  exact List.forall_mem_cons.mpr ⟨vk_R.of (B.tb9 695 (w := (Jvm.Cond.stringRef "ShorthandRules" (137 : Nat) "the days are not between -99 and 99")) (by decide +kernel)) e10, List.forall_mem_cons.mpr ⟨vk_R.of (B.tb9 696 (w := (Jvm.Cond.stringRef "ShorthandRules" (140 : Nat) "there is no such form")) (by decide +kernel)) e11, List.forall_mem_cons.mpr ⟨vk_R.of (B.tb9 731 (w := (Jvm.Cond.stringRef "ShorthandRules" (160 : Nat) "the day is not between 99 and 9999")) (by decide +kernel)) e12, List.forall_mem_cons.mpr ⟨vk_R.of (B.tb9 837 (w := (Jvm.Cond.stringRef "ShorthandRules" (175 : Nat) "there is no such character")) (by decide +kernel)) e13, List.forall_mem_cons.mpr ⟨vk_R.of (B.tb9 858 (w := (Jvm.Cond.stringRef "ShorthandRules" (185 : Nat) "there is no such stop")) (by decide +kernel)) e14, List.forall_mem_cons.mpr ⟨vk_R.of (B.tb9 887 (w := (Jvm.Cond.stringRef "ShorthandRules" (203 : Nat) "the snippet is not shadowed")) (by decide +kernel)) e15, List.forall_mem_cons.mpr ⟨vk_R.of (B.tb9 895 (w := (Jvm.Cond.stringRef "ShorthandRules" (206 : Nat) "the text has 80 characters")) (by decide +kernel)) e16, List.forall_mem_cons.mpr ⟨vk_R.of (B.tb9 943 (w := (Jvm.Cond.stringRef "ShorthandRules" (221 : Nat) "no character is ahead of the caret")) (by decide +kernel)) e17, List.forall_mem_cons.mpr ⟨vk_R.of (B.tb9 955 (w := (Jvm.Cond.stringRef "ShorthandRules" (226 : Nat) "the caret would be outside the text")) (by decide +kernel)) e18, List.forall_mem_cons.mpr ⟨vk_R.of (B.tb9 963 (w := (Jvm.Cond.stringRef "ShorthandRules" (229 : Nat) "there is no stop")) (by decide +kernel)) e19, List.forall_mem_cons.mpr ⟨vk_R.of (B.tb9 972 (w := (Jvm.Cond.stringRef "ShorthandRules" (234 : Nat) "no expansion can be undone")) (by decide +kernel)) e20, List.forall_mem_cons.mpr ⟨vk_R.of (B.tb9 994 (w := (Jvm.Cond.stringRef "ShorthandRules" (246 : Nat) "there was no expansion")) (by decide +kernel)) e21, List.forall_mem_cons.mpr ⟨vk_R.of (B.tb9 251 (w := (Jvm.Cond.stringRef "ShorthandRules" (248 : Nat) "there is no such snippet")) (by decide +kernel)) e22, List.forall_mem_cons.mpr ⟨vk_R.of (B.tb9 522 (w := (Jvm.Cond.stringRef "ShorthandRules" (257 : Nat) "the character cannot be typed")) (by decide +kernel)) e23, List.forall_mem_cons.mpr ⟨vk_R.of (B.tb9 674 (w := (Jvm.Cond.stringRef "ShorthandRules" (261 : Nat) "the snippet would come to itself")) (by decide +kernel)) e24, List.forall_mem_cons.mpr ⟨vk_R.of (B.tb9 603 (w := (Jvm.Cond.stringRef "ShorthandRules" (267 : Nat) "the body has 12 parts")) (by decide +kernel)) e25, List.forall_mem_cons.mpr ⟨vk_R.of (B.tb9 648 (w := (Jvm.Cond.stringRef "ShorthandRules" (275 : Nat) "the size of some snippet would be greater than 200")) (by decide +kernel)) e26, List.forall_mem_cons.mpr ⟨vk_R.of (B.tb9 392 (w := (Jvm.Cond.stringRef "ShorthandRules" (67 : Nat) "there are 8 snippets")) (by decide +kernel)) e27, List.forall_mem_cons.mpr ⟨vk_R.of (B.tb9 533 (w := (Jvm.Cond.stringRef "ShorthandRules" (99 : Nat) "the trigger has 6 characters")) (by decide +kernel)) e28, List.forall_mem_cons.mpr ⟨vk_R.of (B.tb9 772 (w := (Jvm.Cond.stringRef "ShorthandRules$Gift" (41 : Nat) "motuwethfrsasu")) (by decide +kernel)) e5, fun _ h => nomatch h⟩⟩⟩⟩⟩⟩⟩⟩⟩⟩⟩⟩⟩⟩⟩⟩⟩⟩⟩⟩
theorem st_week (B : Bg A s) {a : Nat} (e5 : (Term.string RX0 41).eval A s none [] s = some (.ref a)) : ∃ v : Nat, ∀ S : Nat → Prop, (∀ a : Nat, a < s.heap.size → ¬ S a) → va_O "java/lang/String" a S s s.heap ∧ va_OF "java/lang/String" "coder" "B" (.int 0) a S s s.heap ∧ va_OF "java/lang/String" "value" "[B" (.ref v) a S s s.heap ∧ va_T .byte v 14 (fun j => .int (wkB.getD j 0)) S s s.heap := by
  have x1 := (B.nl9 477 (w := (Jvm.Cond.exactly (Jvm.Term.string "ShorthandRules$Gift" (41 : Nat)) "java/lang/String")) (by decide +kernel))
  have x2 := (B.nl9 478 (w := (Jvm.Cond.eq (Jvm.Term.field (Jvm.Term.string "ShorthandRules$Gift" (41 : Nat)) "java/lang/String" "coder" "B") (Jvm.Term.int (0 : Int32)))) (by decide +kernel))
  have x3 := (B.nl9 479 (w := (Jvm.Cond.arrayOf (Jvm.Term.field (Jvm.Term.string "ShorthandRules$Gift" (41 : Nat)) "java/lang/String" "value" "[B") Jvm.ClassFile.FieldType.byte)) (by decide +kernel))
  have x4 := (B.nl9 480 (w := (Jvm.Cond.eq (Jvm.Term.length (Jvm.Term.field (Jvm.Term.string "ShorthandRules$Gift" (41 : Nat)) "java/lang/String" "value" "[B")) (Jvm.Term.int (14 : Int32)))) (by decide +kernel))
  have hel : ∀ j : Nat, j < 14 → (Term.elem (Jvm.Term.field (Jvm.Term.string "ShorthandRules$Gift" (41 : Nat)) "java/lang/String" "value" "[B") (.int (Int32.ofNat j))).eval A s none [] s = some (.int (wkB.getD j 0)) := by
    intro j hj
    match j, hj with
    | 0, _ => exact va_eqt (B.nl9 481 (w := (Jvm.Cond.eq (Jvm.Term.elem (Jvm.Term.field (Jvm.Term.string "ShorthandRules$Gift" (41 : Nat)) "java/lang/String" "value" "[B") (Jvm.Term.int (0 : Int32))) (Jvm.Term.int (109 : Int32)))) (by decide +kernel))
    | 1, _ => exact va_eqt (B.nl9 482 (w := (Jvm.Cond.eq (Jvm.Term.elem (Jvm.Term.field (Jvm.Term.string "ShorthandRules$Gift" (41 : Nat)) "java/lang/String" "value" "[B") (Jvm.Term.int (1 : Int32))) (Jvm.Term.int (111 : Int32)))) (by decide +kernel))
    | 2, _ => exact va_eqt (B.nl9 483 (w := (Jvm.Cond.eq (Jvm.Term.elem (Jvm.Term.field (Jvm.Term.string "ShorthandRules$Gift" (41 : Nat)) "java/lang/String" "value" "[B") (Jvm.Term.int (2 : Int32))) (Jvm.Term.int (116 : Int32)))) (by decide +kernel))
    | 3, _ => exact va_eqt (B.nl9 484 (w := (Jvm.Cond.eq (Jvm.Term.elem (Jvm.Term.field (Jvm.Term.string "ShorthandRules$Gift" (41 : Nat)) "java/lang/String" "value" "[B") (Jvm.Term.int (3 : Int32))) (Jvm.Term.int (117 : Int32)))) (by decide +kernel))
    | 4, _ => exact va_eqt (B.nl9 485 (w := (Jvm.Cond.eq (Jvm.Term.elem (Jvm.Term.field (Jvm.Term.string "ShorthandRules$Gift" (41 : Nat)) "java/lang/String" "value" "[B") (Jvm.Term.int (4 : Int32))) (Jvm.Term.int (119 : Int32)))) (by decide +kernel))
    | 5, _ => exact va_eqt (B.nl9 486 (w := (Jvm.Cond.eq (Jvm.Term.elem (Jvm.Term.field (Jvm.Term.string "ShorthandRules$Gift" (41 : Nat)) "java/lang/String" "value" "[B") (Jvm.Term.int (5 : Int32))) (Jvm.Term.int (101 : Int32)))) (by decide +kernel))
    | 6, _ => exact va_eqt (B.nl9 487 (w := (Jvm.Cond.eq (Jvm.Term.elem (Jvm.Term.field (Jvm.Term.string "ShorthandRules$Gift" (41 : Nat)) "java/lang/String" "value" "[B") (Jvm.Term.int (6 : Int32))) (Jvm.Term.int (116 : Int32)))) (by decide +kernel))
    | 7, _ => exact va_eqt (B.nl9 488 (w := (Jvm.Cond.eq (Jvm.Term.elem (Jvm.Term.field (Jvm.Term.string "ShorthandRules$Gift" (41 : Nat)) "java/lang/String" "value" "[B") (Jvm.Term.int (7 : Int32))) (Jvm.Term.int (104 : Int32)))) (by decide +kernel))
    | 8, _ => exact va_eqt (B.nl9 489 (w := (Jvm.Cond.eq (Jvm.Term.elem (Jvm.Term.field (Jvm.Term.string "ShorthandRules$Gift" (41 : Nat)) "java/lang/String" "value" "[B") (Jvm.Term.int (8 : Int32))) (Jvm.Term.int (102 : Int32)))) (by decide +kernel))
    | 9, _ => exact va_eqt (B.nl9 490 (w := (Jvm.Cond.eq (Jvm.Term.elem (Jvm.Term.field (Jvm.Term.string "ShorthandRules$Gift" (41 : Nat)) "java/lang/String" "value" "[B") (Jvm.Term.int (9 : Int32))) (Jvm.Term.int (114 : Int32)))) (by decide +kernel))
    | 10, _ => exact va_eqt (B.nl9 491 (w := (Jvm.Cond.eq (Jvm.Term.elem (Jvm.Term.field (Jvm.Term.string "ShorthandRules$Gift" (41 : Nat)) "java/lang/String" "value" "[B") (Jvm.Term.int (10 : Int32))) (Jvm.Term.int (115 : Int32)))) (by decide +kernel))
    | 11, _ => exact va_eqt (B.nl9 492 (w := (Jvm.Cond.eq (Jvm.Term.elem (Jvm.Term.field (Jvm.Term.string "ShorthandRules$Gift" (41 : Nat)) "java/lang/String" "value" "[B") (Jvm.Term.int (11 : Int32))) (Jvm.Term.int (97 : Int32)))) (by decide +kernel))
    | 12, _ => exact va_eqt (B.nl9 493 (w := (Jvm.Cond.eq (Jvm.Term.elem (Jvm.Term.field (Jvm.Term.string "ShorthandRules$Gift" (41 : Nat)) "java/lang/String" "value" "[B") (Jvm.Term.int (12 : Int32))) (Jvm.Term.int (115 : Int32)))) (by decide +kernel))
    | 13, _ => exact va_eqt (B.nl9 494 (w := (Jvm.Cond.eq (Jvm.Term.elem (Jvm.Term.field (Jvm.Term.string "ShorthandRules$Gift" (41 : Nat)) "java/lang/String" "value" "[B") (Jvm.Term.int (13 : Int32))) (Jvm.Term.int (117 : Int32)))) (by decide +kernel))
    | j + 14, hj => exact absurd hj (by omega)
  obtain ⟨v, hv, -⟩ := va_Tof (N := 14) (f := fun j => .int (wkB.getD j 0)) (A := fun _ => False) (by decide) x3 (va_eqt x4) hel (fun _ _ h => h)
  refine ⟨v, fun S hA => ⟨va_Oof x1 e5 hA, vk_OFof e5 (va_eqt x2) hA, vk_OFof e5 hv hA, ?_⟩⟩
  obtain ⟨v2, hv2, hT⟩ := va_Tof (N := 14) (f := fun j => .int (wkB.getD j 0)) (A := S) (by decide) x3 (va_eqt x4) hel hA
  cases hv.symm.trans hv2
  exact hT
theorem st_emp (B : Bg A s) : ∃ v : Nat, ∀ S : Nat → Prop, (∀ a : Nat, a < s.heap.size → ¬ S a) → va_Z RJx4a65c "DEFAULTCAPACITY_EMPTY_ELEMENTDATA" "[Ljava/lang/Object;" (.ref v) S s s.heap ∧ va_T (.object "java/lang/Object") v 0 (fun _ => .null) S s s.heap := by
  have x3 := (B.nl9 3 (w := (Jvm.Cond.arrayOf (Jvm.Term.static "java/util/ArrayList" "DEFAULTCAPACITY_EMPTY_ELEMENTDATA" "[Ljava/lang/Object;") (Jvm.ClassFile.FieldType.object "java/lang/Object"))) (by decide +kernel))
  have x4 := (B.nl9 5 (w := (Jvm.Cond.eq (Jvm.Term.length (Jvm.Term.static "java/util/ArrayList" "DEFAULTCAPACITY_EMPTY_ELEMENTDATA" "[Ljava/lang/Object;")) (Jvm.Term.int (0 : Int32)))) (by decide +kernel))
  obtain ⟨v, hv, -⟩ := va_Tof (N := 0) (f := fun _ => .null) (A := fun _ => False) (by decide) x3 (va_eqt x4) (fun j hj => absurd hj (Nat.not_lt_zero j)) (fun _ _ h => h)
  refine ⟨v, fun S hA => ⟨va_Zof (B.tb9 52 (w := (Jvm.Cond.laysStatic "java/util/ArrayList" "DEFAULTCAPACITY_EMPTY_ELEMENTDATA" "[Ljava/lang/Object;")) (by decide +kernel)) (B.tb9 4 (w := (Jvm.Cond.initialized "java/util/ArrayList")) (by decide +kernel)) hv hA, ?_⟩⟩
  obtain ⟨v2, hv2, hT⟩ := va_Tof (N := 0) (f := fun _ => .null) (A := S) (by decide) x3 (va_eqt x4) (fun j hj => absurd hj (Nat.not_lt_zero j)) hA
  cases hv.symm.trans hv2
  exact hT
theorem st_nc (B : Bg A s) : ∀ q ∈ gnc, va_Nc q.1 q.2 s := by
  exact List.forall_mem_cons.mpr ⟨va_Nc.of (B.nl9 50 (w := (Jvm.Cond.not (Jvm.Cond.castable "java/lang/IllegalArgumentException" "java/lang/IndexOutOfBoundsException"))) (by decide +kernel)), List.forall_mem_cons.mpr ⟨va_Nc.of (B.nl9 48 (w := (Jvm.Cond.not (Jvm.Cond.castable "java/lang/IllegalStateException" "java/lang/IndexOutOfBoundsException"))) (by decide +kernel)), List.forall_mem_cons.mpr ⟨va_Nc.of (B.nl9 62 (w := (Jvm.Cond.not (Jvm.Cond.castable "java/lang/IllegalStateException" "java/lang/IllegalArgumentException"))) (by decide +kernel)), List.forall_mem_cons.mpr ⟨va_Nc.of (B.nl9 53 (w := (Jvm.Cond.not (Jvm.Cond.castable "java/lang/UnsupportedOperationException" "java/lang/IndexOutOfBoundsException"))) (by decide +kernel)), List.forall_mem_cons.mpr ⟨va_Nc.of (B.nl9 76 (w := (Jvm.Cond.not (Jvm.Cond.castable "java/lang/IllegalStateException" "java/lang/UnsupportedOperationException"))) (by decide +kernel)), List.forall_mem_cons.mpr ⟨va_Nc.of (B.nl9 54 (w := (Jvm.Cond.not (Jvm.Cond.castable "java/util/NoSuchElementException" "java/lang/IndexOutOfBoundsException"))) (by decide +kernel)), fun _ h => nomatch h⟩⟩⟩⟩⟩⟩
theorem st_kc (B : Bg A s) : ∃ ad : Nat → Nat, ∀ (l : Launch) (cC : Nat → ClassId) (iS : Nat → Nat → Nat) (dA : Nat → ClassId), KC (l, cC, iS, dA, ad, s.heap.size) s s.heap := by
  obtain ⟨k0, k1, k2, k3, hk, n01, n02, n03, n12, n13, n23⟩ := st_kind B
  obtain ⟨v4, h4⟩ := st_emp B
  obtain ⟨f, hf, e5⟩ := st_str B
  obtain ⟨v6, h6⟩ := st_week B e5
  obtain ⟨v7, h7⟩ := va_Mi.of (B.nl9 97 (w := (Jvm.Cond.isRef (Jvm.Term.mirror "[Ljava/lang/Object;"))) (by decide +kernel))
  refine ⟨fun n => match n with | 0 => k0 | 1 => k1 | 2 => k2 | 3 => k3 | 4 => v4 | 6 => v6 | 7 => v7 | n => f n, fun l cC iS dA => ?_⟩
  have hA : ∀ a : Nat, a < s.heap.size → ¬ s.heap.size ≤ a := fun a ha h => absurd h (Nat.not_le.mpr ha)
  obtain ⟨z0, z1, z2, z3⟩ := hk (fun a => s.heap.size ≤ a) hA
  obtain ⟨y1, y2⟩ := h4 (fun a => s.heap.size ≤ a) hA
  refine ⟨fun i hi => ?_, y1, y2, ?_, ?_, ?_, h6 (fun a => s.heap.size ≤ a) hA, ?_, h7, fun i j hi hj h => ?_, st_nc B, ?_⟩
  · match i, hi with
    | 0, _ => exact z0
    | 1, _ => exact z1
    | 2, _ => exact z2
    | 3, _ => exact z3
    | i + 4, hi => exact absurd hi (by omega)
  · exact vx_Zqof (B.tb9 235 (w := (Jvm.Cond.laysStatic "java/lang/Throwable" "UNASSIGNED_STACK" "[Ljava/lang/StackTraceElement;")) (by decide +kernel)) (B.tb9 11 (w := (Jvm.Cond.initialized "java/lang/Throwable")) (by decide +kernel)) (B.nl9 6 (w := (Jvm.Cond.isRef (Jvm.Term.static "java/lang/Throwable" "UNASSIGNED_STACK" "[Ljava/lang/StackTraceElement;"))) (by decide +kernel)) hA
  · exact vx_Zqof (B.tb9 237 (w := (Jvm.Cond.laysStatic "java/lang/Throwable" "SUPPRESSED_SENTINEL" "Ljava/util/List;")) (by decide +kernel)) (B.tb9 11 (w := (Jvm.Cond.initialized "java/lang/Throwable")) (by decide +kernel)) (B.nl9 7 (w := (Jvm.Cond.isRef (Jvm.Term.static "java/lang/Throwable" "SUPPRESSED_SENTINEL" "Ljava/util/List;"))) (by decide +kernel)) hA
  · obtain ⟨r0, r1, r2, r3, r4, r5, r6, r7, r8, r9, r10, r11, r12, r13, r14, r15, r16, r17, r18, r19, -⟩ : vk_R RX7 137 "the days are not between -99 and 99" (f 10) s ∧ vk_R RX7 140 "there is no such form" (f 11) s ∧ vk_R RX7 160 "the day is not between 99 and 9999" (f 12) s ∧ vk_R RX7 175 "there is no such character" (f 13) s ∧ vk_R RX7 185 "there is no such stop" (f 14) s ∧ vk_R RX7 203 "the snippet is not shadowed" (f 15) s ∧ vk_R RX7 206 "the text has 80 characters" (f 16) s ∧ vk_R RX7 221 "no character is ahead of the caret" (f 17) s ∧ vk_R RX7 226 "the caret would be outside the text" (f 18) s ∧ vk_R RX7 229 "there is no stop" (f 19) s ∧ vk_R RX7 234 "no expansion can be undone" (f 20) s ∧ vk_R RX7 246 "there was no expansion" (f 21) s ∧ vk_R RX7 248 "there is no such snippet" (f 22) s ∧ vk_R RX7 257 "the character cannot be typed" (f 23) s ∧ vk_R RX7 261 "the snippet would come to itself" (f 24) s ∧ vk_R RX7 267 "the body has 12 parts" (f 25) s ∧ vk_R RX7 275 "the size of some snippet would be greater than 200" (f 26) s ∧ vk_R RX7 67 "there are 8 snippets" (f 27) s ∧ vk_R RX7 99 "the trigger has 6 characters" (f 28) s ∧ vk_R RX0 41 "motuwethfrsasu" (f 5) s ∧ True := by
      refine ⟨?_, ?_, ?_, ?_, ?_, ?_, ?_, ?_, ?_, ?_, ?_, ?_, ?_, ?_, ?_, ?_, ?_, ?_, ?_, ?_, trivial⟩
      · exact hf (RX7, 137, "the days are not between -99 and 99", 10) (List.mem_of_getElem? (i := 0) rfl)
      · exact hf (RX7, 140, "there is no such form", 11) (List.mem_of_getElem? (i := 1) rfl)
      · exact hf (RX7, 160, "the day is not between 99 and 9999", 12) (List.mem_of_getElem? (i := 2) rfl)
      · exact hf (RX7, 175, "there is no such character", 13) (List.mem_of_getElem? (i := 3) rfl)
      · exact hf (RX7, 185, "there is no such stop", 14) (List.mem_of_getElem? (i := 4) rfl)
      · exact hf (RX7, 203, "the snippet is not shadowed", 15) (List.mem_of_getElem? (i := 5) rfl)
      · exact hf (RX7, 206, "the text has 80 characters", 16) (List.mem_of_getElem? (i := 6) rfl)
      · exact hf (RX7, 221, "no character is ahead of the caret", 17) (List.mem_of_getElem? (i := 7) rfl)
      · exact hf (RX7, 226, "the caret would be outside the text", 18) (List.mem_of_getElem? (i := 8) rfl)
      · exact hf (RX7, 229, "there is no stop", 19) (List.mem_of_getElem? (i := 9) rfl)
      · exact hf (RX7, 234, "no expansion can be undone", 20) (List.mem_of_getElem? (i := 10) rfl)
      · exact hf (RX7, 246, "there was no expansion", 21) (List.mem_of_getElem? (i := 11) rfl)
      · exact hf (RX7, 248, "there is no such snippet", 22) (List.mem_of_getElem? (i := 12) rfl)
      · exact hf (RX7, 257, "the character cannot be typed", 23) (List.mem_of_getElem? (i := 13) rfl)
      · exact hf (RX7, 261, "the snippet would come to itself", 24) (List.mem_of_getElem? (i := 14) rfl)
      · exact hf (RX7, 267, "the body has 12 parts", 25) (List.mem_of_getElem? (i := 15) rfl)
      · exact hf (RX7, 275, "the size of some snippet would be greater than 200", 26) (List.mem_of_getElem? (i := 16) rfl)
      · exact hf (RX7, 67, "there are 8 snippets", 27) (List.mem_of_getElem? (i := 17) rfl)
      · exact hf (RX7, 99, "the trigger has 6 characters", 28) (List.mem_of_getElem? (i := 18) rfl)
      · exact hf (RX0, 41, "motuwethfrsasu", 5) (List.mem_of_getElem? (i := 19) rfl)
    exact List.forall_mem_cons.mpr ⟨r0, List.forall_mem_cons.mpr ⟨r1, List.forall_mem_cons.mpr ⟨r2, List.forall_mem_cons.mpr ⟨r3, List.forall_mem_cons.mpr ⟨r4, List.forall_mem_cons.mpr ⟨r5, List.forall_mem_cons.mpr ⟨r6, List.forall_mem_cons.mpr ⟨r7, List.forall_mem_cons.mpr ⟨r8, List.forall_mem_cons.mpr ⟨r9, List.forall_mem_cons.mpr ⟨r10, List.forall_mem_cons.mpr ⟨r11, List.forall_mem_cons.mpr ⟨r12, List.forall_mem_cons.mpr ⟨r13, List.forall_mem_cons.mpr ⟨r14, List.forall_mem_cons.mpr ⟨r15, List.forall_mem_cons.mpr ⟨r16, List.forall_mem_cons.mpr ⟨r17, List.forall_mem_cons.mpr ⟨r18, List.forall_mem_cons.mpr ⟨r19, fun _ h => nomatch h⟩⟩⟩⟩⟩⟩⟩⟩⟩⟩⟩⟩⟩⟩⟩⟩⟩⟩⟩⟩
  · exact va_Zof (B.tb9 782 (w := (Jvm.Cond.laysStatic "java/lang/String" "COMPACT_STRINGS" "Z")) (by decide +kernel)) (B.tb9 27 (w := (Jvm.Cond.initialized "java/lang/String")) (by decide +kernel)) (va_eqi (B.nl9 22 (w := (Jvm.Cond.eq (Jvm.Term.static "java/lang/String" "COMPACT_STRINGS" "Z") (Jvm.Term.int (1 : Int32)))) (by decide +kernel))) hA
  · match i, j, hi, hj, h with
    | 0, 0, _, _, _ => exact rfl
    | 0, 1, _, _, h => exact absurd h n01
    | 0, 2, _, _, h => exact absurd h n02
    | 0, 3, _, _, h => exact absurd h n03
    | 1, 0, _, _, h => exact absurd h.symm n01
    | 1, 1, _, _, _ => exact rfl
    | 1, 2, _, _, h => exact absurd h n12
    | 1, 3, _, _, h => exact absurd h n13
    | 2, 0, _, _, h => exact absurd h.symm n02
    | 2, 1, _, _, h => exact absurd h.symm n12
    | 2, 2, _, _, _ => exact rfl
    | 2, 3, _, _, h => exact absurd h n23
    | 3, 0, _, _, h => exact absurd h.symm n03
    | 3, 1, _, _, h => exact absurd h.symm n13
    | 3, 2, _, _, h => exact absurd h.symm n23
    | 3, 3, _, _, _ => exact rfl
    | i + 4, _, hi, _, _ => exact absurd hi (by omega)
    | 0, j + 4, _, hj, _ => exact absurd hj (by omega)
    | 1, j + 4, _, hj, _ => exact absurd hj (by omega)
    | 2, j + 4, _, hj, _ => exact absurd hj (by omega)
    | 3, j + 4, _, hj, _ => exact absurd hj (by omega)
  · exact va_Zqof (B.tb9 798 (w := (Jvm.Cond.laysStatic "jdk/internal/util/Preconditions" "SIOOBE_FORMATTER" "Ljava/util/function/BiFunction;")) (by decide +kernel)) (B.tb9 21 (w := (Jvm.Cond.initialized "jdk/internal/util/Preconditions")) (by decide +kernel)) (B.nl9 23 (w := (Jvm.Cond.isRef (Jvm.Term.static "jdk/internal/util/Preconditions" "SIOOBE_FORMATTER" "Ljava/util/function/BiFunction;"))) (by decide +kernel)) hA
theorem st_kn (l : Launch) (B : Bg A s) : ∃ D : DD, D.1 = l ∧ dLo D = s.heap.size ∧ Kn D s := by
  obtain ⟨cC, iS, hc⟩ := st_cls B
  obtain ⟨dA, ha⟩ := st_arr B
  obtain ⟨ad, hk⟩ := st_kc B
  exact ⟨(l, cC, iS, dA, ad, s.heap.size), rfl, rfl, ⟨hc, ha⟩, fun w hw A1 => kw_warm (kw_ok hw) (State.WarmedH.refl s) (B.kw9 w hw), hk l cC iS dA, Nat.le_refl _⟩
end START
/-- from the entry, for every script of at most 2048 ints, the law comes to its end with true -/
theorem whole_start {p : Program} {e : Env} {s : State} {m : MethodId} {below : List Frame} {meth : Method} {c : Code} (l : Launch) (hflags : l.flags = flags0) {b L : Nat} {xs : Nat → Int32} (hL : L ≤ 2048) (htab : ∀ x ∈ c.exceptionTable.toList, False) (C0 : lw_At p s m meth c b L xs) : W p l e room_1 s m #[Value.ref b] below meth c s.heap [] 0 0 (lw_Z below #[Value.ref b] s) (entryFrame m ([Value.ref b] : List Value).toArray 8) := by
  obtain ⟨hx, hbd, hret, hml, hown, hts, hX, hbl, hlk, hgv⟩ := C0
  have hn : ∀ w ∈ flatC narrow_1, w.before #[Value.ref b] s = true := flat_of_before narrow_1 (by
    rw [Cond.before_and, Bool.and_eq_true] at hgv
    exact hgv.2)
  obtain ⟨D, hD1, hD2, hKn⟩ := st_kn (A := #[Value.ref b]) l ⟨hts, hn⟩
  have hst : l.stackTraces = false := by
    show (!l.flags.contains noTraceFlag) = false
    rw [hflags]
    decide +kernel
  have M : Mach (KP p l e room_1 s m #[Value.ref b] below meth c (lw_Z below #[Value.ref b] s) D) (KXP p l e room_1 s m #[Value.ref b] below meth c (lw_Z below #[Value.ref b] s) D) D RL "" cL_law 8 2048 601024 7293034 [] none :=
    ⟨p, l, e, room_1, s, m, #[Value.ref b], below, meth, c, lw_Z below #[Value.ref b] s, ⟨hx, hbd, hown, hlk, hD1.symm, hst, hKn, Or.inl rfl⟩, hml, ⟨rfl, by decide, rfl, rfl⟩, List.eq_nil_iff_forall_not_mem.mpr fun x hx => htab x hx, rfl, rfl, fun q hq => by cases hq⟩
  have hbA : ¬ dS D b := fun z => by
    have z1 : s.heap.size ≤ b := by rw [← hD2]; exact z
    exact absurd hbl (Nat.not_lt.mpr z1)
  have S : LWk (KP p l e room_1 s m #[Value.ref b] below meth c (lw_Z below #[Value.ref b] s) D) (KXP p l e room_1 s m #[Value.ref b] below meth c (lw_Z below #[Value.ref b] s) D) D 601024 7293034 b L (fun j => (xs j.toNat).toInt) := by
    refine ⟨M, fun {pc ls st h a b1 j} d hj kk => ?_, fun {pc ls st h a b1} d kk => ?_, fun j => ⟨Int32.le_toInt _, Int32.toInt_lt _⟩⟩
    · intro H locs LS hR hS hLv
      have h9 := kk H locs LS hR hS hLv
      have e9 : tv (gI (xs j.toNat).toInt) = .int (xs j.toNat) := congrArg Value.int (Int32.ofInt_toInt _)
      rw [List.map_cons, e9] at h9
      refine va_sld hx hbd hX hbl hbA hS (i32_in hj.1 (by omega) (by omega)) d ?_
      rw [i32_clamp hj.1 (by omega)]
      exact h9
    · intro H locs LS hR hS hLv
      have h9 := kk H locs LS hR hS hLv
      have e9 : tv (gI (L : Int)) = .int (Int32.ofNat L) := congrArg Value.int Int32.ofInt_eq_ofNat
      rw [List.map_cons, e9] at h9
      exact va_slen hx hbd hX hbl hbA hS d h9
  have HE : ∀ (ls : List (Option GV)) (h : GH) (a b1 : Nat), a ≤ 601024 → b1 ≤ 7293034 → KP p l e room_1 s m #[Value.ref b] below meth c (lw_Z below #[Value.ref b] s) D 2080 ls [] h a b1 := by
    intro ls h a b1 ha hb
    refine k_iconst M dL_law_2080 ?_
    intro H locs LS hR hS hLv
    refine va_forget (fun q hq => (by rw [← hD2]; exact hS.2.2 q hq)) ?_
    refine W.widen ha hb ?_
    refine W.base ?_
    exact lw_ret (Drawn.sameBut.refl s.drawn lw_cs) hx hbd hret hlk dL_law_2081
  have go := law_start S hL (Nat.le_of_ble_eq_true rfl) (Nat.le_of_ble_eq_true rfl) HE
  have hle := lv_entry [Value.ref b] (n := 8) (Nat.le_of_ble_eq_true rfl)
  rw [lg_entry_eq]
  refine go s.heap [] _ ⟨[], (fun k q h => by cases h), ⟨(fun i j p q h => by cases h), (fun k q h => by cases h)⟩, (fun a g h => by cases h)⟩ va_S.rf ⟨by rw [hml]; exact hle.1, hle.2.1, fun i v hv => ?_⟩
  rcases i with _ | i
  · have e := Option.some.inj (Option.some.inj hv)
    subst e
    exact ⟨hle.2.2 (0, .ref b) List.mem_cons_self, rfl⟩
  · rw [List.getElem?_cons_succ] at hv
    have := List.mem_of_getElem? hv
    simp at this
