section RW3
/-- what a call's entry in the pool of own says -/
def CB (own : String) (idx : Nat) (y : MethodName) (cc : ByteArray) (maxL : Nat) (ret : Option FieldType) (hh : List (Nat × Nat × Nat × Nat)) (n : Nat) : Prop := Cond.methodLink own idx y ∈ kwl ∧ gWs y cc maxL ret hh ∈ kwl ∧ Cond.initialized y.cls ∈ kwl ∧ (y.cls ≠ "java/lang/invoke/MethodHandle" ∧ y.cls ≠ "java/lang/invoke/VarHandle" ∧ (parseMethodDescriptor y.desc).map (fun d => d.parameters.length) = some n) ∧ maxL ≤ 21
def CV (own : String) (idx ci : Nat) (y : MethodName) (cc : ByteArray) (maxL : Nat) (ret : Option FieldType) (n : Nat) : Prop := CB own idx y cc maxL ret [] n ∧ Cond.instanceMethod y ∈ kwl ∧ Cond.selects y.cls y y ∈ kwl ∧ ∃ (T : u_T) (N : Nat), gcl[ci]? = some (y.cls, T, N)
def CSt (own : String) (idx : Nat) (y : MethodName) (cc : ByteArray) (maxL : Nat) (ret : Option FieldType) (hh : List (Nat × Nat × Nat × Nat)) (n : Nat) : Prop := CB own idx y cc maxL ret hh n ∧ Cond.static y ∈ kwl
def CI (own : String) (idx : Nat) (y : MethodName) (cc : ByteArray) (maxL : Nat) (n : Nat) : Prop := CB own idx y cc maxL none [] n ∧ y.name = "<init>" ∧ Cond.instanceMethod y ∈ kwl
def CIN (own : String) (idx : Nat) (y : MethodName) (cc : ByteArray) (maxL : Nat) (n : Nat) : Prop := (∃ host, Cond.methodLinkNest own idx y host ∈ kwl) ∧ gWs y cc maxL none [] ∈ kwl ∧ Cond.initialized y.cls ∈ kwl ∧ (y.cls ≠ "java/lang/invoke/MethodHandle" ∧ y.cls ≠ "java/lang/invoke/VarHandle" ∧ (parseMethodDescriptor y.desc).map (fun d => d.parameters.length) = some n) ∧ maxL ≤ 21 ∧ y.name = "<init>" ∧ Cond.instanceMethod y ∈ kwl
variable {K : Nat → List (Option GV) → List GV → GH → Nat → Nat → Prop} {KX : Nat → List (Option GV) → GH → Nat → Nat → String → Prop} {D : DD} {own mn : String} {cc : ByteArray} {nL dep mc ms : Nat} {hh : List (Nat × Nat × Nat × Nat)} {rp : Option (Option FieldType × (GO → GH → Prop))} {pc : Nat} {ls : List (Option GV)} {st : List GV} {h : GH} {a b : Nat}
variable {p : Program} {l : Launch} {e : Env} {R : Room} {s : State} {m : MethodId} {args : Array Value} {below : List Frame} {meth : Method} {c : Code} {Q : State → Prop}
theorem kw_gi {ws : Cond} (h : ws ∈ kwl) (hg : (ws.onTables && ws.keeps) = true) : GoodIn kwl [ws] := fun w hw => by
  rcases List.mem_singleton.mp hw with rfl
  exact ⟨h, Or.inl hg⟩
theorem gPc_blind {av : List GV} : FrameBlind (gPc D av h) := by
  intro a U g mk hq
  obtain ⟨h1, h2, h3⟩ := hq
  exact ⟨h1, h2, h3.go (H := U.heap) (locs := []) rfl (State.WarmedH.refl U) va_S.rf⟩
theorem gPc_at {H : Heap} {locs : List Loc} {av : List GV} (hKn : Kn D s) (hR : Rel D h H) (hS : va_S (dS D) s.heap H locs) : ∀ T : State, T.heap = H → s.WarmedH T.vm → gPc D av h (av.map tv).toArray T := fun T hT hW =>
  ⟨rfl, by rw [hT]; exact hR, hKn.go hT hW hS⟩
/-- behind a call -/
theorem g_after {H : Heap} {locs : List Loc} {LS : Array Slot} {mc1 ms1 : Nat} {post : GO → GH → Prop} {v : Array Value} {st0 : List Value} (hS : va_S (dS D) s.heap H locs) (hL : lvs ls LS c.maxLocals) (hr : vx_Run p l e R s m args below meth c H locs a b mc1 ms1 (F0 m pc LS st0) (st.map tv) (gQc D post v) (gXc D post) (dS D))
    (kk : ∀ (r : Option GV) (h1 : GH), post (.inl r) h1 → KP p l e R s m args below meth c Q D (pc + 3) ls (r.toList ++ st) h1 (a + mc1) (b + ms1)) (kx : ∀ (E : String) (h1 : GH), post (.inr E) h1 → KXP p l e R s m args below meth c Q D pc ls h1 (a + mc1) (b + ms1) E) :
    W p l e R s m args below meth c H locs a b Q (F0 m pc LS st0) := by
  intro T hT X
  rcases hr T hT X with ⟨v, st₀, t, T', L, h0, X', hL', e1, e2, ⟨r, h', hv, hp, hR', hF⟩, st9⟩ | ⟨q, st₀, t, T', L, E, ce, h0, X', hL', e1, e2, ⟨h', hp, hR', hF⟩, hce, hcv, hcl, st9⟩
  · cases hv
    obtain ⟨-, -, k3⟩ := vx_keep h0 e1 hS (fun _ _ h => h) (fun _ h => h) hL' hF
    obtain ⟨t2, a1, b1⟩ := kk r h' hp T'.heap (locs ++ L) LS (by rw [e1]; exact hR') k3 hL T' rfl X'
    refine ⟨t2, st9 t2 ?_, b1⟩
    cases r with
    | none => exact a1
    | some r => exact a1
  · obtain ⟨-, -, k3⟩ := vx_keep h0 e1 hS (fun _ _ h => h) (fun _ h => h) hL' hF
    obtain ⟨t2, a1, b1⟩ := kx E h' hp T'.heap (locs ++ L) LS q ce _ (by rw [e1]; exact hR') k3 hL (by rw [e1]; exact hce) hcv hcl T' rfl X'
    exact ⟨t2, st9.trans a1, b1⟩
theorem cat8 {LS : Array Slot} {st1 : List Value} (hs : (st.map gcat).sum ≤ 8) : 2 * (F0 m pc LS st1).monitorRoom + ((st.map tv).map fun v => v.category).sum ≤ 8 := by
  rw [tv_cats]
  show 2 * 0 + _ ≤ 8
  omega
theorem k_callV (S : Mach K KX D own mn cc nL dep mc ms hh rp) {idx ci n q dep1 mc1 ms1 maxL : Nat} {y : MethodName} {bytes : ByteArray} {ret : Option FieldType} {As stk : List GV} {fs : List GV} {post : GO → GH → Prop} (d : decode cc pc = .ok (.invokevirtual idx, 3)) (hw : CV own idx ci y bytes maxL ret n) (M : GMet D y bytes maxL ret [] dep1 mc1 ms1 (gR (some q) :: As) h post) (hh9 : h q = some (gObj ci fs)) (kk : ∀ (r : Option GV) (h1 : GH), post (.inl r) h1 → K (pc + 3) ls (r.toList ++ st) h1 (a + mc1) (b + ms1)) (kx : ∀ (E : String) (h1 : GH), post (.inr E) h1 → KX pc ls h1 (a + mc1) (b + ms1) E) (hsk : stk = As.reverse ++ gR (some q) :: st) (hn : As.length = n) (hd9 : dep1 < dep) (hc : a + mc1 ≤ mc) (hs : b + ms1 ≤ ms) (hs9 : (st.map gcat).sum ≤ 8) : K pc ls stk h a b := by
  obtain ⟨p, l, e, R, s, m, args, below, meth, c, Q, ⟨hx, hb, hown, hlk, hlD, hst, hKn, hmn⟩, hml, ⟨hRf, hRl, hRc, hRs⟩, htab, rfl, rfl, hrp⟩ := S
  intro H locs LS hR hS hL
  obtain ⟨⟨w1, w2, w3, w4, w5⟩, w6, w7, T, N, w8⟩ := hw
  subst hlD hsk
  obtain ⟨ws, k0, hP, hD, hall, hk0⟩ := hR.get hh9
  have hM := M hst
  have hts : ∀ w ∈ kwl, w.before args s = true := fun w hw => hKn.2.1 w hw args
  have hG : GoodIn kwl [gWs y bytes maxL ret []] := kw_gi w2 rfl
  have cw : CallW R s args own y.cls idx y bytes maxL ret [gWs y bytes maxL ret []] { frames := dep1, cells := mc1, slots := ms1, locals := 40 * dep1 } mc1 ms1 n :=
    ⟨callB_of n hts hG rfl rfl rfl (hts _ w3) (hts _ w1) w4 ⟨by show dep1 + 1 ≤ _; omega, by show 8 + (maxL + 11) + 40 * dep1 ≤ _; omega⟩, hts _ w6, hts _ w7⟩
  have hrun := vx_runV (e := e) (below := below) (meth := meth) (As := As.map tv) (rest := st.map tv) (b := q) (cells := a) (slots := b) (locs := locs) (H := H) (g := F0 m pc LS ((As.reverse ++ gR (some q) :: st).map tv)) ⟨hx, hb, hml, hown, hts⟩ hM cw ⟨gPc_blind, va_recv hKn.1 hP w8 hk0, gPc_at (av := gR (some q) :: As) hKn hR hS⟩ rfl (by simpa using hn) (by rw [← hml]; exact hL.1) (by simp [List.map_reverse, tv, va_rf]) (cat8 hs9) d ⟨by omega, by omega⟩
  exact g_after (st := st) hS hL hrun kk kx
theorem k_callS (S : Mach K KX D own mn cc nL dep mc ms hh rp) {idx n dep1 mc1 ms1 maxL : Nat} {y : MethodName} {bytes : ByteArray} {ret : Option FieldType} {As stk : List GV} {fs : List GV} {post : GO → GH → Prop} {hh1 : List (Nat × Nat × Nat × Nat)} (d : decode cc pc = .ok (.invokestatic idx, 3)) (hw : CSt own idx y bytes maxL ret hh1 n) (M : GMet D y bytes maxL ret hh1 dep1 mc1 ms1 As h post) (kk : ∀ (r : Option GV) (h1 : GH), post (.inl r) h1 → K (pc + 3) ls (r.toList ++ st) h1 (a + mc1) (b + ms1)) (kx : ∀ (E : String) (h1 : GH), post (.inr E) h1 → KX pc ls h1 (a + mc1) (b + ms1) E) (hsk : stk = As.reverse ++ st) (hn : As.length = n) (hd9 : dep1 < dep) (hc : a + mc1 ≤ mc) (hs : b + ms1 ≤ ms) (hs9 : (st.map gcat).sum ≤ 8) : K pc ls stk h a b := by
  obtain ⟨p, l, e, R, s, m, args, below, meth, c, Q, ⟨hx, hb, hown, hlk, hlD, hst, hKn, hmn⟩, hml, ⟨hRf, hRl, hRc, hRs⟩, htab, rfl, rfl, hrp⟩ := S
  intro H locs LS hR hS hL
  obtain ⟨⟨w1, w2, w3, w4, w5⟩, w6⟩ := hw
  subst hlD hsk
  have hM := M hst
  have hts : ∀ w ∈ kwl, w.before args s = true := fun w hw => hKn.2.1 w hw args
  cases hh1 with
  | nil =>
    have hG : GoodIn kwl [gWs y bytes maxL ret []] := kw_gi w2 rfl
    have cw : CallB R s args own idx y bytes maxL ret [gWs y bytes maxL ret []] { frames := dep1, cells := mc1, slots := ms1, locals := 40 * dep1 } mc1 ms1 n ∧ (Cond.static y).before args s = true :=
      ⟨callB_of n hts hG rfl rfl rfl (hts _ w3) (hts _ w1) w4 ⟨by show dep1 + 1 ≤ _; omega, by show 8 + (maxL + 11) + 40 * dep1 ≤ _; omega⟩, hts _ w6⟩
    have hrun := vx_runS (e := e) (below := below) (meth := meth) (As := As.map tv) (rest := st.map tv) (cells := a) (slots := b) (locs := locs) (H := H) (g := F0 m pc LS ((As.reverse ++ st).map tv)) ⟨hx, hb, hml, hown, hts⟩ hM cw ⟨gPc_blind, gPc_at (av := As) hKn hR hS⟩ rfl (by simpa using hn) (by rw [← hml]; exact hL.1) (by simp [List.map_reverse]) (cat8 hs9) d ⟨by omega, by omega⟩
    exact g_after (st := st) hS hL hrun kk kx
  | cons h0 t0 =>
    have hG : GoodIn kwl [gWs y bytes maxL ret (h0 :: t0)] := kw_gi w2 rfl
    have cw : vx_CSW R s args own idx y bytes maxL ret (h0 :: t0) [gWs y bytes maxL ret (h0 :: t0)] { frames := dep1, cells := mc1, slots := ms1, locals := 40 * dep1 } mc1 ms1 n :=
      ⟨⟨rfl, rfl, by show dep1 + 1 ≤ _; omega, by show 8 + (maxL + 11) + 40 * dep1 ≤ _; omega, fun w hw A U hW => by rcases List.mem_singleton.mp hw with rfl; exact kw_warm (kw_ok w2) (A := args) hW (hts _ w2), List.mem_singleton.mpr rfl⟩, hts _ w2, hts _ w3, ⟨w4.1, w4.2.1⟩, fun sig h9 => by
        have h2 := w4.2.2
        rw [h9] at h2
        exact (Option.some.inj h2).symm, hts _ w1, hts _ w6⟩
    have hrun := vx_runSX (e := e) (below := below) (meth := meth) (As := As.map tv) (rest := st.map tv) (cells := a) (slots := b) (locs := locs) (H := H) (g := F0 m pc LS ((As.reverse ++ st).map tv)) ⟨hx, hb, hml, hown, hts⟩ hM cw ⟨gPc_blind, gPc_at (av := As) hKn hR hS⟩ rfl (by simpa using hn) (by rw [← hml]; exact hL.1) (by simp [List.map_reverse]) (cat8 hs9) d ⟨by omega, by omega⟩
    exact g_after (st := st) hS hL hrun kk kx
theorem k_callI (S : Mach K KX D own mn cc nL dep mc ms hh rp) {idx n q dep1 mc1 ms1 maxL : Nat} {y : MethodName} {bytes : ByteArray} {As stk : List GV} {fs : List GV} {post : GO → GH → Prop} (d : decode cc pc = .ok (.invokespecial idx, 3)) (hw : CI own idx y bytes maxL n) (M : GMet D y bytes maxL none [] dep1 mc1 ms1 (gR (some q) :: As) h post) (kk : ∀ (r : Option GV) (h1 : GH), post (.inl r) h1 → K (pc + 3) ls (r.toList ++ st) h1 (a + mc1) (b + ms1)) (kx : ∀ (E : String) (h1 : GH), post (.inr E) h1 → KX pc ls h1 (a + mc1) (b + ms1) E) (hsk : stk = As.reverse ++ gR (some q) :: st) (hn : As.length = n) (hd9 : dep1 < dep) (hc : a + mc1 ≤ mc) (hs : b + ms1 ≤ ms) (hs9 : (st.map gcat).sum ≤ 8) : K pc ls stk h a b := by
  obtain ⟨p, l, e, R, s, m, args, below, meth, c, Q, ⟨hx, hb, hown, hlk, hlD, hst, hKn, hmn⟩, hml, ⟨hRf, hRl, hRc, hRs⟩, htab, rfl, rfl, hrp⟩ := S
  intro H locs LS hR hS hL
  obtain ⟨⟨w1, w2, w3, w4, w5⟩, w6, w7⟩ := hw
  subst hlD hsk
  have hM := M hst
  have hts : ∀ w ∈ kwl, w.before args s = true := fun w hw => hKn.2.1 w hw args
  have hG : GoodIn kwl [gWs y bytes maxL none []] := kw_gi w2 rfl
  have cw : CallB R s args own idx y bytes maxL none [gWs y bytes maxL none []] { frames := dep1, cells := mc1, slots := ms1, locals := 40 * dep1 } mc1 ms1 n ∧ y.name = "<init>" ∧ (Cond.instanceMethod y).before args s = true :=
    ⟨callB_of n hts hG rfl rfl rfl (hts _ w3) (hts _ w1) w4 ⟨by show dep1 + 1 ≤ _; omega, by show 8 + (maxL + 11) + 40 * dep1 ≤ _; omega⟩, w6, hts _ w7⟩
  have hrun := vx_runI (e := e) (below := below) (meth := meth) (As := As.map tv) (rest := st.map tv) (b := q) (cells := a) (slots := b) (locs := locs) (H := H) (g := F0 m pc LS ((As.reverse ++ gR (some q) :: st).map tv)) ⟨hx, hb, hml, hown, hts⟩ hM cw ⟨gPc_blind, gPc_at (av := gR (some q) :: As) hKn hR hS⟩ rfl (by simpa using hn) (by rw [← hml]; exact hL.1) (by simp [List.map_reverse, tv, va_rf]) (cat8 hs9) d ⟨by omega, by omega⟩
  exact g_after (st := st) hS hL hrun kk kx
theorem k_callIN (S : Mach K KX D own mn cc nL dep mc ms hh rp) {idx n q dep1 mc1 ms1 maxL : Nat} {y : MethodName} {bytes : ByteArray} {As stk : List GV} {fs : List GV} {post : GO → GH → Prop} (d : decode cc pc = .ok (.invokespecial idx, 3)) (hw : CIN own idx y bytes maxL n) (M : GMet D y bytes maxL none [] dep1 mc1 ms1 (gR (some q) :: As) h post) (kk : ∀ (r : Option GV) (h1 : GH), post (.inl r) h1 → K (pc + 3) ls (r.toList ++ st) h1 (a + mc1) (b + ms1)) (kx : ∀ (E : String) (h1 : GH), post (.inr E) h1 → KX pc ls h1 (a + mc1) (b + ms1) E) (hsk : stk = As.reverse ++ gR (some q) :: st) (hn : As.length = n) (hd9 : dep1 < dep) (hc : a + mc1 ≤ mc) (hs : b + ms1 ≤ ms) (hs9 : (st.map gcat).sum ≤ 8) : K pc ls stk h a b := by
  obtain ⟨p, l, e, R, s, m, args, below, meth, c, Q, ⟨hx, hb, hown, hlk, hlD, hst, hKn, hmn⟩, hml, ⟨hRf, hRl, hRc, hRs⟩, htab, rfl, rfl, hrp⟩ := S
  intro H locs LS hR hS hL
  obtain ⟨⟨host, w1⟩, w2, w3, w4, w5, w6, w7⟩ := hw
  subst hlD hsk
  have hM := M hst
  have hts : ∀ w ∈ kwl, w.before args s = true := fun w hw => hKn.2.1 w hw args
  have hG : GoodIn kwl [gWs y bytes maxL none []] := kw_gi w2 rfl
  have cw : va_CN R s args own idx y host bytes maxL none [gWs y bytes maxL none []] { frames := dep1, cells := mc1, slots := ms1, locals := 40 * dep1 } mc1 ms1 n ∧ y.name = "<init>" ∧ (Cond.instanceMethod y).before args s = true :=
    ⟨va_cnB n hts hG rfl rfl rfl (hKn.2.1 _ w1 _) (hts _ w3) w4 ⟨by show dep1 + 1 ≤ _; omega, by show 8 + (maxL + 11) + 40 * dep1 ≤ _; omega⟩, w6, hts _ w7⟩
  have hrun := vx_runIN (e := e) (below := below) (meth := meth) (As := As.map tv) (rest := st.map tv) (b := q) (cells := a) (slots := b) (locs := locs) (H := H) (g := F0 m pc LS ((As.reverse ++ gR (some q) :: st).map tv)) ⟨hx, hb, hml, hown, hts⟩ hM cw ⟨gPc_blind, gPc_at (av := gR (some q) :: As) hKn hR hS⟩ rfl (by simpa using hn) (by rw [← hml]; exact hL.1) (by simp [List.map_reverse, tv, va_rf]) (cat8 hs9) d ⟨by omega, by omega⟩
  exact g_after (st := st) hS hL hrun kk kx
theorem k_ireturn {post : GO → GH → Prop} {x : Int} (S : Mach K KX D own mn cc nL dep mc ms hh (some (some .int, post))) (d : decode cc pc = .ok (.ireturn, 1)) (hp : post (.inl (some (gI x))) h) (ha : a ≤ mc) (hb9 : b ≤ ms) : K pc ls [gI x] h a b := by
  obtain ⟨p, l, e, R, s, m, args, below, meth, c, Q, ⟨hx, hb, hown, hlk, hlD, hst, hKn, hmn⟩, hml, ⟨hRf, hRl, hRc, hRs⟩, htab, rfl, rfl, hrp⟩ := S
  intro H locs LS hR hS hL
  obtain ⟨hret, rfl⟩ := hrp _ rfl
  refine W.widen ha hb9 (vx_ret ?_)
  exact W.iret hx hb hret (fun t ht hW => ⟨some (gI x), h, rfl, hp, by rw [ht]; exact hR, hS.F ht⟩) (fun q hq => hS.2.2 q hq) d hlk
theorem k_zreturn {post : GO → GH → Prop} {x : Int} (S : Mach K KX D own mn cc nL dep mc ms hh (some (some .boolean, post))) (d : decode cc pc = .ok (.ireturn, 1)) (hx9 : x = 0 ∨ x = 1) (hp : post (.inl (some (gI x))) h) (ha : a ≤ mc) (hb9 : b ≤ ms) : K pc ls [gI x] h a b := by
  obtain ⟨p, l, e, R, s, m, args, below, meth, c, Q, ⟨hx, hb, hown, hlk, hlD, hst, hKn, hmn⟩, hml, ⟨hRf, hRl, hRc, hRs⟩, htab, rfl, rfl, hrp⟩ := S
  intro H locs LS hR hS hL
  obtain ⟨hret, rfl⟩ := hrp _ rfl
  refine W.widen ha hb9 (vx_ret ?_)
  exact W.zret hx hb hret (by rcases hx9 with rfl | rfl <;> decide) (fun t ht hW => ⟨some (gI x), h, rfl, hp, by rw [ht]; exact hR, hS.F ht⟩) (fun q hq => hS.2.2 q hq) d hlk
theorem k_creturn {post : GO → GH → Prop} {x : Int} (S : Mach K KX D own mn cc nL dep mc ms hh (some (some .char, post))) (d : decode cc pc = .ok (.ireturn, 1)) (hx9 : 0 ≤ x ∧ x < 65536) (hp : post (.inl (some (gI x))) h) (ha : a ≤ mc) (hb9 : b ≤ ms) : K pc ls [gI x] h a b := by
  obtain ⟨p, l, e, R, s, m, args, below, meth, c, Q, ⟨hx, hb, hown, hlk, hlD, hst, hKn, hmn⟩, hml, ⟨hRf, hRl, hRc, hRs⟩, htab, rfl, rfl, hrp⟩ := S
  intro H locs LS hR hS hL
  obtain ⟨hret, rfl⟩ := hrp _ rfl
  refine W.widen ha hb9 (vx_ret ?_)
  have ec : narrow .char (.int (Int32.ofInt x)) = .int (Int32.ofInt x) := by
    have h9 := pk_nc (Int32.ofInt x)
    rw [i32_c, Int.emod_eq_of_lt hx9.1 hx9.2] at h9
    exact h9
  exact W.zret hx hb hret ec (fun t ht hW => ⟨some (gI x), h, rfl, hp, by rw [ht]; exact hR, hS.F ht⟩) (fun q hq => hS.2.2 q hq) d hlk
theorem k_breturn {post : GO → GH → Prop} {x : Int} (S : Mach K KX D own mn cc nL dep mc ms hh (some (some .byte, post))) (d : decode cc pc = .ok (.ireturn, 1)) (hx9 : narrow .byte (.int (Int32.ofInt x)) = .int (Int32.ofInt x)) (hp : post (.inl (some (gI x))) h) (ha : a ≤ mc) (hb9 : b ≤ ms) : K pc ls [gI x] h a b := by
  obtain ⟨p, l, e, R, s, m, args, below, meth, c, Q, ⟨hx, hb, hown, hlk, hlD, hst, hKn, hmn⟩, hml, ⟨hRf, hRl, hRc, hRs⟩, htab, rfl, rfl, hrp⟩ := S
  intro H locs LS hR hS hL
  obtain ⟨hret, rfl⟩ := hrp _ rfl
  refine W.widen ha hb9 (vx_ret ?_)
  exact W.zret hx hb hret hx9 (fun t ht hW => ⟨some (gI x), h, rfl, hp, by rw [ht]; exact hR, hS.F ht⟩) (fun q hq => hS.2.2 q hq) d hlk
theorem k_lreturn {post : GO → GH → Prop} {x : Int} (S : Mach K KX D own mn cc nL dep mc ms hh (some (some .long, post))) (d : decode cc pc = .ok (.lreturn, 1)) (hp : post (.inl (some (gL x))) h) (ha : a ≤ mc) (hb9 : b ≤ ms) : K pc ls [gL x] h a b := by
  obtain ⟨p, l, e, R, s, m, args, below, meth, c, Q, ⟨hx, hb, hown, hlk, hlD, hst, hKn, hmn⟩, hml, ⟨hRf, hRl, hRc, hRs⟩, htab, rfl, rfl, hrp⟩ := S
  intro H locs LS hR hS hL
  obtain ⟨hret, rfl⟩ := hrp _ rfl
  refine W.widen ha hb9 (vx_ret ?_)
  exact W.lret hx hb hret (fun t ht hW => ⟨some (gL x), h, rfl, hp, by rw [ht]; exact hR, hS.F ht⟩) (fun q hq => hS.2.2 q hq) d hlk
theorem k_freturn {post : GO → GH → Prop} {x : UInt32} (S : Mach K KX D own mn cc nL dep mc ms hh (some (some .float, post))) (d : decode cc pc = .ok (.freturn, 1)) (hp : post (.inl (some (gF x))) h) (ha : a ≤ mc) (hb9 : b ≤ ms) : K pc ls [gF x] h a b := by
  obtain ⟨p, l, e, R, s, m, args, below, meth, c, Q, ⟨hx, hb, hown, hlk, hlD, hst, hKn, hmn⟩, hml, ⟨hRf, hRl, hRc, hRs⟩, htab, rfl, rfl, hrp⟩ := S
  intro H locs LS hR hS hL
  obtain ⟨hret, rfl⟩ := hrp _ rfl
  refine W.widen ha hb9 (vx_ret ?_)
  exact W.fret hx hb hret (fun t ht hW => ⟨some (gF x), h, rfl, hp, by rw [ht]; exact hR, hS.F ht⟩) (fun q hq => hS.2.2 q hq) d hlk
theorem k_return {post : GO → GH → Prop} (S : Mach K KX D own mn cc nL dep mc ms hh (some (none, post))) (d : decode cc pc = .ok (.return_, 1)) (hp : post (.inl none) h) (ha : a ≤ mc) (hb9 : b ≤ ms) : K pc ls [] h a b := by
  obtain ⟨p, l, e, R, s, m, args, below, meth, c, Q, ⟨hx, hb, hown, hlk, hlD, hst, hKn, hmn⟩, hml, ⟨hRf, hRl, hRc, hRs⟩, htab, rfl, rfl, hrp⟩ := S
  intro H locs LS hR hS hL
  obtain ⟨hret, rfl⟩ := hrp _ rfl
  refine W.widen ha hb9 (vx_ret ?_)
  exact W.vret hx hb hret (fun t ht hW => ⟨none, h, rfl, hp, by rw [ht]; exact hR, hS.F ht⟩) (fun q hq => hS.2.2 q hq) d hlk
theorem k_areturn {post : GO → GH → Prop} {x : Option Nat} {rt : FieldType} (S : Mach K KX D own mn cc nL dep mc ms hh (some (some rt, post))) (d : decode cc pc = .ok (.areturn, 1)) (hrt : (∃ n, rt = .object n) ∨ ∃ t, rt = .array t) (hp : post (.inl (some (gR x))) h) (ha : a ≤ mc) (hb9 : b ≤ ms) : K pc ls [gR x] h a b := by
  obtain ⟨p, l, e, R, s, m, args, below, meth, c, Q, ⟨hx, hb, hown, hlk, hlD, hst, hKn, hmn⟩, hml, ⟨hRf, hRl, hRc, hRs⟩, htab, rfl, rfl, hrp⟩ := S
  intro H locs LS hR hS hL
  obtain ⟨hret, rfl⟩ := hrp _ rfl
  refine W.widen ha hb9 (vx_ret ?_)
  exact W.aret hx hb hret hrt (by cases x with | none => exact Or.inl rfl | some y => exact Or.inr ⟨y, rfl⟩) (fun t ht hW => ⟨some (gR x), h, rfl, hp, by rw [ht]; exact hR, hS.F ht⟩) (fun q hq => hS.2.2 q hq) d hlk
theorem k_out {post : GO → GH → Prop} {ret : Option FieldType} {E : String} (S : Mach K KX D own mn cc nL dep mc ms [] (some (ret, post))) (hp : post (.inr E) h) (ha : a ≤ mc) (hb9 : b ≤ ms) : KX pc ls h a b E := by
  obtain ⟨p, l, e, R, s, m, args, below, meth, c, Q, ⟨hx, hb, hown, hlk, hlD, hst, hKn, hmn⟩, hml, ⟨hRf, hRl, hRc, hRs⟩, htab, rfl, rfl, hrp⟩ := S
  intro H locs LS q ce rest hR hS hL hce hcv hcl
  obtain ⟨hret, rfl⟩ := hrp _ rfl
  refine vx_out (fun x hx9 => ?_) hlk hce hcv hcl (fun t ht hW => ⟨h, hp, by rw [ht]; exact hR, hS.F ht⟩) (fun z hz => hS.2.2 z hz) ha hb9
  rw [htab] at hx9
  exact nomatch hx9
/-- caught by the row x of the table, past the rows pre -/
theorem k_catch {E : String} (S : Mach K KX D own mn cc nL dep mc ms hh rp) (pre : List (Nat × Nat × Nat × Nat)) (x : Nat × Nat × Nat × Nat) (suf : List (Nat × Nat × Nat × Nat)) (hsp : hh = pre ++ x :: suf)
    (hpass : ∀ z ∈ pre, z.2.2.2 ≠ 0 ∧ ∃ nm : String, Cond.classLink own z.2.2.2 nm ∈ kwl ∧ (E, nm) ∈ gnc) (hcov : covers ⟨x.1, x.2.1, x.2.2.1, x.2.2.2⟩ pc = true) (h0 : x.2.2.2 ≠ 0) (hlink : Cond.classLink own x.2.2.2 E ∈ kwl) (hcast : Cond.castable E E ∈ kwl)
    (kk : ∀ q : Nat, K x.2.2.1 ls [gR (some q)] h a b) : KX pc ls h a b E := by
  obtain ⟨p, l, e, R, s, m, args, below, meth, c, Q, ⟨hx, hb, hown, hlk, hlD, hst, hKn, hmn⟩, hml, ⟨hRf, hRl, hRc, hRs⟩, htab, rfl, rfl, hrp⟩ := S
  intro H locs LS q ce rest hR hS hL hce hcv hcl
  refine vx_catch hown (tableOf pre) ⟨x.1, x.2.1, x.2.2.1, x.2.2.2⟩ (tableOf suf) (by rw [htab, hsp]; simp [tableOf]) (fun z hz => ?_) hcov h0 (hKn.2.1 _ hlink _) (hKn.2.1 _ hcast _) hce hcv hcl (kk q H locs LS hR hS hL)
  obtain ⟨z0, hz0, rfl⟩ := List.mem_map.mp hz
  obtain ⟨n1, nm, n2, n3⟩ := hpass z0 hz0
  exact Or.inr ⟨n1, nm, hKn.2.1 _ n2 _, hKn.2.2.1.2.2.2.2.2.2.2.2.2.2.1 _ n3⟩
/-- what a throw's words say -/
def TH (own : String) (ik is ic : Nat) (cls text : String) (names : List String) (i : Nat) : Prop := Bundle.fit cls = true ∧ (∀ n ∈ names, Bundle.fit n = true) ∧ (own, is, text, i) ∈ gstr ∧ (∀ w ∈ Cond.classLink own ik cls :: Cond.initialized cls :: vx_atS own ic cls names, vx_ot w = true ∧ w ∈ kwl) ∧ names.length ≤ 3
theorem k_throwS {post : GO → GH → Prop} {ret : Option FieldType} {cls text : String} {names : List String} {ik is ic i : Nat} (S : Mach K KX D own mn cc nL dep mc ms [] (some (ret, post))) (hw : TH own ik is ic cls text names i) (d0 : decode cc pc = .ok (.new ik, 3)) (d3 : decode cc (pc + 3) = .ok (.dup, 1)) (d4 : decode cc (pc + 4) = .ok (.ldc is, 2)) (d6 : decode cc (pc + 6) = .ok (.invokespecial ic, 3)) (d9 : decode cc (pc + 9) = .ok (.athrow, 1))
    (hp : post (.inr cls) h) (ha : a + 1 ≤ mc) (hb9 : b + 6 ≤ ms) (hd9 : 7 ≤ dep) : K pc ls [] h a b := by
  obtain ⟨p, l, e, R, s, m, args, below, meth, c, Q, ⟨hx, hb, hown, hlk, hlD, hst, hKn, hmn⟩, hml, ⟨hRf, hRl, hRc, hRs⟩, htab, rfl, rfl, hrp⟩ := S
  intro H locs LS hR hS hL
  obtain ⟨hret, rfl⟩ := hrp _ rfl
  obtain ⟨w1, w2, w3, w4, w5⟩ := hw
  obtain ⟨-, -, -, c4, c5, c6, -⟩ := hKn.2.2.1
  refine vx_throwS (sa := cad D i) (rest := []) hx hb hst hown w1 w2 (hKn.2.1 _ (w4 _ List.mem_cons_self).2 _) (hKn.2.1 _ (w4 _ (List.mem_cons_of_mem _ List.mem_cons_self)).2 _) (c6 _ w3) (fun w hw => hKn.2.1 _ (w4 w (List.mem_cons_of_mem _ (List.mem_cons_of_mem _ hw))).2 _) (fun w hw => (w4 w hw).1) c4 c5 hS hL.1 d0 d3 d4 d6 d9 (fun x hx9 => ?_) (by omega) ?_ (by omega) (by omega) hlk (fun t hW h1 h2 => ⟨h, hp, ?_, Nat.le_trans hS.1 h1, fun q hq hA => ?_⟩) (fun z hz => hS.2.2 z hz) ha hb9
  · rw [htab] at hx9
    exact nomatch hx9
  · have : names.length + 1 ≤ 4 := by omega
    simp only [List.map_nil, List.sum_nil]
    omega
  · obtain ⟨ws, r1, r2, r3⟩ := hR
    exact ⟨ws, r1.kept fun k q hq => h2 q.1 (r1 k q hq).lt, r2, r3⟩
  · rw [h2 q (Nat.lt_of_lt_of_le hq hS.1)]
    exact hS.2.1 q hq hA
theorem k_throwSW {post : GO → GH → Prop} {ret : Option FieldType} {cls text : String} {names : List String} {ik is ic i : Nat} (S : Mach K KX D own mn cc nL dep mc ms [] (some (ret, post))) (hw : TH own ik is ic cls text names i) (d0 : decode cc pc = .ok (.new ik, 3)) (d3 : decode cc (pc + 3) = .ok (.dup, 1)) (d4 : decode cc (pc + 4) = .ok (.ldc_w is, 3)) (d6 : decode cc (pc + 7) = .ok (.invokespecial ic, 3)) (d9 : decode cc (pc + 10) = .ok (.athrow, 1))
    (hp : post (.inr cls) h) (ha : a + 1 ≤ mc) (hb9 : b + 6 ≤ ms) (hd9 : 7 ≤ dep) : K pc ls [] h a b := by
  obtain ⟨p, l, e, R, s, m, args, below, meth, c, Q, ⟨hx, hb, hown, hlk, hlD, hst, hKn, hmn⟩, hml, ⟨hRf, hRl, hRc, hRs⟩, htab, rfl, rfl, hrp⟩ := S
  intro H locs LS hR hS hL
  obtain ⟨hret, rfl⟩ := hrp _ rfl
  obtain ⟨w1, w2, w3, w4, w5⟩ := hw
  obtain ⟨-, -, -, c4, c5, c6, -⟩ := hKn.2.2.1
  refine vx_throwSW (sa := cad D i) (rest := []) hx hb hst hown w1 w2 (hKn.2.1 _ (w4 _ List.mem_cons_self).2 _) (hKn.2.1 _ (w4 _ (List.mem_cons_of_mem _ List.mem_cons_self)).2 _) (c6 _ w3) (fun w hw => hKn.2.1 _ (w4 w (List.mem_cons_of_mem _ (List.mem_cons_of_mem _ hw))).2 _) (fun w hw => (w4 w hw).1) c4 c5 hS hL.1 d0 d3 d4 d6 d9 (fun x hx9 => ?_) (by omega) ?_ (by omega) (by omega) hlk (fun t hW h1 h2 => ⟨h, hp, ?_, Nat.le_trans hS.1 h1, fun q hq hA => ?_⟩) (fun z hz => hS.2.2 z hz) ha hb9
  · rw [htab] at hx9
    exact nomatch hx9
  · have : names.length + 1 ≤ 4 := by omega
    simp only [List.map_nil, List.sum_nil]
    omega
  · obtain ⟨ws, r1, r2, r3⟩ := hR
    exact ⟨ws, r1.kept fun k q hq => h2 q.1 (r1 k q hq).lt, r2, r3⟩
  · rw [h2 q (Nat.lt_of_lt_of_le hq hS.1)]
    exact hS.2.1 q hq hA
theorem k_getsK (S : Mach K KX D own mn cc nL dep mc ms hh rp) {idx i : Nat} (hi : i < 4) (d : decode cc pc = .ok (.getstatic idx, 3)) (hw : Cond.fieldLink own idx RX1 (kdN i) kdD ∈ kwl ∨ ∃ host, Cond.fieldLinkNest own idx RX1 (kdN i) kdD host ∈ kwl) (kk : K (pc + 3) ls (gR (some (cad D i)) :: st) h a b) : K pc ls st h a b := by
  obtain ⟨p, l, e, R, s, m, args, below, meth, c, Q, ⟨hx, hb, hown, hlk, hlD, hst, hKn, hmn⟩, hml, ⟨hRf, hRl, hRc, hRs⟩, htab, rfl, rfl, hrp⟩ := S
  intro H locs LS hR hS hL
  rcases hw with w1 | ⟨host, w1⟩
  · exact va_gets hx hb (hKn.2.2.1.1 i hi) hS hown (hKn.2.1 _ w1 _) (fun _ h => h) d (kk H locs LS hR hS hL)
  · exact va_getsN hx hb (hKn.2.2.1.1 i hi) hS hown (hKn.2.1 _ w1 _) (fun _ h => h) d (kk H locs LS hR hS hL)
theorem k_getsE (S : Mach K KX D own mn cc nL dep mc ms hh rp) {idx : Nat} (d : decode cc pc = .ok (.getstatic idx, 3)) (w1 : Cond.fieldLink own idx RJx4a65c "DEFAULTCAPACITY_EMPTY_ELEMENTDATA" "[Ljava/lang/Object;" ∈ kwl) (kk : K (pc + 3) ls (gR (some (cad D 4)) :: st) h a b) : K pc ls st h a b := by
  obtain ⟨p, l, e, R, s, m, args, below, meth, c, Q, ⟨hx, hb, hown, hlk, hlD, hst, hKn, hmn⟩, hml, ⟨hRf, hRl, hRc, hRs⟩, htab, rfl, rfl, hrp⟩ := S
  intro H locs LS hR hS hL
  exact va_gets hx hb hKn.2.2.1.2.1 hS hown (hKn.2.1 _ w1 _) (fun _ h => h) d (kk H locs LS hR hS hL)
theorem k_getsC (S : Mach K KX D own mn cc nL dep mc ms hh rp) {idx : Nat} (d : decode cc pc = .ok (.getstatic idx, 3)) (w1 : Cond.fieldLink own idx "java/lang/String" "COMPACT_STRINGS" "Z" ∈ kwl) (kk : K (pc + 3) ls (gI 1 :: st) h a b) : K pc ls st h a b := by
  obtain ⟨p, l, e, R, s, m, args, below, meth, c, Q, ⟨hx, hb, hown, hlk, hlD, hst, hKn, hmn⟩, hml, ⟨hRf, hRl, hRc, hRs⟩, htab, rfl, rfl, hrp⟩ := S
  intro H locs LS hR hS hL
  exact va_gets hx hb hKn.2.2.1.2.2.2.2.2.2.2.1 hS hown (hKn.2.1 _ w1 _) (fun _ h => h) d (kk H locs LS hR hS hL)
theorem k_max (S : Mach K KX D own mn cc nL dep mc ms hh rp) {idx : Nat} {x y : Int} (d : decode cc pc = .ok (.invokestatic idx, 3)) (w1 : Cond.methodLink own idx Lib.Math.max.name ∈ kwl) (w2 : Cond.static Lib.Math.max.name ∈ kwl) (w3 : Cond.initialized "java/lang/Math" ∈ kwl) (w4 : Cond.code Lib.Math.max.name Lib.Math.max.code 2 (some .int) ∈ kwl) (h1 : -2147483648 ≤ x ∧ x < 2147483648) (h2 : -2147483648 ≤ y ∧ y < 2147483648) (hd9 : 1 ≤ dep) (ha : a ≤ mc) (hb9 : b ≤ ms) (kk : K (pc + 3) ls (gI (max x y) :: st) h a b) (hs9 : (st.map gcat).sum ≤ 8 := by decide) : K pc ls (gI y :: gI x :: st) h a b := by
  obtain ⟨p, l, e, R, s, m, args, below, meth, c, Q, ⟨hx, hb, hown, hlk, hlD, hst, hKn, hmn⟩, hml, ⟨hRf, hRl, hRc, hRs⟩, htab, rfl, rfl, hrp⟩ := S
  intro H locs LS hR hS hL
  refine va_mmax hx hb (hml := hL.1.symm) hown (hKn.2.1 _ w1 _) (hKn.2.1 _ w2 _) (hKn.2.1 _ w3 _) (hKn.2.1 _ w4 _) (by omega) (cats_le hRl hs9 hd9 (by omega)) (by omega) (by omega) d ?_
  have ec : (if Int32.ofInt x < Int32.ofInt y then Int32.ofInt y else Int32.ofInt x) = Int32.ofInt (max x y) := by
    split
    · next z => rw [i32_lt h1 h2] at z; congr 1; omega
    · next z => rw [i32_lt h1 h2] at z; congr 1; omega
  rw [ec]
  exact kk H locs LS hR hS hL
theorem k_min (S : Mach K KX D own mn cc nL dep mc ms hh rp) {idx : Nat} {x y : Int} (d : decode cc pc = .ok (.invokestatic idx, 3)) (w1 : Cond.methodLink own idx Lib.Math.min.name ∈ kwl) (w2 : Cond.static Lib.Math.min.name ∈ kwl) (w3 : Cond.initialized "java/lang/Math" ∈ kwl) (w4 : Cond.code Lib.Math.min.name Lib.Math.min.code 2 (some .int) ∈ kwl) (h1 : -2147483648 ≤ x ∧ x < 2147483648) (h2 : -2147483648 ≤ y ∧ y < 2147483648) (hd9 : 1 ≤ dep) (ha : a ≤ mc) (hb9 : b ≤ ms) (kk : K (pc + 3) ls (gI (min x y) :: st) h a b) (hs9 : (st.map gcat).sum ≤ 8 := by decide) : K pc ls (gI y :: gI x :: st) h a b := by
  obtain ⟨p, l, e, R, s, m, args, below, meth, c, Q, ⟨hx, hb, hown, hlk, hlD, hst, hKn, hmn⟩, hml, ⟨hRf, hRl, hRc, hRs⟩, htab, rfl, rfl, hrp⟩ := S
  intro H locs LS hR hS hL
  refine va_mmin hx hb (hml := hL.1.symm) hown (hKn.2.1 _ w1 _) (hKn.2.1 _ w2 _) (hKn.2.1 _ w3 _) (hKn.2.1 _ w4 _) (by omega) (cats_le hRl hs9 hd9 (by omega)) (by omega) (by omega) d ?_
  have ec : (if Int32.ofInt y < Int32.ofInt x then Int32.ofInt y else Int32.ofInt x) = Int32.ofInt (min x y) := by
    split
    · next z => rw [i32_lt h2 h1] at z; congr 1; omega
    · next z => rw [i32_lt h2 h1] at z; congr 1; omega
  rw [ec]
  exact kk H locs LS hR hS hL
theorem k_castY (S : Mach K KX D own mn cc nL dep mc ms hh rp) {idx ci q N : Nat} {C : String} {T : u_T} {fs : List GV} (d : decode cc pc = .ok (.checkcast idx, 3)) (w1 : Cond.classLink own idx C ∈ kwl) (w2 : Cond.castable C C ∈ kwl) (hh9 : h q = some (gObj ci fs)) (hc : gcl[ci]? = some (C, T, N)) (kk : K (pc + 3) ls (gR (some q) :: st) h a b) : K pc ls (gR (some q) :: st) h a b := by
  obtain ⟨p, l, e, R, s, m, args, below, meth, c, Q, ⟨hx, hb, hown, hlk, hlD, hst, hKn, hmn⟩, hml, ⟨hRf, hRl, hRc, hRs⟩, htab, rfl, rfl, hrp⟩ := S
  intro H locs LS hR hS hL
  obtain ⟨ws, k0, hP, hD, hall, hk0⟩ := hR.get hh9
  exact va_castY hx hb hown (hKn.2.1 _ w1 _) (va_Nw.of rfl (hKn.2.1 _ w2 #[])) (va_recv hKn.1 hP hc hk0) d (kk H locs LS hR hS hL)
theorem k_ldcI (S : Mach K KX D own mn cc nL dep mc ms hh rp) {idx : Nat} {v : Int} (d : decode cc pc = .ok (.ldc idx, 2)) (w1 : Cond.constant own idx (Int32.ofInt v) ∈ kwl) (kk : K (pc + 2) ls (gI v :: st) h a b) : K pc ls st h a b := by
  obtain ⟨p, l, e, R, s, m, args, below, meth, c, Q, ⟨hx, hb, hown, hlk, hlD, hst, hKn, hmn⟩, hml, ⟨hRf, hRl, hRc, hRs⟩, htab, rfl, rfl, hrp⟩ := S
  intro H locs LS hR hS hL
  exact lv_ldc hx hb hown (hKn.2.1 _ w1 _) d (kk H locs LS hR hS hL)
theorem k_ldcM (S : Mach K KX D own mn cc nL dep mc ms hh rp) {idx : Nat} (d : decode cc pc = .ok (.ldc idx, 2)) (w1 : Cond.classLink own idx "[Ljava/lang/Object;" ∈ kwl) (kk : K (pc + 2) ls (gR (some (cad D 7)) :: st) h a b) : K pc ls st h a b := by
  obtain ⟨p, l, e, R, s, m, args, below, meth, c, Q, ⟨hx, hb, hown, hlk, hlD, hst, hKn, hmn⟩, hml, ⟨hRf, hRl, hRc, hRs⟩, htab, rfl, rfl, hrp⟩ := S
  intro H locs LS hR hS hL
  exact va_ldcM hx hb hown (hKn.2.1 _ w1 _) hKn.2.2.1.2.2.2.2.2.2.2.2.1 d (kk H locs LS hR hS hL)
theorem k_ldcW (S : Mach K KX D own mn cc nL dep mc ms hh rp) {idx : Nat} (d : decode cc pc = .ok (.ldc idx, 2)) (w1 : (own, idx, "motuwethfrsasu", 5) ∈ gstr) (kk : K (pc + 2) ls (gR (some (cad D 5)) :: st) h a b) : K pc ls st h a b := by
  obtain ⟨p, l, e, R, s, m, args, below, meth, c, Q, ⟨hx, hb, hown, hlk, hlD, hst, hKn, hmn⟩, hml, ⟨hRf, hRl, hRc, hRs⟩, htab, rfl, rfl, hrp⟩ := S
  intro H locs LS hR hS hL
  exact va_ldcS hx hb hown (hKn.2.2.1.2.2.2.2.2.1 _ w1) d (kk H locs LS hR hS hL)
theorem k_getC (S : Mach K KX D own mn cc nL dep mc ms hh rp) {idx q n : Nat} {f : Nat → Option Nat} (d : decode cc pc = .ok (.invokevirtual idx, 3)) (w1 : Cond.methodLink own idx ⟨"java/lang/Object", "getClass", "()Ljava/lang/Class;"⟩ ∈ kwl) (w2 : Cond.declares ⟨"java/lang/Object", "getClass", "()Ljava/lang/Class;"⟩ ∈ kwl) (w3 : Cond.selects "[Ljava/lang/Object;" ⟨"java/lang/Object", "getClass", "()Ljava/lang/Class;"⟩ ⟨"java/lang/Object", "getClass", "()Ljava/lang/Class;"⟩ ∈ kwl) (w4 : Cond.instanceMethod ⟨"java/lang/Object", "getClass", "()Ljava/lang/Class;"⟩ ∈ kwl) (w5 : Cond.native ⟨"java/lang/Object", "getClass", "()Ljava/lang/Class;"⟩ ∈ kwl) (hh9 : h q = some (gArrR 5 n f)) (hd9 : 1 ≤ dep) (kk : K (pc + 3) ls (gR (some (cad D 7)) :: st) h a b) (hs9 : (st.map gcat).sum ≤ 8 := by decide) : K pc ls (gR (some q) :: st) h a b := by
  obtain ⟨p, l, e, R, s, m, args, below, meth, c, Q, ⟨hx, hb, hown, hlk, hlD, hst, hKn, hmn⟩, hml, ⟨hRf, hRl, hRc, hRs⟩, htab, rfl, rfl, hrp⟩ := S
  intro H locs LS hR hS hL
  obtain ⟨ws, k0, hP, hD, hall, hk0⟩ := hR.get hh9
  obtain ⟨-, -, -, -, -, e9⟩ := (hKn.1.2 5 _ rfl).2
  refine va_getC hx hb (hml := hL.1.symm) hown (hKn.2.1 _ w1 _) (hKn.2.1 _ w2 _) (hKn.2.1 _ w3 _) (hKn.2.1 _ w4 _) (hKn.2.1 _ w5 _) hKn.2.2.1.2.2.2.2.2.2.2.2.1 ⟨_, hP k0 _ hk0, rfl, ?_⟩ (by omega) (cats_le hRl hs9 hd9 (by omega)) d (kk H locs LS hR hS hL)
  exact e9
theorem te_cpy (dA : Nat → ClassId) (t n : Nat) (f g : Nat → Option Nat) (sp dp k : Nat) : te dA (gArrR t n (va_cpy f g sp dp k)) = .inl (dA t, n, .inr (.inr (.inr (.inr (va_cpy f g sp dp k))))) := rfl
theorem k_copyq (S : Mach K KX D own mn cc nL dep mc ms hh rp) {idx q0 q1 n0 n1 ci : Nat} {f g : Nat → Option Nat} {sp dp n : Int} {C : String} {T : u_T} {N : Nat} (d : decode cc pc = .ok (.invokestatic idx, 3)) (w1 : Cond.methodLink own idx arraycopyName ∈ kwl) (w2 : Cond.native arraycopyName ∈ kwl) (w3 : Cond.static arraycopyName ∈ kwl) (w4 : Cond.initialized "java/lang/System" ∈ kwl) (w5 : Cond.castable C "java/lang/Object" ∈ kwl) (hh0 : h q0 = some (gArrR 5 n0 f)) (hh1 : h q1 = some (gArrR 5 n1 g)) (h1 : 0 ≤ sp ∧ sp < 2147483648) (h2 : 0 ≤ dp ∧ dp < 2147483648) (h3 : 0 ≤ n ∧ n < 2147483648) (h4 : sp + n ≤ n0) (h5 : dp + n ≤ n1) (hc : gcl[ci]? = some (C, T, N)) (hel : ∀ i : Nat, i < n.toNat → ∀ y : Nat, f (sp.toNat + i) = some y → ∃ fs : List GV, h y = some (gObj ci fs)) (hd9 : 1 ≤ dep) (kk : K (pc + 3) ls st (hput h q1 (gArrR 5 n1 (va_cpy f g sp.toNat dp.toNat n.toNat))) a b) (hs9 : (st.map gcat).sum ≤ 8 := by decide) : K pc ls (gI n :: gI dp :: gR (some q1) :: gI sp :: gR (some q0) :: st) h a b := by
  obtain ⟨p, l, e, R, s, m, args, below, meth, c, Q, ⟨hx, hb, hown, hlk, hlD, hst, hKn, hmn⟩, hml, ⟨hRf, hRl, hRc, hRs⟩, htab, rfl, rfl, hrp⟩ := S
  intro H locs LS hR hS hL
  obtain ⟨ws, k0, hP, hD, hall, hk0⟩ := hR.get hh0
  obtain ⟨k1, hk1⟩ := List.getElem?_of_mem (hall q1 _ hh1)
  have nz : ∀ x : Int, 0 ≤ x → x < 2147483648 → ¬ Int32.ofInt x < 0 := fun x g1 g2 z => by
    rw [show (0 : Int32) = Int32.ofInt 0 from rfl, i32_lt (by omega) (by omega)] at z
    omega
  have hw : nativeFrameWords "java/lang/System" "arraycopy" 5 ≤ 21 := by decide
  refine va_copyq (C := C) hx hb (hml := hL.1.symm) hown (hKn.2.1 _ w1 _) (hKn.2.1 _ w2 _) (hKn.2.1 _ w3 _) (hKn.2.1 _ w4 _) hKn.1 hP hD hS k0 k1 5 5 hk0 hk1 rfl rfl (nz sp h1.1 h1.2) (nz dp h2.1 h2.2) (nz n h3.1 h3.2) (by rw [i32_clamp h1.1 h1.2, i32_clamp h3.1 h3.2]; omega) (by rw [i32_clamp h2.1 h2.2, i32_clamp h3.1 h3.2]; omega) (fun i hi y hy => ?_) (vb_asgC (va_Nw.of rfl (hKn.2.1 _ w5 #[]))) (by omega) (cats_le hRl hs9 hd9 (by omega)) d fun H1 locs1 hP1 hD1 hS1 => ?_
  · rw [i32_clamp h3.1 h3.2] at hi
    rw [i32_clamp h1.1 h1.2] at hy
    obtain ⟨fs, hfs⟩ := hel i hi y hy
    obtain ⟨k9, hk9⟩ := List.getElem?_of_mem (hall y _ hfs)
    exact va_recv hKn.1 hP hc hk9
  · rw [i32_clamp h1.1 h1.2, i32_clamp h2.1 h2.2, i32_clamp h3.1 h3.2] at hP1 hD1
    exact kk H1 locs1 LS (Rel.set (g := gArrR 5 n1 (va_cpy f g sp.toNat dp.toNat n.toNat)) hall hk1 hP1 hD1) hS1 hL
theorem k_getsQ (S : Mach K KX D own mn cc nL dep mc ms hh rp) {idx : Nat} (d : decode cc pc = .ok (.getstatic idx, 3)) (w1 : Cond.fieldLink own idx "jdk/internal/util/Preconditions" "SIOOBE_FORMATTER" "Ljava/util/function/BiFunction;" ∈ kwl) (kk : ∀ r : Option Nat, K (pc + 3) ls (gR r :: st) h a b) : K pc ls st h a b := by
  obtain ⟨p, l, e, R, s, m, args, below, meth, c, Q, ⟨hx, hb, hown, hlk, hlD, hst, hKn, hmn⟩, hml, ⟨hRf, hRl, hRc, hRs⟩, htab, rfl, rfl, hrp⟩ := S
  intro H locs LS hR hS hL
  rcases hKn.2.2.1.2.2.2.2.2.2.2.2.2.2.2 with hz | ⟨t, hz⟩
  · exact va_gets hx hb hz hS hown (hKn.2.1 _ w1 _) (fun _ h => h) d (kk none H locs LS hR hS hL)
  · exact va_gets hx hb hz hS hown (hKn.2.1 _ w1 _) (fun _ h => h) d (kk (some t) H locs LS hR hS hL)
theorem k_getfSv (S : Mach K KX D own mn cc nL dep mc ms hh rp) {idx : Nat} (d : decode cc pc = .ok (.getfield idx, 3)) (w1 : Cond.fieldLink own idx "java/lang/String" "value" "[B" ∈ kwl) (kk : K (pc + 3) ls (gR (some (cad D 6)) :: st) h a b) : K pc ls (gR (some (cad D 5)) :: st) h a b := by
  obtain ⟨p, l, e, R, s, m, args, below, meth, c, Q, ⟨hx, hb, hown, hlk, hlD, hst, hKn, hmn⟩, hml, ⟨hRf, hRl, hRc, hRs⟩, htab, rfl, rfl, hrp⟩ := S
  intro H locs LS hR hS hL
  exact vk_getf hx hb hKn.2.2.1.2.2.2.2.2.2.1.2.2.1 hS hown (hKn.2.1 _ w1 _) (fun _ h => h) d (kk H locs LS hR hS hL)
theorem k_getfSc (S : Mach K KX D own mn cc nL dep mc ms hh rp) {idx : Nat} (d : decode cc pc = .ok (.getfield idx, 3)) (w1 : Cond.fieldLink own idx "java/lang/String" "coder" "B" ∈ kwl) (kk : K (pc + 3) ls (gI 0 :: st) h a b) : K pc ls (gR (some (cad D 5)) :: st) h a b := by
  obtain ⟨p, l, e, R, s, m, args, below, meth, c, Q, ⟨hx, hb, hown, hlk, hlD, hst, hKn, hmn⟩, hml, ⟨hRf, hRl, hRc, hRs⟩, htab, rfl, rfl, hrp⟩ := S
  intro H locs LS hR hS hL
  exact vk_getf hx hb hKn.2.2.1.2.2.2.2.2.2.1.2.1 hS hown (hKn.2.1 _ w1 _) (fun _ h => h) d (kk H locs LS hR hS hL)
theorem k_alenS (S : Mach K KX D own mn cc nL dep mc ms hh rp) (d : decode cc pc = .ok (.arraylength, 1)) (kk : K (pc + 1) ls (gI 14 :: st) h a b) : K pc ls (gR (some (cad D 6)) :: st) h a b := by
  obtain ⟨p, l, e, R, s, m, args, below, meth, c, Q, ⟨hx, hb, hown, hlk, hlD, hst, hKn, hmn⟩, hml, ⟨hRf, hRl, hRc, hRs⟩, htab, rfl, rfl, hrp⟩ := S
  intro H locs LS hR hS hL
  exact va_tlen hx hb hKn.2.2.1.2.2.2.2.2.2.1.2.2.2 hS (v := Int32.ofInt 14) rfl d (kk H locs LS hR hS hL)
theorem k_baloadS (S : Mach K KX D own mn cc nL dep mc ms hh rp) {j : Int} (d : decode cc pc = .ok (.baload, 1)) (hj : 0 ≤ j ∧ j < 14) (kk : K (pc + 1) ls (gI ((wkB.getD j.toNat 0).toInt) :: st) h a b) : K pc ls (gI j :: gR (some (cad D 6)) :: st) h a b := by
  obtain ⟨p, l, e, R, s, m, args, below, meth, c, Q, ⟨hx, hb, hown, hlk, hlD, hst, hKn, hmn⟩, hml, ⟨hRf, hRl, hRc, hRs⟩, htab, rfl, rfl, hrp⟩ := S
  intro H locs LS hR hS hL
  refine va_tb hx hb hKn.2.2.1.2.2.2.2.2.2.1.2.2.2 hS (i32_in hj.1 (by omega) (by omega)) (v := .int (wkB.getD j.toNat 0)) (by rw [i32_clamp hj.1 (by omega)]) d ?_
  have hk := kk H locs LS hR hS hL
  simp only [List.map_cons, tv, Int32.ofInt_toInt] at hk
  exact hk
theorem k_callVS (S : Mach K KX D own mn cc nL dep mc ms hh rp) {idx n dep1 mc1 ms1 maxL : Nat} {y : MethodName} {bytes : ByteArray} {ret : Option FieldType} {As stk : List GV} {post : GO → GH → Prop} (d : decode cc pc = .ok (.invokevirtual idx, 3)) (hw : CB own idx y bytes maxL ret [] n) (w6 : Cond.instanceMethod y ∈ kwl) (w7 : Cond.selects y.cls y y ∈ kwl) (hy9 : y.cls = "java/lang/String") (M : GMet D y bytes maxL ret [] dep1 mc1 ms1 (gR (some (cad D 5)) :: As) h post) (kk : ∀ (r : Option GV) (h1 : GH), post (.inl r) h1 → K (pc + 3) ls (r.toList ++ st) h1 (a + mc1) (b + ms1)) (kx : ∀ (E : String) (h1 : GH), post (.inr E) h1 → KX pc ls h1 (a + mc1) (b + ms1) E) (hsk : stk = As.reverse ++ gR (some (cad D 5)) :: st) (hn : As.length = n) (hd9 : dep1 < dep) (hc : a + mc1 ≤ mc) (hs : b + ms1 ≤ ms) (hs9 : (st.map gcat).sum ≤ 8) : K pc ls stk h a b := by
  obtain ⟨p, l, e, R, s, m, args, below, meth, c, Q, ⟨hx, hb, hown, hlk, hlD, hst, hKn, hmn⟩, hml, ⟨hRf, hRl, hRc, hRs⟩, htab, rfl, rfl, hrp⟩ := S
  intro H locs LS hR hS hL
  obtain ⟨w1, w2, w3, w4, w5⟩ := hw
  subst hlD hsk
  have hM := M hst
  have hts : ∀ w ∈ kwl, w.before args s = true := fun w hw => hKn.2.1 w hw args
  have hG : GoodIn kwl [gWs y bytes maxL ret []] := kw_gi w2 rfl
  have cw : CallW R s args own y.cls idx y bytes maxL ret [gWs y bytes maxL ret []] { frames := dep1, cells := mc1, slots := ms1, locals := 40 * dep1 } mc1 ms1 n :=
    ⟨callB_of n hts hG rfl rfl rfl (hts _ w3) (hts _ w1) w4 ⟨by show dep1 + 1 ≤ _; omega, by show 8 + (maxL + 11) + 40 * dep1 ≤ _; omega⟩, hts _ w6, hts _ w7⟩
  have hrc : ∃ cell : Cell, H[cad D 5]? = some cell ∧ cell.vm.isStatics = false ∧ s.vm.findClass y.cls = some cell.cls := by
    obtain ⟨cell, g1, g2, g3, -⟩ := hKn.2.2.1.2.2.2.2.2.2.1.1.kept hS.2.1
    exact ⟨cell, g1, g2, by rw [hy9]; exact g3⟩
  have hrun := vx_runV (e := e) (below := below) (meth := meth) (As := As.map tv) (rest := st.map tv) (b := cad D 5) (cells := a) (slots := b) (locs := locs) (H := H) (g := F0 m pc LS ((As.reverse ++ gR (some (cad D 5)) :: st).map tv)) ⟨hx, hb, hml, hown, hts⟩ hM cw ⟨gPc_blind, hrc, gPc_at (av := gR (some (cad D 5)) :: As) hKn hR hS⟩ rfl (by simpa using hn) (by rw [← hml]; exact hL.1) (by simp [List.map_reverse, tv, va_rf]) (cat8 hs9) d ⟨by omega, by omega⟩
  exact g_after (st := st) hS hL hrun kk kx
end RW3
