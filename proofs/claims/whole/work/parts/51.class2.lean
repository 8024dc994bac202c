/-! a cast to the object's own class -/
section CST
theorem asg_self (vm : Vm) (c : ClassId) : vm.assignable c c = true := by
  show vm.assignableAux (255 + 1) c c = true
  rw [Vm.assignableAux, beq_self_eq_true, Bool.true_or]
theorem nw_self {C : String} {U : State} {c : ClassId} (h : U.vm.findClass C = some c) : va_Nw (.castable C C) U := by
  unfold va_Nw Cond.before
  simp only [Cond.holds, Cond.value, h, asg_self]
  rfl
variable {K : Nat → List (Option GV) → List GV → GH → Nat → Nat → Prop} {KX : Nat → List (Option GV) → GH → Nat → Nat → String → Prop} {D : DD} {own mn : String} {cc : ByteArray} {nL dep mc ms : Nat} {hh : List (Nat × Nat × Nat × Nat)} {rp : Option (Option FieldType × (GO → GH → Prop))} {pc : Nat} {ls : List (Option GV)} {st : List GV} {h : GH} {a b : Nat}
theorem k_castS (S : Mach K KX D own mn cc nL dep mc ms hh rp) {idx ci q N : Nat} {C : String} {T : u_T} {fs : List GV} (d : decode cc pc = .ok (.checkcast idx, 3)) (w1 : Cond.classLink own idx C ∈ kwl) (hh9 : h q = some (gObj ci fs)) (hc : gcl[ci]? = some (C, T, N)) (kk : K (pc + 3) ls (gR (some q) :: st) h a b) : K pc ls (gR (some q) :: st) h a b := by
  obtain ⟨p, l, e, R, s, m, args, below, meth, c, Q, ⟨hx, hb, hown, hlk, hlD, hst, hKn, hmn⟩, hml, ⟨hRf, hRl, hRc, hRs⟩, htab, rfl, rfl, hrp⟩ := S
  intro H locs LS hR hS hL
  obtain ⟨ws, k0, hP, hD, hall, hk0⟩ := hR.get hh9
  have hv := va_recv hKn.1 hP hc hk0
  obtain ⟨cell, v1, v2, v3⟩ := id hv
  exact va_castY hx hb hown (hKn.2.1 _ w1 _) (nw_self v3) hv d (kk H locs LS hR hS hL)
end CST
/-! the class's cells. A: addresses (0 the object, 1 list of snippets, 2 tree, 3 gift, 4 text, 5 text ahead, 10+k snippet k, 20+k its list of parts, 30+k its trigger); tau: each cell's chunk -/
def XTop (h : GH) (τ A : Nat → Nat) (td cu lg sv ex un : Int) : Prop := h (A 0) = some (gObj 7 [gR (some (A 1)), gR (some (A 2)), gR (some (A 3)), gR (some (A 4)), gR (some (A 5)), gI td, gI cu, gI lg, gL sv, gI ex, gI un]) ∧ τ (A 0) = 1
def XLst (D : DD) (h : GH) (τ : Nat → Nat) (l t n : Nat) (F : Nat → Nat) : Prop := ∃ (e cap : Nat) (f : Nat → Option Nat), IsList D h l e cap n f ∧ (∀ i, i < n → f i = some (F i)) ∧ τ l = t ∧ (e ≠ cad D 4 → τ e = t)
def XSob (h : GH) (τ A : Nat → Nat) (k : Nat) (fw on sc sz he : Int) (re : Nat) : Prop := h (A (10 + k)) = some (gObj 4 [gI fw, gR (some (A (30 + k))), gR (some (A (20 + k))), gI on, gI sc, gI sz, gI he, gI ((re : Nat) : Int)]) ∧ τ (A (10 + k)) = 100 + k
def XTrg (h : GH) (τ A : Nat → Nat) (k n : Nat) (F : Nat → Int) : Prop := ∃ a : Nat, RowF h (A (30 + k)) a 6 n F ∧ τ (A (30 + k)) = 200 + k ∧ τ a = 200 + k
def XPrt (D : DD) (h : GH) (τ A : Nat → Nat) (k n : Nat) (pk : Nat → Nat) (p1 p2 : Nat → Int) : Prop := ∃ F : Nat → Nat, XLst D h τ (A (20 + k)) (300 + k) n F ∧ ∀ j, j < n → h (F j) = some (gObj 2 [gR (some (cad D (pk j))), gI (p1 j), gI (p2 j)]) ∧ τ (F j) = 7 ∧ pk j < 4
section
variable {D : DD} {h h1 : GH} {τ A : Nat → Nat} {P : Nat → Prop}
theorem XTop.kp {td cu lg sv ex un : Int} (hX : XTop h τ A td cu lg sv ex un) (hk : keeps h h1 P) (hn : ∀ q, τ q = 1 → ¬ P q) : XTop h1 τ A td cu lg sv ex un := ⟨hk _ _ hX.1 (hn _ hX.2), hX.2⟩
theorem XSob.kp {k : Nat} {fw on sc sz he : Int} {re : Nat} (hX : XSob h τ A k fw on sc sz he re) (hk : keeps h h1 P) (hn : ∀ q, τ q = 100 + k → ¬ P q) : XSob h1 τ A k fw on sc sz he re := ⟨hk _ _ hX.1 (hn _ hX.2), hX.2⟩
theorem XTrg.kp {k n : Nat} {F : Nat → Int} (hX : XTrg h τ A k n F) (hk : keeps h h1 P) (hn : ∀ q, τ q = 200 + k → ¬ P q) : XTrg h1 τ A k n F := by
  obtain ⟨a, e1, e2, e3⟩ := hX
  exact ⟨a, e1.kp hk (hn _ e2) (hn _ e3), e2, e3⟩
end
section
variable {h : GH} {τ A : Nat → Nat} {td cu lg sv ex un : Int} {n : Nat}
/-- requireSnippet(k) -/
theorem c_req_g (D : DD) (hX : XTop h τ A td cu lg sv ex un) (hL : XLst D h τ (A 1) 2 n (fun k => A (10 + k))) (hn : n ≤ 8) {k : Nat} (hk : k < n) : GMet D yX7_requireSnippet cX7_requireSnippet 2 none [] 2 0 0 [gR (some (A 0)), gI k] h (pv (fun h1 => h1 = h)) := by
  refine GMet.intro RX7 rfl (by decide) (gcats rfl) (Nat.le_of_ble_eq_true rfl) fun K KX S => ?_
  show K 0 [some _, some _] [] _ 0 0
  obtain ⟨e, cap, f, hl, hf, -, -⟩ := hL
  have g0 := hX.1
  obtain ⟨m9, g1⟩ := hl.1
  refine k_iload_n S dX7_requireSnippet_0 rfl ?_
  refine k_if_lt (tgt := 15) S dX7_requireSnippet_1 (by decide) (by omega) (fun c1 => ?_) (fun c1 => ?_)
  · omega
  · refine k_iload_n S dX7_requireSnippet_4 rfl ?_
    refine k_aload_n S dX7_requireSnippet_5 rfl ?_
    refine k_getf S dX7_requireSnippet_6 f_X7_12 (by assumption) (by rfl) ?_
    refine k_callV_r S dX7_requireSnippet_9 v_X7_61 (li_size D hl) (by assumption) (fun h9 hp9 => ?_) rfl rfl (by decide) (by omega) (by omega) (Nat.le_of_ble_eq_true rfl)
    rw [hp9]
    refine k_icmp_lt (tgt := 25) S dX7_requireSnippet_12 (by decide) (by omega) (by omega) (fun c12 => ?_) (fun c12 => ?_)
    · exact k_return S dX7_requireSnippet_25 ⟨rfl, rfl⟩ (by omega) (by omega)
    · omega
/-- requireSnippet, none there -/
theorem c_req_x (D : DD) (hX : XTop h τ A td cu lg sv ex un) (hL : XLst D h τ (A 1) 2 n (fun k => A (10 + k))) (hn : n ≤ 8) {k : Int} (hr : inR k) (hk : ¬ (0 ≤ k ∧ k < n)) : GMet D yX7_requireSnippet cX7_requireSnippet 2 none [] 7 1 6 [gR (some (A 0)), gI k] h (px "java/lang/IndexOutOfBoundsException" (fun h1 => h1 = h)) := by
  refine GMet.intro RX7 rfl (by decide) (gcats rfl) (Nat.le_of_ble_eq_true rfl) fun K KX S => ?_
  show K 0 [some _, some _] [] _ 0 0
  unfold inR at hr
  obtain ⟨e, cap, f, hl, hf, -, -⟩ := hL
  have g0 := hX.1
  obtain ⟨m9, g1⟩ := hl.1
  refine k_iload_n S dX7_requireSnippet_0 rfl ?_
  refine k_if_lt (tgt := 15) S dX7_requireSnippet_1 (by decide) (by omega) (fun c1 => ?_) (fun c1 => ?_)
  · exact k_throwS S th_248_240 dX7_requireSnippet_15 dX7_requireSnippet_18 dX7_requireSnippet_19 dX7_requireSnippet_21 dX7_requireSnippet_24 ⟨rfl, rfl⟩ (by omega) (by omega) (by decide)
  · refine k_iload_n S dX7_requireSnippet_4 rfl ?_
    refine k_aload_n S dX7_requireSnippet_5 rfl ?_
    refine k_getf S dX7_requireSnippet_6 f_X7_12 (by assumption) (by rfl) ?_
    refine k_callV_r S dX7_requireSnippet_9 v_X7_61 (li_size D hl) (by assumption) (fun h9 hp9 => ?_) rfl rfl (by decide) (by omega) (by omega) (Nat.le_of_ble_eq_true rfl)
    rw [hp9]
    refine k_icmp_lt (tgt := 25) S dX7_requireSnippet_12 (by decide) (by omega) (by omega) (fun c12 => ?_) (fun c12 => ?_)
    · omega
    · exact k_throwS S th_248_240 dX7_requireSnippet_15 dX7_requireSnippet_18 dX7_requireSnippet_19 dX7_requireSnippet_21 dX7_requireSnippet_24 ⟨rfl, rfl⟩ (by omega) (by omega) (by decide)
/-- snippetAt(k) -/
theorem c_snAt_g (D : DD) (hX : XTop h τ A td cu lg sv ex un) (hL : XLst D h τ (A 1) 2 n (fun k => A (10 + k))) (hn : n ≤ 8) {k : Nat} (hk : k < n) {fs : List GV} (hs : h (A (10 + k)) = some (gObj 4 fs)) : GMet D yX7_snippetAt cX7_snippetAt 2 (some (.object "ShorthandRules$Snippet")) [] 4 0 0 [gR (some (A 0)), gI k] h (pr (gR (some (A (10 + k)))) (fun h1 => h1 = h)) := by
  refine GMet.intro RX7 rfl (by decide) (gcats rfl) (Nat.le_of_ble_eq_true rfl) fun K KX S => ?_
  show K 0 [some _, some _] [] _ 0 0
  have hL0 := hL
  obtain ⟨e, cap, f, hl, hf, -, -⟩ := hL
  have g0 := hX.1
  obtain ⟨m9, g1⟩ := hl.1
  refine k_aload_n S dX7_snippetAt_0 rfl ?_
  refine k_iload_n S dX7_snippetAt_1 rfl ?_
  refine k_callV_v S dX7_snippetAt_2 v_X7_187 (c_req_g D hX hL0 hn hk) (by assumption) (fun h2 hp2 => ?_) rfl rfl (by decide) (by omega) (by omega) (Nat.le_of_ble_eq_true rfl)
  rw [hp2]
  refine k_aload_n S dX7_snippetAt_5 rfl ?_
  refine k_getf S dX7_snippetAt_6 f_X7_12 (by assumption) (by rfl) ?_
  refine k_iload_n S dX7_snippetAt_9 rfl ?_
  refine k_callV_r S dX7_snippetAt_10 v_X7_250 (li_get D hl (i := ((k : Nat) : Int)) (by omega)) (by assumption) (fun h10 hp10 => ?_) rfl rfl (by decide) (by omega) (by omega) (Nat.le_of_ble_eq_true rfl)
  rw [hp10, show ((k : Nat) : Int).toNat = k by omega, hf k hk]
  refine k_castS S dX7_snippetAt_13 cl_X7_72 (by assumption) rfl ?_
  exact k_areturn S dX7_snippetAt_16 (Or.inl ⟨_, rfl⟩) ⟨rfl, rfl⟩ (by omega) (by omega)
/-- snippetAt, none there -/
theorem c_snAt_x (D : DD) (hX : XTop h τ A td cu lg sv ex un) (hL : XLst D h τ (A 1) 2 n (fun k => A (10 + k))) (hn : n ≤ 8) {k : Int} (hr : inR k) (hk : ¬ (0 ≤ k ∧ k < n)) : GMet D yX7_snippetAt cX7_snippetAt 2 (some (.object "ShorthandRules$Snippet")) [] 8 1 6 [gR (some (A 0)), gI k] h (px "java/lang/IndexOutOfBoundsException" (fun h1 => h1 = h)) := by
  refine GMet.intro RX7 rfl (by decide) (gcats rfl) (Nat.le_of_ble_eq_true rfl) fun K KX S => ?_
  show K 0 [some _, some _] [] _ 0 0
  have g0 := hX.1
  refine k_aload_n S dX7_snippetAt_0 rfl ?_
  refine k_iload_n S dX7_snippetAt_1 rfl ?_
  refine k_callV_x S dX7_snippetAt_2 v_X7_187 (c_req_x D hX hL hn hr hk) (by assumption) (fun h2 hp2 => ?_) rfl rfl (by decide) (by omega) (by omega) (Nat.le_of_ble_eq_true rfl)
  rw [hp2]
  exact k_out S ⟨rfl, rfl⟩ (by omega) (by omega)
end
