/-! the model's cells: scalars, then arrays; h0 is the heap that the call began with -/
def mtl : List (Nat × Nat) := [(1, 48), (1, 96), (1, 81), (1, 81), (1, 400), (0, 8), (0, 8), (0, 96), (0, 96), (0, 400), (0, 400), (0, 400), (2, 8), (2, 8), (2, 8)]
def mrf (am : Nat → Nat) : List GV := [gR (some (am 0)), gR (some (am 1)), gR (some (am 2)), gR (some (am 3)), gR (some (am 4)), gR (some (am 5)), gR (some (am 6)), gR (some (am 7)), gR (some (am 8)), gR (some (am 9)), gR (some (am 10)), gR (some (am 11)), gR (some (am 12)), gR (some (am 13)), gR (some (am 14))]
def mP (mo : Nat) (am : Nat → Nat) : Nat → Prop := fun q => q = mo ∨ ∃ j, j < 15 ∧ q = am j
def IsM (h0 h : GH) (mo : Nat) (am : Nat → Nat) (vs : List GV) (As : List (Nat → Int)) : Prop := h mo = some (gObj 8 (vs ++ mrf am)) ∧ vs.length = 16 ∧ (∀ (j t n : Nat) (f : Nat → Int), mtl[j]? = some (t, n) → As[j]? = some f → h (am j) = some (gArr t n f)) ∧ (∀ i j, i < 15 → j < 15 → am i = am j → i = j) ∧ (∀ j, j < 15 → am j ≠ mo) ∧ keeps h0 h (mP mo am)
section
variable {h0 h h1 : GH} {mo : Nat} {am : Nat → Nat} {vs vs1 : List GV} {As As1 : List (Nat → Int)}
theorem IsM.ld {j t n : Nat} {f : Nat → Int} (hM : IsM h0 h mo am vs As) (e1 : mtl[j]? = some (t, n)) (e2 : As[j]? = some f) : h (am j) = some (gArr t n f) := hM.2.2.1 j t n f e1 e2
theorem IsM.rb (hM : IsM h0 h mo am vs As) : IsM h h mo am vs As := by
  obtain ⟨g1, g2, g3, g4, g5, g6⟩ := hM
  exact ⟨g1, g2, g3, g4, g5, keeps.rf⟩
theorem IsM.tr (hM : IsM h0 h mo am vs As) (hN : IsM h h1 mo am vs1 As1) : IsM h0 h1 mo am vs1 As1 := by
  obtain ⟨g1, g2, g3, g4, g5, g6⟩ := hN
  exact ⟨g1, g2, g3, g4, g5, hM.2.2.2.2.2.tr g6⟩
theorem IsM.put {k : Nat} {v : GV} (hM : IsM h0 h mo am vs As) (hk : k < 16) : IsM h0 (hput h mo (gObj 8 ((vs ++ mrf am).set k v))) mo am (vs.set k v) As := by
  obtain ⟨g1, g2, g3, g4, g5, g6⟩ := hM
  refine ⟨?_, by rw [List.length_set]; exact g2, fun j t n f e1 e2 => ?_, g4, g5, g6.tr (keeps.put (Or.inl (Or.inl rfl)))⟩
  · rw [hput_s, List.set_append_left _ _ (by omega)]
  · have hj : j < 15 := by
      have := (List.getElem?_eq_some_iff.mp e1).1
      exact this
    rw [hput_n _ _ (g5 j hj)]
    exact g3 j t n f e1 e2
theorem IsM.sto {j t n : Nat} {f : Nat → Int} (hM : IsM h0 h mo am vs As) (e1 : mtl[j]? = some (t, n)) : IsM h0 (hput h (am j) (gArr t n f)) mo am vs (As.set j f) := by
  obtain ⟨g1, g2, g3, g4, g5, g6⟩ := hM
  have hj : j < 15 := (List.getElem?_eq_some_iff.mp e1).1
  refine ⟨?_, g2, fun i t1 n1 f1 e3 e4 => ?_, g4, g5, g6.tr (keeps.put (Or.inl (Or.inr ⟨j, hj, rfl⟩)))⟩
  · rw [hput_n _ _ (g5 j hj).symm]; exact g1
  · have hi : i < 15 := (List.getElem?_eq_some_iff.mp e3).1
    by_cases e : i = j
    · subst e
      rw [hput_s]
      rw [List.getElem?_set] at e4
      rw [e1] at e3
      cases e3
      rw [if_pos rfl] at e4
      split at e4
      · cases e4; rfl
      · cases e4
    · rw [hput_n _ _ (fun z => e (g4 i j hi hj z))]
      rw [List.getElem?_set_ne (fun z => e z.symm)] at e4
      exact g3 i t1 n1 f1 e3 e4
theorem IsM.kp {P : Nat → Prop} (hM : IsM h0 h mo am vs As) (hk : keeps h h1 P) (hx : ∀ q, mP mo am q → ¬ P q) : IsM h1 h1 mo am vs As := by
  obtain ⟨g1, g2, g3, g4, g5, g6⟩ := hM
  exact ⟨hk _ _ g1 (hx _ (Or.inl rfl)), g2, fun j t n f e1 e2 => hk _ _ (g3 j t n f e1 e2) (hx _ (Or.inr ⟨j, (List.getElem?_eq_some_iff.mp e1).1, rfl⟩)), g4, g5, keeps.rf⟩
end
section
variable {K : Nat → List (Option GV) → List GV → GH → Nat → Nat → Prop} {KX : Nat → List (Option GV) → GH → Nat → Nat → String → Prop} {D : DD} {own mn : String} {cc : ByteArray} {nL dep mc ms : Nat} {hh : List (Nat × Nat × Nat × Nat)} {rp : Option (Option FieldType × (GO → GH → Prop))} {pc : Nat} {ls : List (Option GV)} {st : List GV} {h0 h : GH} {a b : Nat} {mo : Nat} {am : Nat → Nat} {vs : List GV} {As : List (Nat → Int)}
theorem k_mput (S : Mach K KX D own mn cc nL dep mc ms hh rp) {idx k : Nat} {fty : FieldType} {v : GV} (d : decode cc pc = .ok (.putfield idx, 3)) (hf : FL own idx 8 k fty false) (hM : IsM h0 h mo am vs As) (hv : gfit fty v) (hk : k < 16) (kk : ∀ h1, IsM h0 h1 mo am (vs.set k v) As → K (pc + 3) ls st h1 a b) : K pc ls (v :: gR (some mo) :: st) h a b :=
  k_putf S d hf hM.1 hv (by rw [List.length_append, hM.2.1]; omega) (kk _ (hM.put hk))
theorem k_mist (S : Mach K KX D own mn cc nL dep mc ms hh rp) {j n : Nat} {i x : Int} {f : Nat → Int} (d : decode cc pc = .ok (.iastore, 1)) (hM : IsM h0 h mo am vs As) (e1 : mtl[j]? = some (0, n)) (e2 : As[j]? = some f) (hj : 0 ≤ i ∧ i < 2147483648 ∧ i < (n : Int)) (kk : ∀ h1, IsM h0 h1 mo am vs (As.set j (gupd f i.toNat x)) → K (pc + 1) ls st h1 a b) : K pc ls (gI x :: gI i :: gR (some (am j)) :: st) h a b :=
  k_iastore S d (hM.ld e1 e2) hj (kk _ (hM.sto e1))
theorem k_mcst (S : Mach K KX D own mn cc nL dep mc ms hh rp) {j n : Nat} {i x : Int} {f : Nat → Int} (d : decode cc pc = .ok (.castore, 1)) (hM : IsM h0 h mo am vs As) (e1 : mtl[j]? = some (1, n)) (e2 : As[j]? = some f) (hj : 0 ≤ i ∧ i < 2147483648 ∧ i < (n : Int)) (hx9 : 0 ≤ x ∧ x < 65536) (kk : ∀ h1, IsM h0 h1 mo am vs (As.set j (gupd f i.toNat x)) → K (pc + 1) ls st h1 a b) : K pc ls (gI x :: gI i :: gR (some (am j)) :: st) h a b :=
  k_castore S d (hM.ld e1 e2) hj hx9 (kk _ (hM.sto e1))
theorem k_mzst (S : Mach K KX D own mn cc nL dep mc ms hh rp) {j n : Nat} {i x : Int} {f : Nat → Int} (d : decode cc pc = .ok (.bastore, 1)) (hM : IsM h0 h mo am vs As) (e1 : mtl[j]? = some (2, n)) (e2 : As[j]? = some f) (hj : 0 ≤ i ∧ i < 2147483648 ∧ i < (n : Int)) (hx9 : x = 0 ∨ x = 1) (kk : ∀ h1, IsM h0 h1 mo am vs (As.set j (gupd f i.toNat x)) → K (pc + 1) ls st h1 a b) : K pc ls (gI x :: gI i :: gR (some (am j)) :: st) h a b :=
  k_bastorez S d (hM.ld e1 e2) hj hx9 (kk _ (hM.sto e1))
end
section
variable {h : GH} {mo : Nat} {am : Nat → Nat} {th sn td ln ca st ld ls wl wc ws ex kp la sv cu : Int} {tg kd tx wa ou le pn on ot sp wp op fw of sc : Nat → Int}
/-- fail(place) -/
theorem m_fail (D : DD) (hM : IsM h h mo am [gI th, gI sn, gI td, gI ln, gI ca, gI st, gI ld, gI ls, gI wl, gI wc, gI ws, gI ex, gI kp, gI la, gL sv, gI cu] [tg, kd, tx, wa, ou, le, pn, on, ot, sp, wp, op, fw, of, sc]) {x : Int} : GMet D yX8_fail cX8_fail 2 (some .int) [] 1 0 0 [gR (some mo), gI x] h (pr (gI 0) (fun h1 => IsM h h1 mo am [gI (x), gI sn, gI td, gI ln, gI ca, gI st, gI ld, gI ls, gI wl, gI wc, gI ws, gI ex, gI kp, gI la, gL sv, gI cu] [tg, kd, tx, wa, ou, le, pn, on, ot, sp, wp, op, fw, of, sc])) := by
  refine GMet.intro RX8 rfl (by decide) (gcats rfl) (Nat.le_of_ble_eq_true rfl) fun K KX S => ?_
  show K 0 [some _, some _] [] _ 0 0
  refine k_aload_n S dX8_fail_0 rfl ?_
  refine k_iload_n S dX8_fail_1 rfl ?_
  refine k_mput S dX8_fail_2 f_X8_61 hM (gfit_int _) (Nat.le_of_ble_eq_true rfl) (fun h2 M2 => ?_)
  simp only [List.set_cons_succ, List.set_cons_zero] at M2
  refine k_iconst S dX8_fail_5 ?_
  exact k_ireturn S dX8_fail_6 ⟨rfl, M2⟩ (by omega) (by omega)
/-- isIn(x, low, high) -/
theorem m_isIn (D : DD) {x lo hi : Int} (h1 : inR x) (h2 : inR lo) (h3 : inR hi) : GMet D yX8_isIn cX8_isIn 3 (some .boolean) [] 1 0 0 [gI x, gI lo, gI hi] h (pr (gI (b01 (lo ≤ x ∧ x ≤ hi))) (fun h1 => h1 = h)) := by
  refine GMet.intro RX8 rfl (by decide) (gcats rfl) (Nat.le_of_ble_eq_true rfl) fun K KX S => ?_
  show K 0 [some _, some _, some _] [] _ 0 0
  unfold inR at h1 h2 h3
  refine k_iload_n S dX8_isIn_0 rfl ?_
  refine k_iload_n S dX8_isIn_1 rfl ?_
  refine k_icmp_lt (tgt := 14) S dX8_isIn_2 (by decide) (by omega) (by omega) (fun c2 => ?_) (fun c2 => ?_)
  · refine k_iconst S dX8_isIn_14 ?_
    exact k_zreturn S dX8_isIn_15 (by omega) ⟨by rw [b01_f (by omega)], rfl⟩ (by omega) (by omega)
  · refine k_iload_n S dX8_isIn_5 rfl ?_
    refine k_iload_n S dX8_isIn_6 rfl ?_
    refine k_icmp_gt (tgt := 14) S dX8_isIn_7 (by decide) (by omega) (by omega) (fun c7 => ?_) (fun c7 => ?_)
    · refine k_iconst S dX8_isIn_14 ?_
      exact k_zreturn S dX8_isIn_15 (by omega) ⟨by rw [b01_f (by omega)], rfl⟩ (by omega) (by omega)
    · refine k_iconst S dX8_isIn_10 ?_
      refine k_goto (tgt := 15) S dX8_isIn_11 (by decide) ?_
      exact k_zreturn S dX8_isIn_15 (by omega) ⟨by rw [b01_t (by omega)], rfl⟩ (by omega) (by omega)
/-- thrown() -/
theorem m_thrown (D : DD) (hM : IsM h h mo am [gI th, gI sn, gI td, gI ln, gI ca, gI st, gI ld, gI ls, gI wl, gI wc, gI ws, gI ex, gI kp, gI la, gL sv, gI cu] [tg, kd, tx, wa, ou, le, pn, on, ot, sp, wp, op, fw, of, sc]) : GMet D yX8_thrown cX8_thrown 1 (some .int) [] 1 0 0 [gR (some mo)] h (pr (gI th) (fun h1 => h1 = h)) := by
  refine GMet.intro RX8 rfl (by decide) (gcats rfl) (Nat.le_of_ble_eq_true rfl) fun K KX S => ?_
  show K 0 [some _] [] _ 0 0
  refine k_aload_n S dX8_thrown_0 rfl ?_
  refine k_getf S dX8_thrown_1 f_X8_61 hM.1 (by rfl) ?_
  exact k_ireturn S dX8_thrown_4 ⟨rfl, rfl⟩ (by omega) (by omega)
/-- noSnippet(s) -/
theorem m_noSnippet (D : DD) (hM : IsM h h mo am [gI th, gI sn, gI td, gI ln, gI ca, gI st, gI ld, gI ls, gI wl, gI wc, gI ws, gI ex, gI kp, gI la, gL sv, gI cu] [tg, kd, tx, wa, ou, le, pn, on, ot, sp, wp, op, fw, of, sc]) {s : Int} (hs : inR s) (hn : 0 ≤ sn ∧ sn ≤ 8) : GMet D yX8_noSnippet cX8_noSnippet 2 (some .boolean) [] 2 0 0 [gR (some mo), gI s] h (pr (gI (b01 (¬ (0 ≤ s ∧ s < sn)))) (fun h1 => IsM h h1 mo am [gI (b01 (¬ (0 ≤ s ∧ s < sn))), gI sn, gI td, gI ln, gI ca, gI st, gI ld, gI ls, gI wl, gI wc, gI ws, gI ex, gI kp, gI la, gL sv, gI cu] [tg, kd, tx, wa, ou, le, pn, on, ot, sp, wp, op, fw, of, sc])) := by
  refine GMet.intro RX8 rfl (by decide) (gcats rfl) (Nat.le_of_ble_eq_true rfl) fun K KX S => ?_
  show K 0 [some _, some _] [] _ 0 0
  have r0 := b01_r (¬ (0 ≤ s ∧ s < sn))
  have en : b01 (0 ≤ s ∧ s ≤ sn - 1) = b01 (0 ≤ s ∧ s < sn) := b01_c (by omega)
  have fin : ∀ h20 : GH, IsM h h20 mo am [gI (b01 (¬ (0 ≤ s ∧ s < sn))), gI sn, gI td, gI ln, gI ca, gI st, gI ld, gI ls, gI wl, gI wc, gI ws, gI ex, gI kp, gI la, gL sv, gI cu] [tg, kd, tx, wa, ou, le, pn, on, ot, sp, wp, op, fw, of, sc] → K 23 [some (gR (some mo)), some (gI s)] [] h20 0 0 := fun h20 M20 => by
    refine k_aload_n S dX8_noSnippet_23 rfl ?_
    refine k_getf S dX8_noSnippet_24 f_X8_61 M20.1 (by rfl) ?_
    refine k_if_eq (tgt := 34) S dX8_noSnippet_27 (by decide) (by omega) (fun c27 => ?_) (fun c27 => ?_)
    · refine k_iconst S dX8_noSnippet_34 ?_
      exact k_zreturn S dX8_noSnippet_35 (by omega) ⟨by rw [c27], M20⟩ (by omega) (by omega)
    · refine k_iconst S dX8_noSnippet_30 ?_
      refine k_goto (tgt := 35) S dX8_noSnippet_31 (by decide) ?_
      exact k_zreturn S dX8_noSnippet_35 (by omega) ⟨by rw [b01_t (b01_n.mp c27)], M20⟩ (by omega) (by omega)
  refine k_aload_n S dX8_noSnippet_0 rfl ?_
  refine k_iload_n S dX8_noSnippet_1 rfl ?_
  refine k_iconst S dX8_noSnippet_2 ?_
  refine k_aload_n S dX8_noSnippet_3 rfl ?_
  refine k_getf S dX8_noSnippet_4 f_X8_64 hM.1 (by rfl) ?_
  refine k_iconst S dX8_noSnippet_7 ?_
  refine k_isub S dX8_noSnippet_8 ?_
  refine k_callS_r S dX8_noSnippet_9 s_X8_67 (m_isIn D hs (by unfold inR; omega) (by unfold inR; omega)) (fun h9 hp9 => ?_) rfl rfl (by decide) (by omega) (by omega) (Nat.le_of_ble_eq_true rfl)
  rw [hp9, en]
  refine k_if_eq (tgt := 19) S dX8_noSnippet_12 (by decide) (b01_r _) (fun c12 => ?_) (fun c12 => ?_)
  · refine k_iconst S dX8_noSnippet_19 ?_
    refine k_mput S dX8_noSnippet_20 f_X8_61 hM (gfit_int _) (Nat.le_of_ble_eq_true rfl) (fun h20 M20 => ?_)
    simp only [List.set_cons_succ, List.set_cons_zero] at M20
    rw [← b01_t (p := ¬ (0 ≤ s ∧ s < sn)) (b01_0.mp c12)] at M20
    exact fin _ M20
  · refine k_iconst S dX8_noSnippet_15 ?_
    refine k_goto (tgt := 20) S dX8_noSnippet_16 (by decide) ?_
    refine k_mput S dX8_noSnippet_20 f_X8_61 hM (gfit_int _) (Nat.le_of_ble_eq_true rfl) (fun h20 M20 => ?_)
    simp only [List.set_cons_succ, List.set_cons_zero] at M20
    rw [← b01_f (p := ¬ (0 ≤ s ∧ s < sn)) (Classical.not_not.mpr (b01_n.mp c12))] at M20
    exact fin _ M20
end
