section
variable {h : GH} {τ A : Nat → Nat} {td cu lg sv ex un : Int} {n : Nat} {fw of sc sz he : Nat → Int} {re : Nat → Nat} {le tg pn kd on ot : Nat → Int} {rk : Nat → Nat}
/-- the tree of the first k triggers, with few nodes -/
def XTk (h : GH) (τ : Nat → Nat) (t k : Nat) (le tg : Nat → Int) : Prop := ∃ (m : Nat) (P C E : Nat → Int), IsTree h τ t m P C E ∧ twf m P C ∧ m ≤ 1 + 6 * k ∧ (∀ x, x < k → 0 < le x → ∃ j, j < m ∧ isP P C (fun i => tg (6 * x + i)) (le x).toNat 0 j) ∧ ∀ j, j < m → ∃ e : Nat, E j = (e : Nat) ∧ e < 256 ∧ ∀ x, x < 8 → (e.testBit x = true ↔ x < k ∧ 0 < le x ∧ isP P C (fun i => tg (6 * x + i)) (le x).toNat 0 j)
theorem XTk.skip {h : GH} {t k : Nat} (hT : XTk h τ t k le tg) (hl : ¬ 0 < le k) : XTk h τ t (k + 1) le tg := by
  obtain ⟨m, P, C, E, z1, z2, z3, z4, z5⟩ := hT
  refine ⟨m, P, C, E, z1, z2, by omega, fun x hx hx2 => ?_, fun j hj => ?_⟩
  · by_cases e : x = k
    · subst e; exact absurd hx2 hl
    · exact z4 x (by omega) hx2
  · obtain ⟨e, e1, e2, e3⟩ := z5 j hj
    refine ⟨e, e1, e2, fun x hx => (e3 x hx).trans ?_⟩
    constructor
    · rintro ⟨a1, a2, a3⟩; exact ⟨by omega, a2, a3⟩
    · rintro ⟨a1, a2, a3⟩
      refine ⟨?_, a2, a3⟩
      by_cases e8 : x = k
      · subst e8; exact absurd a2 hl
      · omega
theorem XTk.tre {h : GH} {t : Nat} (hT : XTk h τ t n le tg) (hn : n ≤ 8) : XTre h τ t n le tg := by
  obtain ⟨m, P, C, E, z1, z2, z3, z4⟩ := hT
  exact ⟨m, P, C, E, z1, z2, by omega, z4⟩
/-- one trigger more -/
theorem tk_add {h1 : GH} {t k M n1 nd : Nat} {P C E P1 C1 E1 : Nat → Int} (hk8 : k < 8) (hw : twf M P C) (hM : M ≤ 1 + 6 * k) (hl : 0 < le k ∧ le k ≤ 6) (h4 : ∀ x, x < k → 0 < le x → ∃ j, j < M ∧ isP P C (fun i => tg (6 * x + i)) (le x).toNat 0 j) (h5 : ∀ j, j < M → ∃ e : Nat, E j = (e : Nat) ∧ e < 256 ∧ ∀ x, x < 8 → (e.testBit x = true ↔ x < k ∧ 0 < le x ∧ isP P C (fun i => tg (6 * x + i)) (le x).toNat 0 j))
    (q1 : IsTree h1 τ t n1 P1 C1 E1) (q2 : twf n1 P1 C1) (q3 : M ≤ n1) (q4 : n1 ≤ M + (le k).toNat) (q5 : ∀ q, q < M → P1 q = P q ∧ C1 q = C q) (q6 : nd < n1) (q7 : isP P1 C1 (fun i => tg (6 * k + i)) (le k).toNat 0 nd) (q8 : ∀ q, q < n1 → E1 q = if q = nd then (((if q < M then E q else 0).toNat ||| 2 ^ k : Nat) : Int) else if q < M then E q else 0) : XTk h1 τ t (k + 1) le tg := by
  have ext := fun (f : Nat → Int) l i j (hj : j < M) => isP_ext (f := f) hw q5 l i j hj
  have bas : ∀ q, q < n1 → ∃ e : Nat, (if q < M then E q else 0) = (e : Nat) ∧ e < 256 ∧ ∀ x, x < 8 → (e.testBit x = true ↔ x < k ∧ 0 < le x ∧ isP P1 C1 (fun i => tg (6 * x + i)) (le x).toNat 0 q) := fun q hq => by
    by_cases e : q < M
    · rw [if_pos e]
      obtain ⟨e9, e1, e2, e3⟩ := h5 q e
      refine ⟨e9, e1, e2, fun x hx => (e3 x hx).trans ?_⟩
      rw [ext _ _ _ _ e]
    · rw [if_neg e]
      refine ⟨0, rfl, by omega, fun x hx => ?_⟩
      rw [Nat.zero_testBit]
      constructor
      · intro z; cases z
      · rintro ⟨a1, a2, a3⟩
        obtain ⟨j, j1, j2⟩ := h4 x a1 a2
        have := isP_uniq q2 _ _ _ _ (by omega) hq ((ext _ _ _ _ j1).mpr j2) a3
        omega
  refine ⟨n1, P1, C1, E1, q1, q2, by omega, fun x hx hx2 => ?_, fun q hq => ?_⟩
  · by_cases e : x = k
    · subst e; exact ⟨nd, q6, q7⟩
    · obtain ⟨j, j1, j2⟩ := h4 x (by omega) hx2
      exact ⟨j, by omega, (ext _ _ _ _ j1).mpr j2⟩
  · obtain ⟨e9, e1, e2, e3⟩ := bas q hq
    rw [q8 q hq, e1]
    by_cases e : q = nd
    · subst e
      rw [if_pos rfl]
      refine ⟨e9 ||| 2 ^ k, by rw [show (((e9 : Nat) : Int)).toNat = e9 by omega], Nat.or_lt_two_pow (n := 8) e2 (pw8 k hk8), fun x hx => ?_⟩
      rw [Nat.testBit_or, Nat.testBit_two_pow, Bool.or_eq_true, decide_eq_true_eq, e3 x hx]
      constructor
      · rintro (⟨a1, a2, a3⟩ | rfl)
        · exact ⟨by omega, a2, a3⟩
        · exact ⟨by omega, hl.1, q7⟩
      · rintro ⟨a1, a2, a3⟩
        by_cases e8 : k = x
        · exact Or.inr e8
        · exact Or.inl ⟨by omega, a2, a3⟩
    · rw [if_neg e]
      refine ⟨e9, rfl, e2, fun x hx => (e3 x hx).trans ?_⟩
      constructor
      · rintro ⟨a1, a2, a3⟩; exact ⟨by omega, a2, a3⟩
      · rintro ⟨a1, a2, a3⟩
        refine ⟨?_, a2, a3⟩
        by_cases e8 : x = k
        · subst e8
          exact absurd (isP_uniq q2 _ _ _ _ hq q6 a3 q7) e
        · omega
/-- growTree() -/
theorem c_growTree (D : DD) (hX : XTop h τ A td cu lg sv ex un) (hn : n ≤ 8) (hS : XS D h τ A n fw of sc le tg pn kd on ot) (hT : TOk (n : Nat) le of fw) (hg : allC tg) (hTr : ∃ (m : Nat) (P C E : Nat → Int), IsTree h τ (A 2) m P C E) : GMet D yX7_growTree cX7_growTree 3 none [] 6 0 0 [gR (some (A 0))] h (pv (fun h1 => XTre h1 τ (A 2) n le tg ∧ keeps h h1 (fun q => 30 ≤ τ q ∧ τ q ≤ 33))) := by
  refine GMet.intro RX7 rfl (by decide) (gcats rfl) (Nat.le_of_ble_eq_true rfl) fun K KX S => ?_
  show K 0 [some _, none, none] [] _ 0 0
  have g0 := hX.1
  obtain ⟨m0, P0, C0, E0, tr0⟩ := hTr
  obtain ⟨r0, a0, r1, a1, r2, a2, y0, -⟩ := id tr0
  have loop : ∀ (d k : Nat) (h5 : GH) (l2 : Option GV), k + d = n → XTk h5 τ (A 2) k le tg → keeps h h5 (fun q => 30 ≤ τ q ∧ τ q ≤ 33) → K 9 [some (gR (some (A 0))), some (gI k), l2] [] h5 0 0 := by
    intro d
    induction d with
    | zero =>
      intro k h5 l2 hk T5 k5
      have X5 := hX.kp k5 (fun q e => by omega)
      obtain ⟨sz, he, re, S5, -⟩ := hS.mv k5 (fun q e => by omega) rtg.rf ⟨rfl, fun _ _ => ⟨rfl, rfl, rfl⟩⟩
      have g05 := X5.1
      obtain ⟨e9, cap, f, hl, hf, -, -⟩ := id S5.1
      obtain ⟨m9, gl⟩ := hl.1
      refine k_iload_n S dX7_growTree_9 rfl ?_
      refine k_aload_n S dX7_growTree_10 rfl ?_
      refine k_getf S dX7_growTree_11 f_X7_12 (by assumption) (by rfl) ?_
      refine k_callV_r S dX7_growTree_14 v_X7_61 (li_size D hl) (by assumption) (fun h14 hp14 => ?_) rfl rfl (by decide) (by omega) (by omega) (Nat.le_of_ble_eq_true rfl)
      rw [hp14]
      refine k_icmp_ge (tgt := 51) S dX7_growTree_17 (by decide) (by omega) (by omega) (fun c17 => ?_) (fun c17 => ?_)
      · exact k_return S dX7_growTree_51 ⟨rfl, by rw [show k = n by omega] at T5; exact T5.tre hn, k5⟩ (by omega) (by omega)
      · omega
    | succ d ih =>
      intro k h5 l2 hk T5 k5
      have X5 := hX.kp k5 (fun q e => by omega)
      obtain ⟨sz, he, re, S5, -⟩ := hS.mv k5 (fun q e => by omega) rtg.rf ⟨rfl, fun _ _ => ⟨rfl, rfl, rfl⟩⟩
      have g05 := X5.1
      obtain ⟨e9, cap, f, hl, hf, -, -⟩ := id S5.1
      obtain ⟨m9, gl⟩ := hl.1
      have hkn : k < n := by omega
      obtain ⟨gk, tk⟩ := id (S5.2.1 k hkn)
      obtain ⟨a1, rw1, t1, t2⟩ := S5.2.2.1 k hkn
      obtain ⟨f1, q1, q1f⟩ := id rw1
      have q1a := q1.1
      have lk := (hT k (by omega)).1
      refine k_iload_n S dX7_growTree_9 rfl ?_
      refine k_aload_n S dX7_growTree_10 rfl ?_
      refine k_getf S dX7_growTree_11 f_X7_12 (by assumption) (by rfl) ?_
      refine k_callV_r S dX7_growTree_14 v_X7_61 (li_size D hl) (by assumption) (fun h14 hp14 => ?_) rfl rfl (by decide) (by omega) (by omega) (Nat.le_of_ble_eq_true rfl)
      rw [hp14]
      refine k_icmp_ge (tgt := 51) S dX7_growTree_17 (by decide) (by omega) (by omega) (fun c17 => ?_) (fun c17 => ?_)
      · omega
      · refine k_aload_n S dX7_growTree_20 rfl ?_
        refine k_iload_n S dX7_growTree_21 rfl ?_
        refine k_callV_r S dX7_growTree_22 v_X7_81 (c_snAt_g D X5 S5.1 hn hkn gk) (by assumption) (fun h22 hp22 => ?_) rfl rfl (by decide) (by omega) (by omega) (Nat.le_of_ble_eq_true rfl)
        rw [hp22]
        refine k_getf S dX7_growTree_25 f_X7_89 (by assumption) (by rfl) ?_
        refine k_astore_n S dX7_growTree_28 (by decide) ?_
        refine k_aload_n S dX7_growTree_29 rfl ?_
        refine k_callV_r S dX7_growTree_30 v_X7_320 (row_isEmpty D q1) (by assumption) (fun h30 hp30 => ?_) rfl rfl (by decide) (by omega) (by omega) (Nat.le_of_ble_eq_true rfl)
        rw [hp30]
        refine k_if_ne (tgt := 45) S dX7_growTree_33 (by decide) (b01_r _) (fun c33 => ?_) (fun c33 => ?_)
        · refine k_iinc S dX7_growTree_45 rfl (by decide) ?_
          refine k_goto (tgt := 9) S dX7_growTree_48 (by decide) ?_
          exact ih (k + 1) h5 _ (by omega) (T5.skip (by have := b01_n.mp c33; omega)) k5
        · have hl0 : 0 < le k := by have := b01_0.mp c33; omega
          obtain ⟨M, P, C, E, z1, z2, z3, z4, z5⟩ := T5
          obtain ⟨r0, a0, r1, a1, r2, a2, y05, -⟩ := id z1
          have nt : ∀ q, τ q = 200 + k → ¬ kT τ q := fun q e => by unfold kT; omega
          refine k_aload_n S dX7_growTree_36 rfl ?_
          refine k_getf S dX7_growTree_37 f_X7_19 (by assumption) (by rfl) ?_
          refine k_aload_n S dX7_growTree_40 rfl ?_
          refine k_iload_n S dX7_growTree_41 rfl ?_
          refine k_callV_v S dX7_growTree_42 v_X7_336 (tr_add D z1 rw1 (nt _ t1) (nt _ t2) z2 (fun q _ => hg _) (by omega) (by omega) (fun q hq => by obtain ⟨e, e1, e2, -⟩ := z5 q hq; omega)) (by assumption) (fun h42 hp42 => ?_) rfl rfl (by decide) (by omega) (by omega) (Nat.le_of_ble_eq_true rfl)
          refine k_iinc S dX7_growTree_45 rfl (by decide) ?_
          refine k_goto (tgt := 9) S dX7_growTree_48 (by decide) ?_
          obtain ⟨⟨n1, P1, C1, E1, nd, w1, w2, w3, w4, w5, w6, w7, w8⟩, w9⟩ := hp42
          exact ih (k + 1) h42 _ (by omega) (tk_add (by omega) z2 z3 ⟨hl0, lk.2⟩ z4 z5 w1 w2 w3 w4 w5 w6 w7 w8) (k5.tr (w9.mono fun q e => by unfold kT at e; omega))
  refine k_aload_n S dX7_growTree_0 rfl ?_
  refine k_getf S dX7_growTree_1 f_X7_19 (by assumption) (by rfl) ?_
  refine k_callV_v S dX7_growTree_4 v_X7_335 (tr_empty D tr0) (by assumption) (fun h4 hp4 => ?_) rfl rfl (by decide) (by omega) (by omega) (Nat.le_of_ble_eq_true rfl)
  refine k_iconst S dX7_growTree_7 ?_
  refine k_istore_n S dX7_growTree_8 (by decide) ?_
  obtain ⟨⟨P1, C1, E1, w1, w2, w3, w4⟩, w5⟩ := hp4
  refine loop n 0 h4 none (by omega) ⟨1, P1, C1, E1, w1, ⟨⟨by omega, w2⟩, fun j h1 h2 => by omega, fun i j h1 h2 h3 h4 => by omega, fun j hj => by rw [show j = 0 by omega, w3]; omega⟩, by omega, fun x hx => by omega, fun j hj => ⟨0, by rw [show j = 0 by omega, w4]; rfl, by omega, fun x hx => by rw [Nat.zero_testBit]; exact ⟨fun z => (by cases z), fun z => (by omega)⟩⟩⟩ (w5.mono fun q e => by unfold kT at e; omega)
/-- clearTrigger, no snippet -/
theorem c_clearTrig_b (D : DD) (hX : XTop h τ A td cu lg sv ex un) (hn : n ≤ 8) (hS : XS D h τ A n fw of sc le tg pn kd on ot) {k : Int} (hr : inR k) (hk : ¬ (0 ≤ k ∧ k < n)) : GMet D yX7_clearTrigger cX7_clearTrigger 4 (some .int) [] 9 1 6 [gR (some (A 0)), gI k] h (px "java/lang/IndexOutOfBoundsException" (fun h1 => h1 = h)) := by
  refine GMet.intro RX7 rfl (by decide) (gcats rfl) (Nat.le_of_ble_eq_true rfl) fun K KX S => ?_
  show K 0 [some _, some _, none, none] [] _ 0 0
  have g0 := hX.1
  obtain ⟨sz, he, re, hS, hG⟩ := hS
  refine k_aload_n S dX7_clearTrigger_0 rfl ?_
  refine k_iload_n S dX7_clearTrigger_1 rfl ?_
  refine k_callV_x S dX7_clearTrigger_2 v_X7_81 (c_snAt_x D hX hS.1 hn hr hk) (by assumption) (fun h2 hp2 => ?_) rfl rfl (by decide) (by omega) (by omega) (Nat.le_of_ble_eq_true rfl)
  rw [hp2]
  exact k_out S ⟨rfl, rfl⟩ (by omega) (by omega)
/-- clearTrigger -/
theorem c_clearTrig_g (D : DD) (hX : XTop h τ A td cu lg sv ex un) (hn : n ≤ 8) (hS : XS D h τ A n fw of sc le tg pn kd on ot) (hT : TOk (n : Nat) le of fw) (hg : allC tg) (hTr : ∃ (m : Nat) (P C E : Nat → Int), IsTree h τ (A 2) m P C E) {x : Nat} (hx : x < n) : GMet D yX7_clearTrigger cX7_clearTrigger 4 (some .int) [] 9 1 6 [gR (some (A 0)), gI x] h (pr (gI (le x)) (fun h1 => XS D h1 τ A n fw of sc (gupd le x 0) tg pn kd on ot ∧ XTre h1 τ (A 2) n (gupd le x 0) tg ∧ keeps h h1 (fun q => 30 ≤ τ q ∧ τ q ≤ 33 ∨ 100 ≤ τ q))) := by
  refine GMet.intro RX7 rfl (by decide) (gcats rfl) (Nat.le_of_ble_eq_true rfl) fun K KX S => ?_
  show K 0 [some _, some _, none, none] [] _ 0 0
  have g0 := hX.1
  obtain ⟨sz, he, re, hS, hG⟩ := hS
  obtain ⟨gx, tx9⟩ := id (hS.2.1 x hx)
  obtain ⟨a1, rw1, t1, t2⟩ := hS.2.2.1 x hx
  obtain ⟨f1, q1, q1f⟩ := id rw1
  have q1a := q1.1
  have q1b := q1.2.1
  have lx := (hT x (by omega)).1
  refine k_aload_n S dX7_clearTrigger_0 rfl ?_
  refine k_iload_n S dX7_clearTrigger_1 rfl ?_
  refine k_callV_r S dX7_clearTrigger_2 v_X7_81 (c_snAt_g D hX hS.1 hn hx gx) (by assumption) (fun h2 hp2 => ?_) rfl rfl (by decide) (by omega) (by omega) (Nat.le_of_ble_eq_true rfl)
  rw [hp2]
  refine k_astore_n S dX7_clearTrigger_5 (by decide) ?_
  refine k_aload_n S dX7_clearTrigger_6 rfl ?_
  refine k_getf S dX7_clearTrigger_7 f_X7_89 (by assumption) (by rfl) ?_
  refine k_callV_r S dX7_clearTrigger_10 v_X7_107 (row_count D q1) (by assumption) (fun h10 hp10 => ?_) rfl rfl (by decide) (by omega) (by omega) (Nat.le_of_ble_eq_true rfl)
  rw [hp10]
  refine k_istore_n S dX7_clearTrigger_13 (by decide) ?_
  refine k_aload_n S dX7_clearTrigger_14 rfl ?_
  refine k_getf S dX7_clearTrigger_15 f_X7_89 (by assumption) (by rfl) ?_
  refine k_callV_v S dX7_clearTrigger_18 v_X7_110 (row_empty D q1) (by assumption) (fun h18 hp18 => ?_) rfl rfl (by decide) (by omega) (by omega) (Nat.le_of_ble_eq_true rfl)
  have k18 : keeps h h18 (fun q => τ q = 200 + x) := (hp18.2.keeps).mono fun q z => z.elim (fun e9 => by rw [e9]; exact t1) (fun e9 => by rw [e9]; exact t2)
  have S18 : XSn D h18 τ A n fw of sc sz he re (gupd le x 0) tg pn kd on ot := hS.ch hn k18 ⟨a1, by rw [gupd_s]; exact ⟨f1, hp18.1, fun q hq => absurd hq (by simp)⟩, t1, t2⟩ (by omega) (fun k hk e => ⟨gupd_n _ _ e, fun j hj => rfl⟩)
  have X18 := hX.kp k18 (fun q e => by omega)
  have g018 := X18.1
  obtain ⟨m0, P0, C0, E0, tr0⟩ := hTr
  have hTr18 : ∃ (m : Nat) (P C E : Nat → Int), IsTree h18 τ (A 2) m P C E := ⟨m0, P0, C0, E0, tr0.kp k18 (fun q e1 e2 => by omega)⟩
  have hT1 : TOk (n : Nat) (gupd le x 0) of fw := fun s hs => by
    obtain ⟨u1, u2, u3⟩ := hT s hs
    refine ⟨?_, u2, u3⟩
    by_cases e : s = x
    · subst e; rw [gupd_s]; omega
    · rw [gupd_n _ _ e]; exact u1
  have hg1 : allC tg := hg
  refine k_aload_n S dX7_clearTrigger_21 rfl ?_
  refine k_callV_v S dX7_clearTrigger_22 v_X7_104 (c_growTree D X18 hn ⟨sz, he, re, S18, hG⟩ hT1 hg1 hTr18) (by assumption) (fun h22 hp22 => ?_) rfl rfl (by decide) (by omega) (by omega) (Nat.le_of_ble_eq_true rfl)
  rw [show (((le x).toNat : Nat) : Int) = le x by omega]
  refine k_iload_n S dX7_clearTrigger_25 rfl ?_
  exact k_ireturn S dX7_clearTrigger_26 ⟨rfl, XS.mv (P := (fun q => 30 ≤ τ q ∧ τ q ≤ 33)) ⟨sz, he, re, S18, hG⟩ hp22.2 (fun q e => by omega) rtg.rf ⟨rfl, fun _ _ => ⟨rfl, rfl, rfl⟩⟩, hp22.1, (k18.mono fun q e => by omega).tr (hp22.2.mono fun q e => Or.inl e)⟩ (by omega) (by omega)
/-- addToTrigger, no snippet -/
theorem c_addTrig_b (D : DD) (hX : XTop h τ A td cu lg sv ex un) (hn : n ≤ 8) (hS : XS D h τ A n fw of sc le tg pn kd on ot) {k : Int} (hr : inR k) (hk : ¬ (0 ≤ k ∧ k < n)) {c : Int} : GMet D yX7_addToTrigger cX7_addToTrigger 4 (some .int) [] 9 1 6 [gR (some (A 0)), gI k, gI c] h (px "java/lang/IndexOutOfBoundsException" (fun h1 => h1 = h)) := by
  refine GMet.intro RX7 rfl (by decide) (gcats rfl) (Nat.le_of_ble_eq_true rfl) fun K KX S => ?_
  show K 0 [some _, some _, some _, none] [] _ 0 0
  have g0 := hX.1
  obtain ⟨sz, he, re, hS, hG⟩ := hS
  refine k_aload_n S dX7_addToTrigger_0 rfl ?_
  refine k_iload_n S dX7_addToTrigger_1 rfl ?_
  refine k_callV_x S dX7_addToTrigger_2 v_X7_81 (c_snAt_x D hX hS.1 hn hr hk) (by assumption) (fun h2 hp2 => ?_) rfl rfl (by decide) (by omega) (by omega) (Nat.le_of_ble_eq_true rfl)
  rw [hp2]
  exact k_out S ⟨rfl, rfl⟩ (by omega) (by omega)
/-- addToTrigger, not a character -/
theorem c_addTrig_c (D : DD) (hX : XTop h τ A td cu lg sv ex un) (hn : n ≤ 8) (hS : XS D h τ A n fw of sc le tg pn kd on ot) {x : Nat} (hx : x < n) {c : Int} (hc : 0 ≤ c ∧ c < 65536) (hc2 : ¬ canT c) : GMet D yX7_addToTrigger cX7_addToTrigger 4 (some .int) [] 9 1 6 [gR (some (A 0)), gI x, gI c] h (px "java/lang/IllegalArgumentException" (fun h1 => h1 = h)) := by
  refine GMet.intro RX7 rfl (by decide) (gcats rfl) (Nat.le_of_ble_eq_true rfl) fun K KX S => ?_
  show K 0 [some _, some _, some _, none] [] _ 0 0
  have g0 := hX.1
  obtain ⟨sz, he, re, hS, hG⟩ := hS
  obtain ⟨gx, tx9⟩ := id (hS.2.1 x hx)
  refine k_aload_n S dX7_addToTrigger_0 rfl ?_
  refine k_iload_n S dX7_addToTrigger_1 rfl ?_
  refine k_callV_r S dX7_addToTrigger_2 v_X7_81 (c_snAt_g D hX hS.1 hn hx gx) (by assumption) (fun h2 hp2 => ?_) rfl rfl (by decide) (by omega) (by omega) (Nat.le_of_ble_eq_true rfl)
  rw [hp2]
  refine k_astore_n S dX7_addToTrigger_5 (by decide) ?_
  refine k_iload_n S dX7_addToTrigger_6 rfl ?_
  refine k_callS_x S dX7_addToTrigger_7 s_X7_85 (c_typeable_x D hc hc2) (fun h7 hp7 => ?_) rfl rfl (by decide) (by omega) (by omega) (Nat.le_of_ble_eq_true rfl)
  rw [hp7]
  exact k_out S ⟨rfl, rfl⟩ (by omega) (by omega)
/-- addToTrigger, full -/
theorem c_addTrig_f (D : DD) (hX : XTop h τ A td cu lg sv ex un) (hn : n ≤ 8) (hS : XS D h τ A n fw of sc le tg pn kd on ot) (hT : TOk (n : Nat) le of fw) (hg : allC tg) (hTr : ∃ (m : Nat) (P C E : Nat → Int), IsTree h τ (A 2) m P C E) {x : Nat} (hx : x < n) {c : Int} (hc : 0 ≤ c ∧ c < 65536) (hc2 : canT c) (hl6 : le x = 6) : GMet D yX7_addToTrigger cX7_addToTrigger 4 (some .int) [] 9 1 6 [gR (some (A 0)), gI x, gI c] h (px "java/lang/IllegalStateException" (fun h1 => h1 = h)) := by
  refine GMet.intro RX7 rfl (by decide) (gcats rfl) (Nat.le_of_ble_eq_true rfl) fun K KX S => ?_
  show K 0 [some _, some _, some _, none] [] _ 0 0
  have g0 := hX.1
  obtain ⟨sz, he, re, hS, hG⟩ := hS
  obtain ⟨gx, tx9⟩ := id (hS.2.1 x hx)
  obtain ⟨a1, rw1, t1, t2⟩ := hS.2.2.1 x hx
  obtain ⟨f1, q1, q1f⟩ := id rw1
  have q1a := q1.1
  have q1b := q1.2.1
  have lx := (hT x (by omega)).1
  refine k_aload_n S dX7_addToTrigger_0 rfl ?_
  refine k_iload_n S dX7_addToTrigger_1 rfl ?_
  refine k_callV_r S dX7_addToTrigger_2 v_X7_81 (c_snAt_g D hX hS.1 hn hx gx) (by assumption) (fun h2 hp2 => ?_) rfl rfl (by decide) (by omega) (by omega) (Nat.le_of_ble_eq_true rfl)
  rw [hp2]
  refine k_astore_n S dX7_addToTrigger_5 (by decide) ?_
  refine k_iload_n S dX7_addToTrigger_6 rfl ?_
  refine k_callS_v S dX7_addToTrigger_7 s_X7_85 (c_typeable D hc hc2) (fun h7 hp7 => ?_) rfl rfl (by decide) (by omega) (by omega) (Nat.le_of_ble_eq_true rfl)
  rw [hp7]
  refine k_aload_n S dX7_addToTrigger_10 rfl ?_
  refine k_getf S dX7_addToTrigger_11 f_X7_89 (by assumption) (by rfl) ?_
  refine k_callV_r S dX7_addToTrigger_14 v_X7_93 (row_isFull D q1) (by assumption) (fun h14 hp14 => ?_) rfl rfl (by decide) (by omega) (by omega) (Nat.le_of_ble_eq_true rfl)
  rw [hp14]
  refine k_if_eq (tgt := 30) S dX7_addToTrigger_17 (by decide) (b01_r _) (fun c17 => ?_) (fun c17 => ?_)
  · exact absurd (show (le x).toNat = 6 by omega) (b01_0.mp c17)
  · exact k_throwS S th_99_65 dX7_addToTrigger_20 dX7_addToTrigger_23 dX7_addToTrigger_24 dX7_addToTrigger_26 dX7_addToTrigger_29 ⟨rfl, rfl⟩ (by omega) (by omega) (by decide)
/-- addToTrigger -/
theorem c_addTrig_g (D : DD) (hX : XTop h τ A td cu lg sv ex un) (hn : n ≤ 8) (hS : XS D h τ A n fw of sc le tg pn kd on ot) (hT : TOk (n : Nat) le of fw) (hg : allC tg) (hTr : ∃ (m : Nat) (P C E : Nat → Int), IsTree h τ (A 2) m P C E) {x : Nat} (hx : x < n) {c : Int} (hc : 0 ≤ c ∧ c < 65536) (hc2 : canT c) (hl6 : le x < 6) : GMet D yX7_addToTrigger cX7_addToTrigger 4 (some .int) [] 9 1 6 [gR (some (A 0)), gI x, gI c] h (pr (gI (le x + 1)) (fun h1 => XS D h1 τ A n fw of sc (gupd le x (le x + 1)) (gupd tg (6 * x + (le x).toNat) c) pn kd on ot ∧ XTre h1 τ (A 2) n (gupd le x (le x + 1)) (gupd tg (6 * x + (le x).toNat) c) ∧ keeps h h1 (fun q => 30 ≤ τ q ∧ τ q ≤ 33 ∨ 100 ≤ τ q))) := by
  refine GMet.intro RX7 rfl (by decide) (gcats rfl) (Nat.le_of_ble_eq_true rfl) fun K KX S => ?_
  show K 0 [some _, some _, some _, none] [] _ 0 0
  have g0 := hX.1
  obtain ⟨sz, he, re, hS, hG⟩ := hS
  obtain ⟨gx, tx9⟩ := id (hS.2.1 x hx)
  obtain ⟨a1, rw1, t1, t2⟩ := hS.2.2.1 x hx
  obtain ⟨f1, q1, q1f⟩ := id rw1
  have q1a := q1.1
  have q1b := q1.2.1
  have lx := (hT x (by omega)).1
  refine k_aload_n S dX7_addToTrigger_0 rfl ?_
  refine k_iload_n S dX7_addToTrigger_1 rfl ?_
  refine k_callV_r S dX7_addToTrigger_2 v_X7_81 (c_snAt_g D hX hS.1 hn hx gx) (by assumption) (fun h2 hp2 => ?_) rfl rfl (by decide) (by omega) (by omega) (Nat.le_of_ble_eq_true rfl)
  rw [hp2]
  refine k_astore_n S dX7_addToTrigger_5 (by decide) ?_
  refine k_iload_n S dX7_addToTrigger_6 rfl ?_
  refine k_callS_v S dX7_addToTrigger_7 s_X7_85 (c_typeable D hc hc2) (fun h7 hp7 => ?_) rfl rfl (by decide) (by omega) (by omega) (Nat.le_of_ble_eq_true rfl)
  rw [hp7]
  refine k_aload_n S dX7_addToTrigger_10 rfl ?_
  refine k_getf S dX7_addToTrigger_11 f_X7_89 (by assumption) (by rfl) ?_
  refine k_callV_r S dX7_addToTrigger_14 v_X7_93 (row_isFull D q1) (by assumption) (fun h14 hp14 => ?_) rfl rfl (by decide) (by omega) (by omega) (Nat.le_of_ble_eq_true rfl)
  rw [hp14]
  refine k_if_eq (tgt := 30) S dX7_addToTrigger_17 (by decide) (b01_r _) (fun c17 => ?_) (fun c17 => ?_)
  · have hlt : (le x).toNat < 6 := by omega
    refine k_aload_n S dX7_addToTrigger_30 rfl ?_
    refine k_getf S dX7_addToTrigger_31 f_X7_89 (by assumption) (by rfl) ?_
    refine k_iload_n S dX7_addToTrigger_34 rfl ?_
    refine k_callV_v S dX7_addToTrigger_35 v_X7_101 (row_add D q1 (v := c)) (by assumption) (fun h35 hp35 => ?_) rfl rfl (by decide) (by omega) (by omega) (Nat.le_of_ble_eq_true rfl)
    rw [if_pos hlt, if_pos hlt] at hp35
    have k35 : keeps h h35 (fun q => τ q = 200 + x) := (hp35.2.keeps).mono fun q z => z.elim (fun e9 => by rw [e9]; exact t1) (fun e9 => by rw [e9]; exact t2)
    have S35 : XSn D h35 τ A n fw of sc sz he re (gupd le x (le x + 1)) (gupd tg (6 * x + (le x).toNat) c) pn kd on ot := hS.ch hn k35 ⟨a1, by
      rw [gupd_s, show (le x + 1).toNat = (le x).toNat + 1 by omega]
      refine ⟨_, hp35.1, fun q hq => ?_⟩
      by_cases e : q = (le x).toNat
      · subst e; rw [gupd_s]; exact (gupd_s _ _ _).symm
      · rw [gupd_n _ _ e, q1f q (by omega)]; exact (gupd_n _ _ (by omega)).symm, t1, t2⟩ (by omega) (fun k hk e => ⟨gupd_n _ _ e, fun j hj => gupd_n _ _ (by have := (hT k (by omega)).1; omega)⟩)
    have X35 := hX.kp k35 (fun q e => by omega)
    have g035 := X35.1
    obtain ⟨m0, P0, C0, E0, tr0⟩ := hTr
    have hTr35 : ∃ (m : Nat) (P C E : Nat → Int), IsTree h35 τ (A 2) m P C E := ⟨m0, P0, C0, E0, tr0.kp k35 (fun q e1 e2 => by omega)⟩
    have hT1 : TOk (n : Nat) (gupd le x (le x + 1)) of fw := fun s hs => by
      obtain ⟨u1, u2, u3⟩ := hT s hs
      refine ⟨?_, u2, u3⟩
      by_cases e : s = x
      · subst e; rw [gupd_s]; omega
      · rw [gupd_n _ _ e]; exact u1
    have hg1 : allC (gupd tg (6 * x + (le x).toNat) c) := fun q => by
      by_cases e : q = 6 * x + (le x).toNat
      · subst e; rw [gupd_s]; exact hc
      · rw [gupd_n _ _ e]; exact hg q

    refine k_aload_n S dX7_addToTrigger_38 rfl ?_
    refine k_callV_v S dX7_addToTrigger_39 v_X7_104 (c_growTree D X35 hn ⟨sz, he, re, S35, hG⟩ hT1 hg1 hTr35) (by assumption) (fun h39 hp39 => ?_) rfl rfl (by decide) (by omega) (by omega) (Nat.le_of_ble_eq_true rfl)
    have S39 : XS D h39 τ A n fw of sc (gupd le x (le x + 1)) (gupd tg (6 * x + (le x).toNat) c) pn kd on ot := XS.mv (P := (fun q => 30 ≤ τ q ∧ τ q ≤ 33)) ⟨sz, he, re, S35, hG⟩ hp39.2 (fun q e => by omega) rtg.rf ⟨rfl, fun _ _ => ⟨rfl, rfl, rfl⟩⟩
    obtain ⟨sz9, he9, re9, S9, -⟩ := id S39
    obtain ⟨gx9, -⟩ := S9.2.1 x hx
    obtain ⟨a9, ⟨f9, q9, -⟩, -⟩ := S9.2.2.1 x hx
    have q9a := q9.1
    refine k_aload_n S dX7_addToTrigger_42 rfl ?_
    refine k_getf S dX7_addToTrigger_43 f_X7_89 (by assumption) (by rfl) ?_
    refine k_callV_r S dX7_addToTrigger_46 v_X7_107 (row_count D q9) (by assumption) (fun h46 hp46 => ?_) rfl rfl (by decide) (by omega) (by omega) (Nat.le_of_ble_eq_true rfl)
    rw [hp46, gupd_s, show (((le x + 1).toNat : Nat) : Int) = le x + 1 by omega]
    exact k_ireturn S dX7_addToTrigger_49 ⟨rfl, S39, hp39.1, (k35.mono fun q e => by omega).tr (hp39.2.mono fun q e => Or.inl e)⟩ (by omega) (by omega)
  · exact absurd (b01_n.mp c17) (by omega)
end
