/-! new cells -/
theorem ne_fr {h : GH} {a b : Nat} {g : gE} (e1 : h a = some g) (e2 : h b = none) : a ≠ b := fun e => by subst e; rw [e1] at e2; cases e2
theorem keeps.no {h h1 : GH} {P : Nat → Prop} (hk : keeps h h1 P) {q : Nat} (hq : h1 q = none) (hn : ¬ P q) : h q = none := by
  cases z : h q with
  | none => rfl
  | some u => rw [hk _ _ z hn] at hq; cases hq
theorem hput_no {h : GH} {t q : Nat} {g : gE} (hq : hput h t g q = none) : h q = none ∧ q ≠ t := by
  have e : q ≠ t := fun e => by subst e; rw [hput_s] at hq; cases hq
  rw [hput_n _ _ e] at hq
  exact ⟨hq, e⟩
theorem keeps.fr {h h1 : GH} {q : Nat} {g : gE} {P : Nat → Prop} (n : h q = none) (hk : keeps (hput h q g) h1 (fun z => z = q)) : keeps h h1 P := fun z u hz _ => by
  have e := ne_fr hz n
  exact hk _ _ (by rw [hput_n _ _ e]; exact hz) e
theorem fresh_row {h h1 : GH} {q k : Nat} {g : gE} (n : h q = none) (hp : ∃ a : Nat, hput h q g a = none ∧ IsRow h1 q a k 0 (fun _ => 0) ∧ keeps (hput h q g) h1 (fun z => z = q)) : ∃ a : Nat, h a = none ∧ a ≠ q ∧ RowF h1 q a k 0 (fun _ => 0) ∧ keeps h h1 (fun _ => False) := by
  obtain ⟨a, e1, e2, e3⟩ := hp
  obtain ⟨e4, e5⟩ := hput_no e1
  exact ⟨a, e4, e5, ⟨_, e2, fun _ _ => rfl⟩, e3.fr n⟩
theorem RowF.som {h : GH} {r a cap n : Nat} {F : Nat → Int} (hr : RowF h r a cap n F) : (∃ g, h r = some g) ∧ ∃ g, h a = some g := by
  obtain ⟨f, e1, e2⟩ := hr.kd
  exact ⟨⟨_, e1⟩, ⟨_, e2⟩⟩
/-- Text() -/
theorem tx_init (D : DD) {h : GH} {t : Nat} {x y z : GV} (ht : h t = some (gObj 5 [x, y, z])) : GMet D yX5_init cX5_init 1 none [] 3 4 4000 [gR (some t)] h (pv (fun h1 => ∃ rc ac rs as_ : Nat, h rc = none ∧ h ac = none ∧ h rs = none ∧ h as_ = none ∧ IsText h1 t rc ac rs as_ 0 (fun _ => 0) 0 (fun _ => 0) 0 ∧ keeps h h1 (fun q => q = t))) := by
  refine GMet.intro RX5 rfl (by decide) (gcats rfl) (Nat.le_of_ble_eq_true rfl) fun K KX S => ?_
  show K 0 [some _] [] _ 0 0
  refine k_aload_n S dX5_init_0 rfl ?_
  refine k_objInit S dX5_init_1 ml_X5_3 mo_inst mo_code (by decide) ?_ (Nat.le_of_ble_eq_true rfl)
  refine k_aload_n S dX5_init_4 rfl ?_
  refine k_new S dX5_init_5 n_X5_9 (by omega) (by omega) (fun q5 n5 l5 => ?_)
  refine k_dup S dX5_init_8 ?_
  refine k_bipush S dX5_init_9 ?_
  refine k_callI_v S dX5_init_11 i_X5_11 (row_init D (hput_s _ _ _) (k := 80) (by omega)) (fun h11 hp11 => ?_) rfl rfl (by decide) (by omega) (by omega) (Nat.le_of_ble_eq_true rfl)
  obtain ⟨a1, na1, ea1, ra1, ka1⟩ := fresh_row n5 hp11
  have t11 := ka1 _ _ ht id
  refine k_putF S rfl dX5_init_14 ff_X5_14 (by assumption) (gfit_ref _ _) (Nat.le_of_ble_eq_true rfl) ?_
  refine k_aload_n S dX5_init_17 rfl ?_
  refine k_new S dX5_init_18 n_X5_9 (by omega) (by omega) (fun q18 n18 l18 => ?_)
  refine k_dup S dX5_init_21 ?_
  refine k_sipush S dX5_init_22 ?_
  refine k_callI_v S dX5_init_25 i_X5_11 (row_init D (hput_s _ _ _) (k := 200) (by omega)) (fun h25 hp25 => ?_) rfl rfl (by decide) (by omega) (by omega) (Nat.le_of_ble_eq_true rfl)
  obtain ⟨a2, na2, ea2, ra2, ka2⟩ := fresh_row n18 hp25
  have t25 := ka2 _ _ (hput_s _ _ _) id
  obtain ⟨⟨_, s1⟩, ⟨_, s2⟩⟩ := ra1.som
  have m1 : q5 ≠ t := (ne_fr ht n5).symm
  have m2 : a1 ≠ t := (ne_fr ht na1).symm
  obtain ⟨u1, u2⟩ := hput_no n18
  obtain ⟨u3, u4⟩ := hput_no na2
  have r1 := (ra1.kp (P := fun q => q = t) (keeps.put (Or.inl rfl)) m1 m2).kp ka2 id id
  have m3 := ne_fr s1 u1
  have m4 := ne_fr s2 u3
  refine k_putF S rfl dX5_init_28 ff_X5_20 (by assumption) (gfit_ref _ _) (Nat.le_of_ble_eq_true rfl) ?_
  refine k_aload_n S dX5_init_31 rfl ?_
  refine k_iconst S dX5_init_32 ?_
  refine k_putf S dX5_init_33 f_X5_23 (hput_s _ _ _) (gfit_int _) (Nat.le_of_ble_eq_true rfl) ?_
  refine k_return S dX5_init_36 ?_ (by omega) (by omega)
  have kk : ∀ (hx hy : GH) (g : gE), hy = hput hx t g → keeps hx hy (fun q => q = t) := fun hx hy g e => by subst e; exact keeps.put (Or.inl rfl)
  refine ⟨rfl, q5, a1, q18, a2, n5, na1, ka1.no u1 id, ka1.no u3 id, ⟨hput_s _ _ _, (r1.kp (kk _ _ _ rfl) m1 m2).kp (kk _ _ _ rfl) m1 m2, (ra2.kp (kk _ _ _ rfl) u2 u4).kp (kk _ _ _ rfl) u2 u4, m3, m4⟩, ?_⟩
  exact keeps.tr (keeps.tr (keeps.tr (keeps.tr (ka1.mono fun _ z => z.elim) (kk _ _ _ rfl)) (ka2.mono fun _ z => z.elim)) (kk _ _ _ rfl)) (kk _ _ _ rfl)
/-! TriggerTree -/
def IsTree (h : GH) (τ : Nat → Nat) (t n : Nat) (P C E : Nat → Int) : Prop := ∃ r0 a0 r1 a1 r2 a2 : Nat, h t = some (gObj 6 [gR (some r0), gR (some r1), gR (some r2)]) ∧ RowF h r0 a0 49 n P ∧ RowF h r1 a1 49 n C ∧ RowF h r2 a2 49 n E ∧ τ t = 30 ∧ (τ r0 = 31 ∧ τ a0 = 31) ∧ (τ r1 = 32 ∧ τ a1 = 32) ∧ (τ r2 = 33 ∧ τ a2 = 33)
def kT (τ : Nat → Nat) : Nat → Prop := fun q => 31 ≤ τ q ∧ τ q ≤ 33
theorem keeps.tag {h h1 : GH} {r a : Nat} {P : Nat → Prop} (hf : fr2 h h1 r a) (p1 : P r) (p2 : P a) : keeps h h1 P := fun q u hq hn => by
  have e1 : q ≠ r := fun e => hn (e ▸ p1)
  have e2 : q ≠ a := fun e => hn (e ▸ p2)
  rw [hf q e1 e2]; exact hq
theorem fr2_tag {h h1 : GH} {r a k : Nat} {τ : Nat → Nat} (hf : fr2 h h1 r a) (p : τ r = k ∧ τ a = k) : keeps h h1 (fun q => τ q = k) := keeps.tag hf p.1 p.2
theorem RowF.kt {h h1 : GH} {r a cap n k j : Nat} {F : Nat → Int} {τ : Nat → Nat} (hr : RowF h r a cap n F) (hk : keeps h h1 (fun q => τ q = k)) (p : τ r = j ∧ τ a = j) (hne : j ≠ k) : RowF h1 r a cap n F := hr.kp hk (fun e => hne (p.1.symm.trans e)) (fun e => hne (p.2.symm.trans e))
theorem keeps.w {h h1 : GH} {τ : Nat → Nat} {k : Nat} (hk : keeps h h1 (fun q => τ q = k)) (h9 : 31 ≤ k ∧ k ≤ 33) : keeps h h1 (kT τ) := hk.mono fun q z => by unfold kT; omega
def tch (P C : Nat → Int) (node ch : Int) : Nat → Nat → Int
  | 0, _ => -1
  | d + 1, j => if P j = node ∧ C j = ch then (j : Nat) else tch P C node ch d (j + 1)
theorem tch_at {P C : Nat → Int} {node ch : Int} : ∀ d j, tch P C node ch d j = -1 ∧ (∀ i, j ≤ i → i < j + d → ¬ (P i = node ∧ C i = ch)) ∨ ∃ i : Nat, tch P C node ch d j = (i : Nat) ∧ j ≤ i ∧ i < j + d ∧ P i = node ∧ C i = ch
  | 0, j => Or.inl ⟨rfl, fun i h1 h2 => by omega⟩
  | d + 1, j => by
    unfold tch
    by_cases e : P j = node ∧ C j = ch
    · rw [if_pos e]
      exact Or.inr ⟨j, rfl, by omega, by omega, e⟩
    · rw [if_neg e]
      rcases tch_at d (j + 1) with ⟨z1, z2⟩ | ⟨i, z1, z2, z3, z4⟩
      · refine Or.inl ⟨z1, fun i h1 h2 => ?_⟩
        by_cases e2 : i = j
        · subst e2; exact e
        · exact z2 i (by omega) (by omega)
      · exact Or.inr ⟨i, z1, by omega, by omega, z4⟩
theorem tch_r {P C : Nat → Int} {node ch : Int} {d j : Nat} (hd : j + d < 65536) : -1 ≤ tch P C node ch d j ∧ tch P C node ch d j < 65536 := by
  rcases tch_at (P := P) (C := C) (node := node) (ch := ch) d j with ⟨z1, z2⟩ | ⟨i, z1, z2, z3, z4⟩ <;> rw [z1] <;> omega
/-- childOf(node, character) -/
theorem tr_childOf (D : DD) {h : GH} {τ : Nat → Nat} {t n : Nat} {P C E : Nat → Int} (ht : IsTree h τ t n P C E) {node ch : Int} (hn1 : 1 ≤ n) (hP : ∀ q, q < n → inR (P q) ∧ inR (C q)) (hn : inR node) (hc : inR ch) : GMet D yX6_childOf cX6_childOf 4 (some .int) [] 3 0 0 [gR (some t), gI node, gI ch] h (pr (gI (tch P C node ch (n - 1) 1)) (fun h1 => h1 = h)) := by
  refine GMet.intro RX6 rfl (by decide) (gcats rfl) (Nat.le_of_ble_eq_true rfl) fun K KX S => ?_
  show K 0 [some _, some _, some _, none] [] _ 0 0
  obtain ⟨r0, a0, r1, a1, r2, a2, g0, ⟨f0, g1, g1f⟩, ⟨f1, g2, g2f⟩, ⟨f2, g3, g3f⟩, t0, t1, t2, t3⟩ := id ht
  have g1a := g1.1
  have g2a := g2.1
  have g3a := g3.1
  have g1b := g1.2.2.1
  refine k_iconst S dX6_childOf_0 ?_
  refine k_istore_n S dX6_childOf_1 (by decide) ?_
  unfold inR at hn hc
  have loop : ∀ (d j : Nat), 1 ≤ j → j + d = n → tch P C node ch d j = tch P C node ch (n - 1) 1 → K 2 [some (gR (some t)), some (gI node), some (gI ch), some (gI (j : Nat))] [] h 0 0 := by
    intro d
    induction d with
    | zero =>
      intro j hj1 hj hv
      refine k_iload_n S dX6_childOf_2 rfl ?_
      refine k_aload_n S dX6_childOf_3 rfl ?_
      refine k_getf S dX6_childOf_4 f_X6_14 (by assumption) (by rfl) ?_
      refine k_callV_r S dX6_childOf_7 v_X6_33 (row_count D g1) (by assumption) (fun h7 hp7 => ?_) rfl rfl (by decide) (by omega) (by omega) (Nat.le_of_ble_eq_true rfl)
      rw [hp7]
      refine k_icmp_ge (tgt := 45) S dX6_childOf_10 (by decide) (by omega) (by omega) (fun c10 => ?_) (fun c10 => ?_)
      · rw [show tch P C node ch 0 j = -1 from rfl] at hv
        refine k_iconst S dX6_childOf_45 ?_
        exact k_ireturn S dX6_childOf_46 ⟨by rw [hv], rfl⟩ (by omega) (by omega)
      · omega
    | succ d ih =>
      intro j hj1 hj hv
      have hjm : j < n := by omega
      have ev (f G : Nat → Int) (e : ∀ q, q < n → f q = G q) : (if 0 ≤ ((j : Nat) : Int) ∧ ((j : Nat) : Int) < ((n : Nat) : Int) then f ((j : Nat) : Int).toNat else 0) = G j := by
        rw [if_pos (by omega), show ((j : Nat) : Int).toNat = j by omega, e j hjm]
      have b1 := hP j hjm
      unfold inR at b1
      have next : ¬ (P j = node ∧ C j = ch) → K 2 [some (gR (some t)), some (gI node), some (gI ch), some (gI ((j : Nat) + 1))] [] h 0 0 := fun z => by
        rw [tch, if_neg z] at hv
        have := ih (j + 1) (by omega) (by omega) hv
        rw [show (((j + 1 : Nat)) : Int) = (j : Nat) + 1 by omega] at this
        exact this
      refine k_iload_n S dX6_childOf_2 rfl ?_
      refine k_aload_n S dX6_childOf_3 rfl ?_
      refine k_getf S dX6_childOf_4 f_X6_14 (by assumption) (by rfl) ?_
      refine k_callV_r S dX6_childOf_7 v_X6_33 (row_count D g1) (by assumption) (fun h7 hp7 => ?_) rfl rfl (by decide) (by omega) (by omega) (Nat.le_of_ble_eq_true rfl)
      rw [hp7]
      refine k_icmp_ge (tgt := 45) S dX6_childOf_10 (by decide) (by omega) (by omega) (fun c10 => ?_) (fun c10 => ?_)
      · omega
      · refine k_aload_n S dX6_childOf_13 rfl ?_
        refine k_getf S dX6_childOf_14 f_X6_14 (by assumption) (by rfl) ?_
        refine k_iload_n S dX6_childOf_17 rfl ?_
        refine k_callV_r S dX6_childOf_18 v_X6_37 (row_at D g1 (by unfold inR; omega)) (by assumption) (fun h18 hp18 => ?_) rfl rfl (by decide) (by omega) (by omega) (Nat.le_of_ble_eq_true rfl)
        rw [hp18, ev _ _ g1f]
        refine k_iload_n S dX6_childOf_21 rfl ?_
        refine k_icmp_ne (tgt := 39) S dX6_childOf_22 (by decide) (by omega) (by omega) (fun c22 => ?_) (fun c22 => ?_)
        · refine k_iinc S dX6_childOf_39 rfl (by decide) ?_
          refine k_goto (tgt := 2) S dX6_childOf_42 (by decide) ?_
          exact next (fun z => c22 z.1)
        · refine k_aload_n S dX6_childOf_25 rfl ?_
          refine k_getf S dX6_childOf_26 f_X6_20 (by assumption) (by rfl) ?_
          refine k_iload_n S dX6_childOf_29 rfl ?_
          refine k_callV_r S dX6_childOf_30 v_X6_37 (row_at D g2 (by unfold inR; omega)) (by assumption) (fun h30 hp30 => ?_) rfl rfl (by decide) (by omega) (by omega) (Nat.le_of_ble_eq_true rfl)
          rw [hp30, ev _ _ g2f]
          refine k_iload_n S dX6_childOf_33 rfl ?_
          refine k_icmp_ne (tgt := 39) S dX6_childOf_34 (by decide) (by omega) (by omega) (fun c34 => ?_) (fun c34 => ?_)
          · refine k_iinc S dX6_childOf_39 rfl (by decide) ?_
            refine k_goto (tgt := 2) S dX6_childOf_42 (by decide) ?_
            exact next (fun z => c34 z.2)
          · rw [tch, if_pos ⟨by omega, by omega⟩] at hv
            refine k_iload_n S dX6_childOf_37 rfl ?_
            exact k_ireturn S dX6_childOf_38 ⟨by rw [hv], rfl⟩ (by omega) (by omega)
  exact loop (n - 1) 1 (by omega) (by omega) rfl
/-- endingsAt(node) -/
theorem tr_endingsAt (D : DD) {h : GH} {τ : Nat → Nat} {t n : Nat} {P C E : Nat → Int} (ht : IsTree h τ t n P C E) {i : Nat} (hi : i < n) : GMet D yX6_endingsAt cX6_endingsAt 2 (some .int) [] 3 0 0 [gR (some t), gI i] h (pr (gI (E i)) (fun h1 => h1 = h)) := by
  refine GMet.intro RX6 rfl (by decide) (gcats rfl) (Nat.le_of_ble_eq_true rfl) fun K KX S => ?_
  show K 0 [some _, some _] [] _ 0 0
  obtain ⟨r0, a0, r1, a1, r2, a2, g0, ⟨f0, g1, g1f⟩, ⟨f1, g2, g2f⟩, ⟨f2, g3, g3f⟩, t0, t1, t2, t3⟩ := id ht
  have g1a := g1.1
  have g2a := g2.1
  have g3a := g3.1
  have g1b := g1.2.2.1
  have hin : inR ((i : Nat) : Int) := by unfold inR; omega
  have ev : (if 0 ≤ ((i : Nat) : Int) ∧ ((i : Nat) : Int) < ((n : Nat) : Int) then f2 ((i : Nat) : Int).toNat else 0) = E i := by
    rw [if_pos (by omega), show ((i : Nat) : Int).toNat = i by omega, g3f i hi]
  refine k_aload_n S dX6_endingsAt_0 rfl ?_
  refine k_getf S dX6_endingsAt_1 f_X6_23 (by assumption) (by rfl) ?_
  refine k_iload_n S dX6_endingsAt_4 rfl ?_
  refine k_callV_r S dX6_endingsAt_5 v_X6_37 (row_at D g3 hin) (by assumption) (fun h5 hp5 => ?_) rfl rfl (by decide) (by omega) (by omega) (Nat.le_of_ble_eq_true rfl)
  rw [hp5, ev]
  exact k_ireturn S dX6_endingsAt_8 ⟨rfl, rfl⟩ (by omega) (by omega)
/-- addNode(parent, character) -/
theorem tr_addNode (D : DD) {h : GH} {τ : Nat → Nat} {t n : Nat} {P C E : Nat → Int} (ht : IsTree h τ t n P C E) {x y : Int} (hn : n < 49) : GMet D yX6_addNode cX6_addNode 3 (some .int) [] 2 0 0 [gR (some t), gI x, gI y] h (pr (gI n) (fun h1 => IsTree h1 τ t (n + 1) (gupd P n x) (gupd C n y) (gupd E n 0) ∧ keeps h h1 (kT τ))) := by
  refine GMet.intro RX6 rfl (by decide) (gcats rfl) (Nat.le_of_ble_eq_true rfl) fun K KX S => ?_
  show K 0 [some _, some _, some _] [] _ 0 0
  obtain ⟨r0, a0, r1, a1, r2, a2, g0, ⟨f0, g1, g1f⟩, ⟨f1, g2, g2f⟩, ⟨f2, g3, g3f⟩, t0, t1, t2, t3⟩ := id ht
  have g1a := g1.1
  have g2a := g2.1
  have g3a := g3.1
  have g1b := g1.2.2.1
  have up : ∀ (f F : Nat → Int) (v : Int), (∀ q, q < n → f q = F q) → ∀ q, q < n + 1 → gupd f n v q = gupd F n v q := fun f F v e q hq => by
    by_cases e1 : q = n
    · subst e1; rw [gupd_s, gupd_s]
    · rw [gupd_n _ _ e1, gupd_n _ _ e1, e q (by omega)]
  have g1F : RowF h r0 a0 49 n P := ⟨_, g1, g1f⟩
  have g2F : RowF h r1 a1 49 n C := ⟨_, g2, g2f⟩
  have g3F : RowF h r2 a2 49 n E := ⟨_, g3, g3f⟩
  refine k_aload_n S dX6_addNode_0 rfl ?_
  refine k_getf S dX6_addNode_1 f_X6_14 (by assumption) (by rfl) ?_
  refine k_iload_n S dX6_addNode_4 rfl ?_
  refine k_callV_v S dX6_addNode_5 v_X6_48 (row_add D g1) (by assumption) (fun h5 hp5 => ?_) rfl rfl (by decide) (by omega) (by omega) (Nat.le_of_ble_eq_true rfl)
  rw [if_pos hn, if_pos hn] at hp5
  obtain ⟨hp5, k5⟩ := hp5
  have k5 := fr2_tag k5 t1
  have p5 : RowF h5 r0 a0 49 (n + 1) (gupd P n x) := ⟨_, hp5, up _ _ _ g1f⟩
  obtain ⟨f5, q5, q5f⟩ := g2F.kt k5 t2 (by decide)
  have w5 := q5.1
  have u5 := k5 _ _ g0 (by omega)
  refine k_aload_n S dX6_addNode_8 rfl ?_
  refine k_getf S dX6_addNode_9 f_X6_20 (by assumption) (by rfl) ?_
  refine k_iload_n S dX6_addNode_12 rfl ?_
  refine k_callV_v S dX6_addNode_13 v_X6_48 (row_add D q5) (by assumption) (fun h13 hp13 => ?_) rfl rfl (by decide) (by omega) (by omega) (Nat.le_of_ble_eq_true rfl)
  rw [if_pos hn, if_pos hn] at hp13
  obtain ⟨hp13, k13⟩ := hp13
  have k13 := fr2_tag k13 t2
  have p13 : RowF h13 r1 a1 49 (n + 1) (gupd C n y) := ⟨_, hp13, up _ _ _ q5f⟩
  obtain ⟨f13, q13, q13f⟩ := (g3F.kt k5 t3 (by decide)).kt k13 t3 (by decide)
  have w13 := q13.1
  have u13 := k13 _ _ u5 (by omega)
  refine k_aload_n S dX6_addNode_16 rfl ?_
  refine k_getf S dX6_addNode_17 f_X6_23 (by assumption) (by rfl) ?_
  refine k_iconst S dX6_addNode_20 ?_
  refine k_callV_v S dX6_addNode_21 v_X6_48 (row_add D q13) (by assumption) (fun h21 hp21 => ?_) rfl rfl (by decide) (by omega) (by omega) (Nat.le_of_ble_eq_true rfl)
  rw [if_pos hn, if_pos hn] at hp21
  obtain ⟨hp21, k21⟩ := hp21
  have k21 := fr2_tag k21 t3
  have p21 : RowF h21 r2 a2 49 (n + 1) (gupd E n 0) := ⟨_, hp21, up _ _ _ q13f⟩
  have u21 := k21 _ _ u13 (by omega)
  have p9 := (p5.kt k13 t1 (by decide)).kt k21 t1 (by decide)
  obtain ⟨f9, q9, q9f⟩ := id p9
  have w9 := q9.1
  refine k_aload_n S dX6_addNode_24 rfl ?_
  refine k_getf S dX6_addNode_25 f_X6_14 (by assumption) (by rfl) ?_
  refine k_callV_r S dX6_addNode_28 v_X6_33 (row_count D q9) (by assumption) (fun h28 hp28 => ?_) rfl rfl (by decide) (by omega) (by omega) (Nat.le_of_ble_eq_true rfl)
  rw [hp28]
  refine k_iconst S dX6_addNode_31 ?_
  refine k_isub S dX6_addNode_32 ?_
  refine k_ireturn S dX6_addNode_33 ?_ (by omega) (by omega)
  exact ⟨by rw [show (((n + 1 : Nat)) : Int) - 1 = (n : Nat) by omega], ⟨r0, a0, r1, a1, r2, a2, u21, p9, p13.kt k21 t2 (by decide), p21, t0, t1, t2, t3⟩, keeps.tr (keeps.tr (k5.w (by decide)) (k13.w (by decide))) (k21.w (by decide))⟩
/-! paths in the tree -/
theorem bOr_nat {n m : Nat} (hn : n < 2147483648) (hm : m < 2147483648) : bOr (n : Nat) (m : Nat) = ((n ||| m : Nat) : Int) := by
  unfold bOr
  have h1 : (Int32.ofInt ((n : Nat) : Int)).toBitVec = BitVec.ofNat 32 n := by
    show BitVec.ofInt 32 _ = _
    rw [BitVec.ofInt_natCast]
  have h2 : (Int32.ofInt ((m : Nat) : Int)).toBitVec = BitVec.ofNat 32 m := by
    show BitVec.ofInt 32 _ = _
    rw [BitVec.ofInt_natCast]
  have h3 : (Int32.ofInt ((n : Nat) : Int) ||| Int32.ofInt ((m : Nat) : Int)).toInt = (BitVec.ofNat 32 n ||| BitVec.ofNat 32 m).toInt := by
    rw [← h1, ← h2]; rfl
  have h4 : n ||| m < 2 ^ 31 := Nat.or_lt_two_pow (by omega) (by omega)
  have h5 : (BitVec.ofNat 32 n ||| BitVec.ofNat 32 m).toNat = n ||| m := by
    rw [BitVec.toNat_or, BitVec.toNat_ofNat, BitVec.toNat_ofNat, Nat.mod_eq_of_lt (by omega), Nat.mod_eq_of_lt (by omega)]
  rw [h3, BitVec.toInt_eq_toNat_cond, h5, if_pos (by omega)]
theorem bShl1 : ∀ k : Nat, k < 8 → bShl 1 (k : Nat) = ((2 ^ k : Nat) : Int) := by decide +kernel
theorem pw8 : ∀ k : Nat, k < 8 → 2 ^ k < 256 := by decide
def isP (P C f : Nat → Int) : Nat → Nat → Nat → Prop
  | 0, _, j => j = 0
  | l + 1, i, j => 1 ≤ j ∧ C j = f i ∧ isP P C f l (i + 1) (P j).toNat
def twf (n : Nat) (P C : Nat → Int) : Prop := (1 ≤ n ∧ P 0 = -1) ∧ (∀ j, 1 ≤ j → j < n → 0 ≤ P j ∧ P j < j) ∧ (∀ i j, 1 ≤ i → i < n → 1 ≤ j → j < n → P i = P j → C i = C j → i = j) ∧ (∀ j, j < n → 0 ≤ C j ∧ C j < 65536)
theorem twf.in {n : Nat} {P C : Nat → Int} (hw : twf n P C) (hn : n ≤ 49) : ∀ q, q < n → inR (P q) ∧ inR (C q) := fun q hq => by
  obtain ⟨⟨z1, z2⟩, z3, z4, z5⟩ := hw
  have := z5 q hq
  unfold inR
  by_cases e : q = 0
  · subst e; rw [z2]; omega
  · have := z3 q (by omega) hq
    omega
theorem isP_ext {n : Nat} {P C P1 C1 f : Nat → Int} (hw : twf n P C) (he : ∀ q, q < n → P1 q = P q ∧ C1 q = C q) : ∀ l i j, j < n → (isP P1 C1 f l i j ↔ isP P C f l i j)
  | 0, _, _, _ => Iff.rfl
  | l + 1, i, j, hj => by
    unfold isP
    obtain ⟨e1, e2⟩ := he j hj
    rw [e1, e2]
    constructor <;> rintro ⟨z1, z2, z3⟩ <;> refine ⟨z1, z2, ?_⟩ <;> have := hw.2.1 j z1 hj
    · exact (isP_ext hw he l (i + 1) _ (by omega)).mp z3
    · exact (isP_ext hw he l (i + 1) _ (by omega)).mpr z3
theorem isP_uniq {n : Nat} {P C f : Nat → Int} (hw : twf n P C) : ∀ l i j j1, j < n → j1 < n → isP P C f l i j → isP P C f l i j1 → j = j1
  | 0, _, j, j1, _, _, h1, h2 => by unfold isP at h1 h2; omega
  | l + 1, i, j, j1, hj, hj1, h1, h2 => by
    unfold isP at h1 h2
    obtain ⟨z1, z2, z3⟩ := h1
    obtain ⟨y1, y2, y3⟩ := h2
    have a1 := hw.2.1 j z1 hj
    have a2 := hw.2.1 j1 y1 hj1
    have := isP_uniq hw l (i + 1) _ _ (by omega) (by omega) z3 y3
    exact hw.2.2.1 j j1 z1 hj y1 hj1 (by omega) (z2.trans y2.symm)
theorem isP_same {n : Nat} {P C f g : Nat → Int} (hw : twf n P C) : ∀ l l1 i i1 j, j < n → isP P C f l i j → isP P C g l1 i1 j → l = l1 ∧ ∀ q, q < l → f (i + q) = g (i1 + q)
  | 0, 0, _, _, _, _, _, _ => ⟨rfl, fun q hq => absurd hq (by omega)⟩
  | 0, l1 + 1, i, i1, j, hj, h1, h2 => by unfold isP at h1 h2; omega
  | l + 1, 0, i, i1, j, hj, h1, h2 => by unfold isP at h1 h2; omega
  | l + 1, l1 + 1, i, i1, j, hj, h1, h2 => by
    unfold isP at h1 h2
    obtain ⟨z1, z2, z3⟩ := h1
    obtain ⟨y1, y2, y3⟩ := h2
    have a1 := hw.2.1 j z1 hj
    obtain ⟨e1, e2⟩ := isP_same hw l l1 (i + 1) (i1 + 1) _ (by omega) z3 y3
    refine ⟨by omega, fun q hq => ?_⟩
    cases q with
    | zero => exact z2.symm.trans y2
    | succ q =>
      have := e2 q (by omega)
      rw [show i + (q + 1) = i + 1 + q by omega, show i1 + (q + 1) = i1 + 1 + q by omega]
      exact this
theorem isP_cg {P C f g : Nat → Int} : ∀ l i i1 j, (∀ q, q < l → f (i + q) = g (i1 + q)) → isP P C f l i j → isP P C g l i1 j
  | 0, _, _, _, _, h1 => h1
  | l + 1, i, i1, j, he, h1 => by
    unfold isP at h1 ⊢
    obtain ⟨z1, z2, z3⟩ := h1
    refine ⟨z1, z2.trans (he 0 (by omega)), isP_cg l (i + 1) (i1 + 1) _ (fun q hq => ?_) z3⟩
    have := he (q + 1) (by omega)
    rw [show i + 1 + q = i + (q + 1) by omega, show i1 + 1 + q = i1 + (q + 1) by omega]
    exact this
theorem twf_add {n : Nat} {P C : Nat → Int} {node : Nat} {ch : Int} (hw : twf n P C) (hno : node < n) (hc : 0 ≤ ch ∧ ch < 65536) (hnew : ∀ i, 1 ≤ i → i < n → ¬ (P i = node ∧ C i = ch)) : twf (n + 1) (gupd P n node) (gupd C n ch) := by
  obtain ⟨⟨z1, z2⟩, z3, z4, z5⟩ := hw
  refine ⟨⟨by omega, by rw [gupd_n _ _ (by omega)]; exact z2⟩, fun j h1 h2 => ?_, fun i j h1 h2 h3 h4 e1 e2 => ?_, fun j hj => ?_⟩
  · by_cases e : j = n
    · subst e; rw [gupd_s]; omega
    · rw [gupd_n _ _ e]; exact z3 j h1 (by omega)
  · by_cases ei : i = n
    · by_cases ej : j = n
      · omega
      · subst ei
        rw [gupd_s, gupd_n _ _ ej] at e1 e2
        exact absurd ⟨e1.symm, e2.symm⟩ (hnew j h3 (by omega))
    · by_cases ej : j = n
      · subst ej
        rw [gupd_s, gupd_n _ _ ei] at e1 e2
        exact absurd ⟨e1, e2⟩ (hnew i h1 (by omega))
      · rw [gupd_n _ _ ei, gupd_n _ _ ej] at e1 e2
        exact z4 i j h1 (by omega) h3 (by omega) e1 e2
  · by_cases e : j = n
    · subst e; rw [gupd_s]; exact hc
    · rw [gupd_n _ _ e]; exact z5 j (by omega)
/-- empty() -/
theorem tr_empty (D : DD) {h : GH} {τ : Nat → Nat} {t n : Nat} {P C E : Nat → Int} (ht : IsTree h τ t n P C E) : GMet D yX6_empty cX6_empty 1 none [] 3 0 0 [gR (some t)] h (pv (fun h1 => (∃ P1 C1 E1 : Nat → Int, IsTree h1 τ t 1 P1 C1 E1 ∧ P1 0 = -1 ∧ C1 0 = 0 ∧ E1 0 = 0) ∧ keeps h h1 (kT τ))) := by
  refine GMet.intro RX6 rfl (by decide) (gcats rfl) (Nat.le_of_ble_eq_true rfl) fun K KX S => ?_
  show K 0 [some _] [] _ 0 0
  obtain ⟨r0, a0, r1, a1, r2, a2, g0, ⟨f0, g1, g1f⟩, ⟨f1, g2, g2f⟩, ⟨f2, g3, g3f⟩, t0, t1, t2, t3⟩ := id ht
  have g1a := g1.1
  have g2a := g2.1
  have g3a := g3.1
  have g1b := g1.2.2.1
  have g2F : RowF h r1 a1 49 n C := ⟨_, g2, g2f⟩
  have g3F : RowF h r2 a2 49 n E := ⟨_, g3, g3f⟩
  refine k_aload_n S dX6_empty_0 rfl ?_
  refine k_getf S dX6_empty_1 f_X6_14 (by assumption) (by rfl) ?_
  refine k_callV_v S dX6_empty_4 v_X6_30 (row_empty D g1) (by assumption) (fun h4 hp4 => ?_) rfl rfl (by decide) (by omega) (by omega) (Nat.le_of_ble_eq_true rfl)
  obtain ⟨hp4, k4⟩ := hp4
  have k4 := fr2_tag k4 t1
  obtain ⟨f4, q4, q4f⟩ := g2F.kt k4 t2 (by decide)
  have w4 := q4.1
  have u4 := k4 _ _ g0 (by omega)
  refine k_aload_n S dX6_empty_7 rfl ?_
  refine k_getf S dX6_empty_8 f_X6_20 (by assumption) (by rfl) ?_
  refine k_callV_v S dX6_empty_11 v_X6_30 (row_empty D q4) (by assumption) (fun h11 hp11 => ?_) rfl rfl (by decide) (by omega) (by omega) (Nat.le_of_ble_eq_true rfl)
  obtain ⟨hp11, k11⟩ := hp11
  have k11 := fr2_tag k11 t2
  obtain ⟨f11, q11, q11f⟩ := (g3F.kt k4 t3 (by decide)).kt k11 t3 (by decide)
  have w11 := q11.1
  have u11 := k11 _ _ u4 (by omega)
  refine k_aload_n S dX6_empty_14 rfl ?_
  refine k_getf S dX6_empty_15 f_X6_23 (by assumption) (by rfl) ?_
  refine k_callV_v S dX6_empty_18 v_X6_30 (row_empty D q11) (by assumption) (fun h18 hp18 => ?_) rfl rfl (by decide) (by omega) (by omega) (Nat.le_of_ble_eq_true rfl)
  obtain ⟨hp18, k18⟩ := hp18
  have k18 := fr2_tag k18 t3
  have u18 := k18 _ _ u11 (by omega)
  have p1 : RowF h4 r0 a0 49 0 P := ⟨_, hp4, fun _ z => absurd z (by omega)⟩
  have p2 : RowF h11 r1 a1 49 0 C := ⟨_, hp11, fun _ z => absurd z (by omega)⟩
  have p3 : RowF h18 r2 a2 49 0 E := ⟨_, hp18, fun _ z => absurd z (by omega)⟩
  have hT : IsTree h18 τ t 0 P C E := ⟨r0, a0, r1, a1, r2, a2, u18, (p1.kt k11 t1 (by decide)).kt k18 t1 (by decide), p2.kt k18 t2 (by decide), p3, t0, t1, t2, t3⟩
  refine k_aload_n S dX6_empty_21 rfl ?_
  refine k_iconst S dX6_empty_22 ?_
  refine k_iconst S dX6_empty_23 ?_
  refine k_callV_r S dX6_empty_24 v_X6_26 (tr_addNode D hT (by omega)) (by assumption) (fun h24 hp24 => ?_) rfl rfl (by decide) (by omega) (by omega) (Nat.le_of_ble_eq_true rfl)
  refine k_pop S dX6_empty_27 ?_
  refine k_return S dX6_empty_28 ?_ (by omega) (by omega)
  exact ⟨rfl, ⟨_, _, _, hp24.1, gupd_s _ _ _, gupd_s _ _ _, gupd_s _ _ _⟩, keeps.tr (keeps.tr (keeps.tr (k4.w (by decide)) (k11.w (by decide))) (k18.w (by decide))) hp24.2⟩
/-- add(trigger, number) -/
theorem tr_add (D : DD) {h : GH} {τ : Nat → Nat} {t n : Nat} {P C E : Nat → Int} (ht : IsTree h τ t n P C E) {r a cap l k : Nat} {F : Nat → Int} (hr : RowF h r a cap l F) (hr1 : ¬ kT τ r) (hr2 : ¬ kT τ a) (hw : twf n P C) (hF : ∀ q, q < l → 0 ≤ F q ∧ F q < 65536) (hnl : n + l ≤ 49) (hk : k < 8) (hE : ∀ q, q < n → 0 ≤ E q ∧ E q < 256) : GMet D yX6_add cX6_add 6 none [] 4 0 0 [gR (some t), gR (some r), gI k] h (pv (fun h1 => (∃ (n1 : Nat) (P1 C1 E1 : Nat → Int) (nd : Nat), IsTree h1 τ t n1 P1 C1 E1 ∧ twf n1 P1 C1 ∧ n ≤ n1 ∧ n1 ≤ n + l ∧ (∀ q, q < n → P1 q = P q ∧ C1 q = C q) ∧ nd < n1 ∧ isP P1 C1 F l 0 nd ∧ (∀ q, q < n1 → E1 q = if q = nd then (((if q < n then E q else 0).toNat ||| 2 ^ k : Nat) : Int) else if q < n then E q else 0)) ∧ keeps h h1 (kT τ))) := by
  refine GMet.intro RX6 rfl (by decide) (gcats rfl) (Nat.le_of_ble_eq_true rfl) fun K KX S => ?_
  show K 0 [some _, some _, some _, none, none, none] [] _ 0 0
  have hlc : l ≤ cap := hr.le
  have loop : ∀ (d : Nat) (i : Int) (h5 : GH) (n5 : Nat) (P5 C5 E5 : Nat → Int) (node : Nat) (v5 : Option GV), i = (d : Nat) - 1 → d ≤ l → IsTree h5 τ t n5 P5 C5 E5 → twf n5 P5 C5 → n ≤ n5 → n5 + d ≤ n + l → (∀ q, q < n → P5 q = P q ∧ C5 q = C q) → (∀ q, q < n5 → E5 q = if q < n then E q else 0) → node < n5 → isP P5 C5 F (l - d) d node → keeps h h5 (kT τ) → K 10 [some (gR (some t)), some (gR (some r)), some (gI k), some (gI node), some (gI i), v5] [] h5 0 0 := by
    intro d
    induction d with
    | zero =>
      intro i h5 n5 P5 C5 E5 node v5 hi hd ht5 hw5 hn1 hn2 he hE5 hno hp hk5
      obtain ⟨r0, a0, r1, a1, r2, a2, g0, g1F, g2F, ⟨f2, g3, g3f⟩, t0, t1, t2, t3⟩ := id ht5
      have g3a := g3.1
      have hin : inR ((node : Nat) : Int) := by unfold inR; omega
      have e0 : (if 0 ≤ ((node : Nat) : Int) ∧ ((node : Nat) : Int) < ((n5 : Nat) : Int) then f2 ((node : Nat) : Int).toNat else 0) = if node < n then E node else 0 := by
        rw [if_pos (by omega), show ((node : Nat) : Int).toNat = node by omega, g3f node hno, hE5 node hno]
      have hx : 0 ≤ (if node < n then E node else 0) ∧ (if node < n then E node else 0) < 256 := by
        split
        · exact hE node (by assumption)
        · omega
      generalize hX : (if node < n then E node else 0) = X at *
      have p8 := pw8 k hk
      have ex : bOr X (((2 ^ k : Nat)) : Int) = ((X.toNat ||| 2 ^ k : Nat) : Int) := by
        have := bOr_nat (n := X.toNat) (m := 2 ^ k) (by omega) (by omega)
        rw [show ((X.toNat : Nat) : Int) = X by omega] at this
        exact this
      refine k_iload S dX6_add_10 rfl ?_
      refine k_if_lt (tgt := 57) S dX6_add_12 (by decide) (by omega) (fun c12 => ?_) (fun c12 => ?_)
      · refine k_aload_n S dX6_add_57 rfl ?_
        refine k_getf S dX6_add_58 f_X6_23 (by assumption) (by rfl) ?_
        refine k_iload_n S dX6_add_61 rfl ?_
        refine k_aload_n S dX6_add_62 rfl ?_
        refine k_getf S dX6_add_63 f_X6_23 (by assumption) (by rfl) ?_
        refine k_iload_n S dX6_add_66 rfl ?_
        refine k_callV_r S dX6_add_67 v_X6_37 (row_at D g3 hin) (by assumption) (fun h67 hp67 => ?_) rfl rfl (by decide) (by omega) (by omega) (Nat.le_of_ble_eq_true rfl)
        rw [hp67, e0]
        refine k_iconst S dX6_add_70 ?_
        refine k_iload_n S dX6_add_71 rfl ?_
        refine k_ishl S dX6_add_72 ?_
        rw [bShl1 k hk]
        refine k_ior S dX6_add_73 ?_
        rw [ex]
        refine k_callV_v S dX6_add_74 v_X6_44 (row_set D g3 hin) (by assumption) (fun h74 hp74 => ?_) rfl rfl (by decide) (by omega) (by omega) (Nat.le_of_ble_eq_true rfl)
        rw [if_pos (by omega), show ((node : Nat) : Int).toNat = node by omega] at hp74
        obtain ⟨hp74, k74⟩ := hp74
        have k74 := fr2_tag k74 t3
        refine k_return S dX6_add_77 ?_ (by omega) (by omega)
        refine ⟨rfl, ⟨n5, P5, C5, _, node, ⟨r0, a0, r1, a1, r2, a2, k74 _ _ g0 (by omega), g1F.kt k74 t1 (by decide), g2F.kt k74 t2 (by decide), ⟨_, hp74, fun _ _ => rfl⟩, t0, t1, t2, t3⟩, hw5, hn1, by omega, he, hno, hp, fun q hq => ?_⟩, hk5.tr (k74.w (by decide))⟩
        by_cases e : q = node
        · subst e
          rw [gupd_s, if_pos rfl, hX]
        · rw [gupd_n _ _ e, if_neg e, g3f q hq, hE5 q hq]
      · omega
    | succ d ih =>
      intro i h5 n5 P5 C5 E5 node v5 hi hd ht5 hw5 hn1 hn2 he hE5 hno hp hk5
      obtain ⟨f9, g9, g9f⟩ := hr.kp hk5 hr1 hr2
      have hi2 : i = (d : Nat) := by omega
      subst hi2
      have hF1 := hF d (by omega)
      have hin : inR ((d : Nat) : Int) := by unfold inR; omega
      have ev : (if 0 ≤ ((d : Nat) : Int) ∧ ((d : Nat) : Int) < ((l : Nat) : Int) then f9 ((d : Nat) : Int).toNat else 0) = F d := by
        rw [if_pos (by omega), show ((d : Nat) : Int).toNat = d by omega, g9f d (by omega)]
      have g9a := g9.1
      obtain ⟨r0, a0, r1, a1, r2, a2, g0, -⟩ := id ht5
      have hinF : inR (F d) := by unfold inR; omega
      have hinN : inR ((node : Nat) : Int) := by unfold inR; omega
      have rr := tch_r (P := P5) (C := C5) (node := node) (ch := F d) (d := n5 - 1) (j := 1) (by omega)
      have at5 := tch_at (P := P5) (C := C5) (node := node) (ch := F d) (n5 - 1) 1
      have lp : l - d = (l - (d + 1)) + 1 := by omega
      refine k_iload S dX6_add_10 rfl ?_
      refine k_if_lt (tgt := 57) S dX6_add_12 (by decide) (by omega) (fun c12 => ?_) (fun c12 => ?_)
      · omega
      · refine k_aload_n S dX6_add_15 rfl ?_
        refine k_iload_n S dX6_add_16 rfl ?_
        refine k_aload_n S dX6_add_17 rfl ?_
        refine k_iload S dX6_add_18 rfl ?_
        refine k_callV_r S dX6_add_20 v_X6_37 (row_at D g9 hin) (by assumption) (fun h20 hp20 => ?_) rfl rfl (by decide) (by omega) (by omega) (Nat.le_of_ble_eq_true rfl)
        rw [hp20, ev]
        refine k_callV_r S dX6_add_23 v_X6_41 (tr_childOf D ht5 (by omega) (hw5.in (by omega)) hinN hinF) (by assumption) (fun h23 hp23 => ?_) rfl rfl (by decide) (by omega) (by omega) (Nat.le_of_ble_eq_true rfl)
        rw [hp23]
        refine k_istore S dX6_add_26 (by decide) ?_
        refine k_iload S dX6_add_28 rfl ?_
        refine k_iconst S dX6_add_30 ?_
        refine k_icmp_ne (tgt := 48) S dX6_add_31 (by decide) (by omega) (by omega) (fun c31 => ?_) (fun c31 => ?_)
        · rcases at5 with ⟨z1, z2⟩ | ⟨c, z1, z2, z3, z4, z5⟩
          · exact absurd z1 c31
          · rw [z1]
            refine k_iload S dX6_add_48 rfl ?_
            refine k_istore_n S dX6_add_50 (by decide) ?_
            refine k_iinc S dX6_add_51 rfl (by decide) ?_
            refine k_goto (tgt := 10) S dX6_add_54 (by decide) ?_
            refine ih _ h5 n5 P5 C5 E5 c _ (by omega) (by omega) ht5 hw5 hn1 (by omega) he hE5 (by omega) ?_ hk5
            rw [lp]
            unfold isP
            refine ⟨z2, z5, ?_⟩
            rw [z4]
            exact hp
        · rcases at5 with ⟨z1, z2⟩ | ⟨c, z1, z2, z3, z4, z5⟩
          · refine k_aload_n S dX6_add_34 rfl ?_
            refine k_iload_n S dX6_add_35 rfl ?_
            refine k_aload_n S dX6_add_36 rfl ?_
            refine k_iload S dX6_add_37 rfl ?_
            refine k_callV_r S dX6_add_39 v_X6_37 (row_at D g9 hin) (by assumption) (fun h39 hp39 => ?_) rfl rfl (by decide) (by omega) (by omega) (Nat.le_of_ble_eq_true rfl)
            rw [hp39, ev]
            refine k_callV_r S dX6_add_42 v_X6_26 (tr_addNode D ht5 (by omega)) (by assumption) (fun h42 hp42 => ?_) rfl rfl (by decide) (by omega) (by omega) (Nat.le_of_ble_eq_true rfl)
            obtain ⟨q42, k42⟩ := hp42
            refine k_goto (tgt := 50) S dX6_add_45 (by decide) ?_
            refine k_istore_n S dX6_add_50 (by decide) ?_
            refine k_iinc S dX6_add_51 rfl (by decide) ?_
            refine k_goto (tgt := 10) S dX6_add_54 (by decide) ?_
            have hw6 := twf_add hw5 hno hF1 (fun i h1 h2 => z2 i h1 (by omega))
            have he6 : ∀ q, q < n5 → gupd P5 n5 node q = P5 q ∧ gupd C5 n5 (F d) q = C5 q := fun q hq => ⟨gupd_n _ _ (by omega), gupd_n _ _ (by omega)⟩
            refine ih _ h42 (n5 + 1) _ _ _ n5 _ (by omega) (by omega) q42 hw6 (by omega) (by omega) (fun q hq => ?_) (fun q hq => ?_) (by omega) ?_ (hk5.tr k42)
            · obtain ⟨y1, y2⟩ := he6 q (by omega)
              rw [y1, y2]
              exact he q hq
            · by_cases e : q = n5
              · subst e; rw [gupd_s, if_neg (by omega)]
              · rw [gupd_n _ _ e]; exact hE5 q (by omega)
            · rw [lp]
              unfold isP
              refine ⟨by have := hw5.1.1; omega, gupd_s _ _ _, ?_⟩
              rw [gupd_s, show ((node : Nat) : Int).toNat = node by omega]
              exact (isP_ext hw5 he6 _ _ _ hno).mpr hp
          · omega
  obtain ⟨f9, g9, g9f⟩ := hr
  have g9a := g9.1
  refine k_iconst S dX6_add_0 ?_
  refine k_istore_n S dX6_add_1 (by decide) ?_
  refine k_aload_n S dX6_add_2 rfl ?_
  refine k_callV_r S dX6_add_3 v_X6_33 (row_count D g9) (by assumption) (fun h3 hp3 => ?_) rfl rfl (by decide) (by omega) (by omega) (Nat.le_of_ble_eq_true rfl)
  rw [hp3]
  refine k_iconst S dX6_add_6 ?_
  refine k_isub S dX6_add_7 ?_
  refine k_istore S dX6_add_8 (by decide) ?_
  refine loop l _ h n P C E 0 none rfl (by omega) ht hw (by omega) (by omega) (fun q _ => ⟨rfl, rfl⟩) (fun q hq => (if_pos hq).symm) hw.1.1 ?_ keeps.rf
  rw [show l - l = 0 by omega]
  rfl
theorem IsTree.kp {h h1 : GH} {τ : Nat → Nat} {t n : Nat} {P C E : Nat → Int} {X : Nat → Prop} (ht : IsTree h τ t n P C E) (hk : keeps h h1 X) (hx : ∀ q, 30 ≤ τ q → τ q ≤ 33 → ¬ X q) : IsTree h1 τ t n P C E := by
  obtain ⟨r0, a0, r1, a1, r2, a2, g0, g1, g2, g3, t0, t1, t2, t3⟩ := ht
  exact ⟨r0, a0, r1, a1, r2, a2, hk _ _ g0 (hx _ (by omega) (by omega)), g1.kp hk (hx _ (by omega) (by omega)) (hx _ (by omega) (by omega)), g2.kp hk (hx _ (by omega) (by omega)) (hx _ (by omega) (by omega)), g3.kp hk (hx _ (by omega) (by omega)) (hx _ (by omega) (by omega)), t0, t1, t2, t3⟩
theorem IsTree.re {h : GH} {τ τ1 : Nat → Nat} {t n : Nat} {P C E : Nat → Int} (ht : IsTree h τ t n P C E) (hx : ∀ q g, h q = some g → 30 ≤ τ q → τ q ≤ 33 → τ1 q = τ q) : IsTree h τ1 t n P C E := by
  obtain ⟨r0, a0, r1, a1, r2, a2, g0, g1, g2, g3, t0, t1, t2, t3⟩ := ht
  obtain ⟨⟨_, s1⟩, ⟨_, s2⟩⟩ := g1.som
  obtain ⟨⟨_, s3⟩, ⟨_, s4⟩⟩ := g2.som
  obtain ⟨⟨_, s5⟩, ⟨_, s6⟩⟩ := g3.som
  have k (q : Nat) (g : gE) (i : Nat) (e : h q = some g) (ei : τ q = i) (hi : 30 ≤ i ∧ i ≤ 33) : τ1 q = i := (hx q g e (by omega) (by omega)).trans ei
  exact ⟨r0, a0, r1, a1, r2, a2, g0, g1, g2, g3, k _ _ _ g0 t0 (by decide), ⟨k _ _ _ s1 t1.1 (by decide), k _ _ _ s2 t1.2 (by decide)⟩, ⟨k _ _ _ s3 t2.1 (by decide), k _ _ _ s4 t2.2 (by decide)⟩, ⟨k _ _ _ s5 t3.1 (by decide), k _ _ _ s6 t3.2 (by decide)⟩⟩
def tg4 (t r0 a0 r1 a1 r2 a2 : Nat) : Nat → Nat := fun q => if q = t then 30 else if q = r0 ∨ q = a0 then 31 else if q = r1 ∨ q = a1 then 32 else if q = r2 ∨ q = a2 then 33 else 0
/-- TriggerTree() -/
theorem tr_init (D : DD) {h : GH} {t : Nat} {x y z : GV} (ht : h t = some (gObj 6 [x, y, z])) : GMet D yX6_init cX6_init 3 none [] 3 6 4000 [gR (some t)] h (pv (fun h1 => ∃ (τ : Nat → Nat) (P1 C1 E1 : Nat → Int), IsTree h1 τ t 1 P1 C1 E1 ∧ P1 0 = -1 ∧ C1 0 = 0 ∧ E1 0 = 0 ∧ keeps h h1 (fun q => q = t) ∧ ∀ q, τ q ≠ 0 → h q = none ∨ q = t)) := by
  refine GMet.intro RX6 rfl (by decide) (gcats rfl) (Nat.le_of_ble_eq_true rfl) fun K KX S => ?_
  show K 0 [some _, none, none] [] _ 0 0
  refine k_aload_n S dX6_init_0 rfl ?_
  refine k_objInit S dX6_init_1 ml_X6_3 mo_inst mo_code (by decide) ?_ (Nat.le_of_ble_eq_true rfl)
  refine k_aload_n S dX6_init_4 rfl ?_
  refine k_new S dX6_init_5 n_X6_9 (by omega) (by omega) (fun q5 n5 l5 => ?_)
  refine k_dup S dX6_init_8 ?_
  refine k_bipush S dX6_init_9 ?_
  refine k_callI_v S dX6_init_11 i_X6_11 (row_init D (hput_s _ _ _) (k := 49) (by omega)) (fun h11 hp11 => ?_) rfl rfl (by decide) (by omega) (by omega) (Nat.le_of_ble_eq_true rfl)
  obtain ⟨a1, na1, ea1, ra1, ka1⟩ := fresh_row n5 hp11
  have t11 := ka1 _ _ ht id
  refine k_putF S rfl dX6_init_14 ff_X6_14 (by assumption) (gfit_ref _ _) (Nat.le_of_ble_eq_true rfl) ?_
  refine k_aload_n S dX6_init_17 rfl ?_
  refine k_new S dX6_init_18 n_X6_9 (by omega) (by omega) (fun q18 n18 l18 => ?_)
  refine k_dup S dX6_init_21 ?_
  refine k_bipush S dX6_init_22 ?_
  refine k_callI_v S dX6_init_24 i_X6_11 (row_init D (hput_s _ _ _) (k := 49) (by omega)) (fun h24 hp24 => ?_) rfl rfl (by decide) (by omega) (by omega) (Nat.le_of_ble_eq_true rfl)
  obtain ⟨a2, na2, ea2, ra2, ka2⟩ := fresh_row n18 hp24
  have t24 := ka2 _ _ (hput_s _ _ _) id
  refine k_putF S rfl dX6_init_27 ff_X6_20 (by assumption) (gfit_ref _ _) (Nat.le_of_ble_eq_true rfl) ?_
  refine k_aload_n S dX6_init_30 rfl ?_
  refine k_new S dX6_init_31 n_X6_9 (by omega) (by omega) (fun q31 n31 l31 => ?_)
  refine k_dup S dX6_init_34 ?_
  refine k_bipush S dX6_init_35 ?_
  refine k_callI_v S dX6_init_37 i_X6_11 (row_init D (hput_s _ _ _) (k := 49) (by omega)) (fun h37 hp37 => ?_) rfl rfl (by decide) (by omega) (by omega) (Nat.le_of_ble_eq_true rfl)
  obtain ⟨a3, na3, ea3, ra3, ka3⟩ := fresh_row n31 hp37
  have t37 := ka3 _ _ (hput_s _ _ _) id
  have kk : ∀ (hx hy : GH) (g : gE), hy = hput hx t g → keeps hx hy (fun q => q = t) := fun hx hy g e => by subst e; exact keeps.put (Or.inl rfl)
  obtain ⟨⟨_, s1⟩, ⟨_, s2⟩⟩ := ra1.som
  have m1 : q5 ≠ t := (ne_fr ht n5).symm
  have m2 : a1 ≠ t := (ne_fr ht na1).symm
  obtain ⟨u1, u2⟩ := hput_no n18
  obtain ⟨u3, u4⟩ := hput_no na2
  have r1 := (ra1.kp (kk _ _ _ rfl) m1 m2).kp ka2 id id
  have m3 := ne_fr s1 u1
  have m4 := ne_fr s2 u3
  have m5 := ne_fr s1 u3
  have m6 := ne_fr s2 u1
  obtain ⟨⟨_, v1⟩, ⟨_, v2⟩⟩ := r1.som
  obtain ⟨⟨_, v3⟩, ⟨_, v4⟩⟩ := ra2.som
  obtain ⟨y1, y2⟩ := hput_no n31
  obtain ⟨y3, y4⟩ := hput_no na3
  have r1 := (r1.kp (kk _ _ _ rfl) m1 m2).kp ka3 id id
  have r2 := (ra2.kp (kk _ _ _ rfl) u2 u4).kp ka3 id id
  have l1 := ne_fr v1 y1
  have l2 := ne_fr v1 y3
  have l3 := ne_fr v2 y1
  have l4 := ne_fr v2 y3
  have l5 := ne_fr v3 y1
  have l6 := ne_fr v3 y3
  have l7 := ne_fr v4 y1
  have l8 := ne_fr v4 y3
  refine k_putF S rfl dX6_init_40 ff_X6_23 (by assumption) (gfit_ref _ _) (Nat.le_of_ble_eq_true rfl) ?_
  refine k_aload_n S dX6_init_43 rfl ?_
  refine k_iconst S dX6_init_44 ?_
  refine k_iconst S dX6_init_45 ?_
  have hT : IsTree (hput h37 t (gObj 6 [gR (some q5), gR (some q18), gR (some q31)])) (tg4 t q5 a1 q18 a2 q31 a3) t 0 (fun _ => 0) (fun _ => 0) (fun _ => 0) := ⟨q5, a1, q18, a2, q31, a3, hput_s _ _ _, r1.kp (kk _ _ _ rfl) m1 m2, r2.kp (kk _ _ _ rfl) u2 u4, ra3.kp (kk _ _ _ rfl) y2 y4, by unfold tg4; exact if_pos rfl, ⟨by unfold tg4; rw [if_neg m1, if_pos (Or.inl rfl)], by unfold tg4; rw [if_neg m2, if_pos (Or.inr rfl)]⟩, ⟨by unfold tg4; rw [if_neg u2, if_neg (by omega), if_pos (Or.inl rfl)], by unfold tg4; rw [if_neg u4, if_neg (by omega), if_pos (Or.inr rfl)]⟩, ⟨by unfold tg4; rw [if_neg y2, if_neg (by omega), if_neg (by omega), if_pos (Or.inl rfl)], by unfold tg4; rw [if_neg y4, if_neg (by omega), if_neg (by omega), if_pos (Or.inr rfl)]⟩⟩
  refine k_callV_r S dX6_init_46 v_X6_26 (tr_addNode D hT (by omega)) (hput_s _ _ _) (fun h46 hp46 => ?_) rfl rfl (by decide) (by omega) (by omega) (Nat.le_of_ble_eq_true rfl)
  refine k_pop S dX6_init_49 ?_
  refine k_return S dX6_init_50 ?_ (by omega) (by omega)
  have k0 : keeps h h37 (fun q => q = t) := keeps.tr (keeps.tr (keeps.tr (keeps.tr (ka1.mono fun _ z => z.elim) (kk _ _ _ rfl)) (ka2.mono fun _ z => z.elim)) (kk _ _ _ rfl)) (ka3.mono fun _ z => z.elim)
  have z3 : h q18 = none := ka1.no u1 id
  have z4 : h a2 = none := ka1.no u3 id
  have z5 : h q31 = none := ka1.no (hput_no (ka2.no y1 id)).1 id
  have z6 : h a3 = none := ka1.no (hput_no (ka2.no y3 id)).1 id
  have hs : ∀ q, (tg4 t q5 a1 q18 a2 q31 a3) q ≠ 0 → h q = none ∨ q = t := fun q hq => by
    unfold tg4 at hq
    by_cases e0 : q = t
    · exact Or.inr e0
    rw [if_neg e0] at hq
    refine Or.inl ?_
    by_cases e1 : q = q5 ∨ q = a1
    · rcases e1 with e | e <;> subst e <;> assumption
    rw [if_neg e1] at hq
    by_cases e2 : q = q18 ∨ q = a2
    · rcases e2 with e | e <;> subst e <;> assumption
    rw [if_neg e2] at hq
    by_cases e3 : q = q31 ∨ q = a3
    · rcases e3 with e | e <;> subst e <;> assumption
    rw [if_neg e3] at hq
    exact absurd rfl hq
  refine ⟨rfl, _, _, _, _, hp46.1, gupd_s _ _ _, gupd_s _ _ _, gupd_s _ _ _, fun q u hq hn => ?_, hs⟩
  refine hp46.2 q u ((kk h37 _ _ rfl) q u (k0 q u hq hn) hn) fun hT9 => ?_
  rcases hs q (by unfold kT at hT9; omega) with e | e
  · rw [hq] at e; cases e
  · exact hn e
