section
variable {h : GH} {τ A : Nat → Nat} {td cu lg sv ex un : Int} {n : Nat} {fw of sc sz he : Nat → Int} {re : Nat → Nat} {le tg pn kd on ot : Nat → Int} {rk : Nat → Nat}
theorem sh_iff (hT : TOk (n : Nat) le of fw) {s t : Nat} (hs : s < n) (ht : t < n) : shQ (1 - of s) (1 - of t) (le s).toNat (le t).toNat (fun j => tg (6 * s + j)) (fun j => tg (6 * t + j)) s t ↔ shP of le tg s t := by
  obtain ⟨⟨s1, s2⟩, s3, -⟩ := hT s (by omega)
  obtain ⟨⟨t1, t2⟩, t3, -⟩ := hT t (by omega)
  have eQ : ∀ e : Nat, endQ (fun j => tg (6 * s + j)) (fun j => tg (6 * t + j)) (le t).toNat e ↔ endP tg le s t e := fun e => by
    unfold endQ endP
    constructor
    · rintro ⟨z1, z2⟩
      refine ⟨by omega, fun k hk => ?_⟩
      have := z2 k (by omega)
      dsimp only at this
      rw [show 6 * s + e - (le t).toNat + k = 6 * s + (e - (le t).toNat + k) by omega]
      exact this.symm
    · rintro ⟨z1, z2⟩
      refine ⟨by omega, fun k hk => ?_⟩
      have := z2 k (by omega)
      dsimp only
      rw [show 6 * s + e - (le t).toNat + k = 6 * s + (e - (le t).toNat + k) by omega] at this
      exact this.symm
  unfold shQ shP usedP
  constructor
  · rintro ⟨a1, a2, a3, a4, a5⟩
    refine ⟨⟨by omega, by omega⟩, ⟨by omega, by omega⟩, ?_⟩
    rcases a5 with ⟨b1, b2, b3⟩ | ⟨e, b1, b2, b3⟩
    · refine Or.inl ⟨b1, by omega, (eQ _).mp ⟨by omega, fun j hj => ?_⟩⟩
      rw [show (le s).toNat - (le t).toNat + j = j by omega]
      exact b3 j hj
    · exact Or.inr ⟨e, b1, by omega, (eQ e).mp b3⟩
  · rintro ⟨⟨a1, a2⟩, ⟨a3, a4⟩, a5⟩
    refine ⟨by omega, by omega, by omega, by omega, ?_⟩
    rcases a5 with ⟨b1, b2, b3⟩ | ⟨e, b1, b2, b3⟩
    · have b4 := (eQ _).mpr b3
      refine Or.inl ⟨b1, by omega, fun j hj => ?_⟩
      have := b4.2 j hj
      rw [show (le s).toNat - (le t).toNat + j = j by omega] at this
      exact this
    · exact Or.inr ⟨e, b1, by omega, (eQ e).mpr b3⟩
/-- isInShadow(s, t) -/
theorem c_sh (D : DD) (hX : XTop h τ A td cu lg sv ex un) (hn : n ≤ 8) (hS : XS D h τ A n fw of sc le tg pn kd on ot) (hT : TOk (n : Nat) le of fw) (hg : allC tg) {s t : Nat} (hs : s < n) (ht : t < n) : GMet D yX7_isInShadow cX7_isInShadow 5 (some .boolean) [] 5 0 0 [gR (some (A 0)), gI s, gI t] h (pr (gI (b01 (shP of le tg s t))) (fun h1 => h1 = h)) := by
  obtain ⟨sz, he, re, hS, hG⟩ := hS
  have s3 := (hT s (by omega)).2.1
  have t3 := (hT t (by omega)).2.1
  have ir : ∀ q, inR (tg q) := fun q => by have := hg q; unfold inR; omega
  have := c_inShadow D hX hS.1 hn hs ht (hS.2.1 s hs) (by omega) (hS.2.2.1 s hs) (fun j _ => ir _) (hS.2.1 t ht) (by omega) (hS.2.2.1 t ht) (fun j _ => ir _)
  rw [b01_c (sh_iff hT hs ht)] at this
  exact this
/-- isInShadow, no first -/
theorem c_sh_b1 (D : DD) (hX : XTop h τ A td cu lg sv ex un) (hn : n ≤ 8) (hS : XS D h τ A n fw of sc le tg pn kd on ot) {k : Int} (hr : inR k) (hk : ¬ (0 ≤ k ∧ k < n)) {t : Int} : GMet D yX7_isInShadow cX7_isInShadow 5 (some .boolean) [] 9 1 6 [gR (some (A 0)), gI k, gI t] h (px "java/lang/IndexOutOfBoundsException" (fun h1 => h1 = h)) := by
  refine GMet.intro RX7 rfl (by decide) (gcats rfl) (Nat.le_of_ble_eq_true rfl) fun K KX S => ?_
  show K 0 [some _, some _, some _, none, none] [] _ 0 0
  have g0 := hX.1
  obtain ⟨sz, he, re, hS, hG⟩ := hS
  refine k_aload_n S dX7_isInShadow_0 rfl ?_
  refine k_iload_n S dX7_isInShadow_1 rfl ?_
  refine k_callV_x S dX7_isInShadow_2 v_X7_81 (c_snAt_x D hX hS.1 hn hr hk) (by assumption) (fun h2 hp2 => ?_) rfl rfl (by decide) (by omega) (by omega) (Nat.le_of_ble_eq_true rfl)
  rw [hp2]
  exact k_out S ⟨rfl, rfl⟩ (by omega) (by omega)
/-- isInShadow, no second -/
theorem c_sh_b2 (D : DD) (hX : XTop h τ A td cu lg sv ex un) (hn : n ≤ 8) (hS : XS D h τ A n fw of sc le tg pn kd on ot) {s : Nat} (hs : s < n) {k : Int} (hr : inR k) (hk : ¬ (0 ≤ k ∧ k < n)) : GMet D yX7_isInShadow cX7_isInShadow 5 (some .boolean) [] 9 1 6 [gR (some (A 0)), gI s, gI k] h (px "java/lang/IndexOutOfBoundsException" (fun h1 => h1 = h)) := by
  refine GMet.intro RX7 rfl (by decide) (gcats rfl) (Nat.le_of_ble_eq_true rfl) fun K KX S => ?_
  show K 0 [some _, some _, some _, none, none] [] _ 0 0
  have g0 := hX.1
  obtain ⟨sz, he, re, hS, hG⟩ := hS
  obtain ⟨gs, -⟩ := hS.2.1 s hs
  refine k_aload_n S dX7_isInShadow_0 rfl ?_
  refine k_iload_n S dX7_isInShadow_1 rfl ?_
  refine k_callV_r S dX7_isInShadow_2 v_X7_81 (c_snAt_g D hX hS.1 hn hs gs) (by assumption) (fun h2 hp2 => ?_) rfl rfl (by decide) (by omega) (by omega) (Nat.le_of_ble_eq_true rfl)
  rw [hp2]
  refine k_astore_n S dX7_isInShadow_5 (by decide) ?_
  refine k_aload_n S dX7_isInShadow_6 rfl ?_
  refine k_iload_n S dX7_isInShadow_7 rfl ?_
  refine k_callV_x S dX7_isInShadow_8 v_X7_81 (c_snAt_x D hX hS.1 hn hr hk) (by assumption) (fun h8 hp8 => ?_) rfl rfl (by decide) (by omega) (by omega) (Nat.le_of_ble_eq_true rfl)
  rw [hp8]
  exact k_out S ⟨rfl, rfl⟩ (by omega) (by omega)
/-- isShadowedBy -/
theorem c_isSh_g (D : DD) (hX : XTop h τ A td cu lg sv ex un) (hn : n ≤ 8) (hS : XS D h τ A n fw of sc le tg pn kd on ot) (hT : TOk (n : Nat) le of fw) (hg : allC tg) {s t : Nat} (hs : s < n) (ht : t < n) : GMet D yX7_isShadowedBy cX7_isShadowedBy 3 (some .boolean) [] 10 1 6 [gR (some (A 0)), gI s, gI t] h (pr (gI (b01 (shP of le tg s t))) (fun h1 => h1 = h)) := by
  refine GMet.intro RX7 rfl (by decide) (gcats rfl) (Nat.le_of_ble_eq_true rfl) fun K KX S => ?_
  show K 0 [some _, some _, some _] [] _ 0 0
  have g0 := hX.1
  refine k_aload_n S dX7_isShadowedBy_0 rfl ?_
  refine k_iload_n S dX7_isShadowedBy_1 rfl ?_
  refine k_iload_n S dX7_isShadowedBy_2 rfl ?_
  refine k_callV_r S dX7_isShadowedBy_3 v_X7_196 (c_sh D hX hn hS hT hg hs ht) (by assumption) (fun h3 hp3 => ?_) rfl rfl (by decide) (by omega) (by omega) (Nat.le_of_ble_eq_true rfl)
  rw [hp3]
  exact k_zreturn S dX7_isShadowedBy_6 (b01_2 _) ⟨rfl, rfl⟩ (by omega) (by omega)
/-- isShadowedBy -/
theorem c_isSh_b1 (D : DD) (hX : XTop h τ A td cu lg sv ex un) (hn : n ≤ 8) (hS : XS D h τ A n fw of sc le tg pn kd on ot) {k : Int} (hr : inR k) (hk : ¬ (0 ≤ k ∧ k < n)) {t : Int} : GMet D yX7_isShadowedBy cX7_isShadowedBy 3 (some .boolean) [] 10 1 6 [gR (some (A 0)), gI k, gI t] h (px "java/lang/IndexOutOfBoundsException" (fun h1 => h1 = h)) := by
  refine GMet.intro RX7 rfl (by decide) (gcats rfl) (Nat.le_of_ble_eq_true rfl) fun K KX S => ?_
  show K 0 [some _, some _, some _] [] _ 0 0
  have g0 := hX.1
  refine k_aload_n S dX7_isShadowedBy_0 rfl ?_
  refine k_iload_n S dX7_isShadowedBy_1 rfl ?_
  refine k_iload_n S dX7_isShadowedBy_2 rfl ?_
  refine k_callV_x S dX7_isShadowedBy_3 v_X7_196 (c_sh_b1 D hX hn hS hr hk) (by assumption) (fun h3 hp3 => ?_) rfl rfl (by decide) (by omega) (by omega) (Nat.le_of_ble_eq_true rfl)
  rw [hp3]
  exact k_out S ⟨rfl, rfl⟩ (by omega) (by omega)
/-- isShadowedBy -/
theorem c_isSh_b2 (D : DD) (hX : XTop h τ A td cu lg sv ex un) (hn : n ≤ 8) (hS : XS D h τ A n fw of sc le tg pn kd on ot) {s : Nat} (hs : s < n) {k : Int} (hr : inR k) (hk : ¬ (0 ≤ k ∧ k < n)) : GMet D yX7_isShadowedBy cX7_isShadowedBy 3 (some .boolean) [] 10 1 6 [gR (some (A 0)), gI s, gI k] h (px "java/lang/IndexOutOfBoundsException" (fun h1 => h1 = h)) := by
  refine GMet.intro RX7 rfl (by decide) (gcats rfl) (Nat.le_of_ble_eq_true rfl) fun K KX S => ?_
  show K 0 [some _, some _, some _] [] _ 0 0
  have g0 := hX.1
  refine k_aload_n S dX7_isShadowedBy_0 rfl ?_
  refine k_iload_n S dX7_isShadowedBy_1 rfl ?_
  refine k_iload_n S dX7_isShadowedBy_2 rfl ?_
  refine k_callV_x S dX7_isShadowedBy_3 v_X7_196 (c_sh_b2 D hX hn hS hs hr hk) (by assumption) (fun h3 hp3 => ?_) rfl rfl (by decide) (by omega) (by omega) (Nat.le_of_ble_eq_true rfl)
  rw [hp3]
  exact k_out S ⟨rfl, rfl⟩ (by omega) (by omega)
/-- lowestShadower(s) -/
theorem c_lowSh (D : DD) (hX : XTop h τ A td cu lg sv ex un) (hn : n ≤ 8) (hS : XS D h τ A n fw of sc le tg pn kd on ot) (hT : TOk (n : Nat) le of fw) (hg : allC tg) {s : Nat} (hs : s < n) : GMet D yX7_lowestShadower cX7_lowestShadower 3 (some .int) [] 6 0 0 [gR (some (A 0)), gI s] h (pr (gI (fstF (shP of le tg s) n 0)) (fun h1 => h1 = h)) := by
  refine GMet.intro RX7 rfl (by decide) (gcats rfl) (Nat.le_of_ble_eq_true rfl) fun K KX S => ?_
  show K 0 [some _, some _, none] [] _ 0 0
  have g0 := hX.1
  obtain ⟨sz, he, re, hS9, hG⟩ := id hS
  obtain ⟨e9, cap, f, hl, hf, -, -⟩ := id hS9.1
  obtain ⟨m9, gl⟩ := hl.1
  have loop : ∀ (d k : Nat), k + d = n → fstF (shP of le tg s) n 0 = fstF (shP of le tg s) d k → K 2 [some (gR (some (A 0))), some (gI s), some (gI k)] [] h 0 0 := by
    intro d
    induction d with
    | zero =>
      intro k hk hv
      refine k_iload_n S dX7_lowestShadower_2 rfl ?_
      refine k_aload_n S dX7_lowestShadower_3 rfl ?_
      refine k_getf S dX7_lowestShadower_4 f_X7_12 (by assumption) (by rfl) ?_
      refine k_callV_r S dX7_lowestShadower_7 v_X7_61 (li_size D hl) (by assumption) (fun h7 hp7 => ?_) rfl rfl (by decide) (by omega) (by omega) (Nat.le_of_ble_eq_true rfl)
      rw [hp7]
      refine k_icmp_ge (tgt := 30) S dX7_lowestShadower_10 (by decide) (by omega) (by omega) (fun c10 => ?_) (fun c10 => ?_)
      · refine k_iconst S dX7_lowestShadower_30 ?_
        exact k_ireturn S dX7_lowestShadower_31 ⟨by rw [hv]; rfl, rfl⟩ (by omega) (by omega)
      · omega
    | succ d ih =>
      intro k hk hv
      have hkn : k < n := by omega
      refine k_iload_n S dX7_lowestShadower_2 rfl ?_
      refine k_aload_n S dX7_lowestShadower_3 rfl ?_
      refine k_getf S dX7_lowestShadower_4 f_X7_12 (by assumption) (by rfl) ?_
      refine k_callV_r S dX7_lowestShadower_7 v_X7_61 (li_size D hl) (by assumption) (fun h7 hp7 => ?_) rfl rfl (by decide) (by omega) (by omega) (Nat.le_of_ble_eq_true rfl)
      rw [hp7]
      refine k_icmp_ge (tgt := 30) S dX7_lowestShadower_10 (by decide) (by omega) (by omega) (fun c10 => ?_) (fun c10 => ?_)
      · omega
      · refine k_aload_n S dX7_lowestShadower_13 rfl ?_
        refine k_iload_n S dX7_lowestShadower_14 rfl ?_
        refine k_iload_n S dX7_lowestShadower_15 rfl ?_
        refine k_callV_r S dX7_lowestShadower_16 v_X7_196 (c_sh D hX hn hS hT hg hs hkn) (by assumption) (fun h16 hp16 => ?_) rfl rfl (by decide) (by omega) (by omega) (Nat.le_of_ble_eq_true rfl)
        rw [hp16]
        refine k_if_eq (tgt := 24) S dX7_lowestShadower_19 (by decide) (b01_r _) (fun c19 => ?_) (fun c19 => ?_)
        · refine k_iinc S dX7_lowestShadower_24 rfl (by decide) ?_
          refine k_goto (tgt := 2) S dX7_lowestShadower_27 (by decide) ?_
          exact ih (k + 1) (by omega) (by rw [hv, fstF_f (b01_0.mp c19)])
        · refine k_iload_n S dX7_lowestShadower_22 rfl ?_
          exact k_ireturn S dX7_lowestShadower_23 ⟨by rw [hv, fstF_t (b01_n.mp c19)], rfl⟩ (by omega) (by omega)
  refine k_iconst S dX7_lowestShadower_0 ?_
  refine k_istore_n S dX7_lowestShadower_1 (by decide) ?_
  exact loop n 0 (by omega) rfl
/-- clashes() -/
theorem c_clashes (D : DD) (hX : XTop h τ A td cu lg sv ex un) (hn : n ≤ 8) (hS : XS D h τ A n fw of sc le tg pn kd on ot) (hT : TOk (n : Nat) le of fw) (hg : allC tg) : GMet D yX7_clashes cX7_clashes 3 (some .int) [] 7 0 0 [gR (some (A 0))] h (pr (gI (cntF (fun s => 0 ≤ fstF (shP of le tg s) n 0) n 0)) (fun h1 => h1 = h)) := by
  refine GMet.intro RX7 rfl (by decide) (gcats rfl) (Nat.le_of_ble_eq_true rfl) fun K KX S => ?_
  show K 0 [some _, none, none] [] _ 0 0
  have g0 := hX.1
  obtain ⟨sz, he, re, hS9, hG⟩ := id hS
  obtain ⟨e9, cap, f, hl, hf, -, -⟩ := id hS9.1
  obtain ⟨m9, gl⟩ := hl.1
  have loop : ∀ (d k : Nat) (c : Int), k + d = n → cntF (fun s => 0 ≤ fstF (shP of le tg s) n 0) n 0 = c + cntF (fun s => 0 ≤ fstF (shP of le tg s) n 0) d k → K 4 [some (gR (some (A 0))), some (gI c), some (gI k)] [] h 0 0 := by
    intro d
    induction d with
    | zero =>
      intro k c hk hv
      refine k_iload_n S dX7_clashes_4 rfl ?_
      refine k_aload_n S dX7_clashes_5 rfl ?_
      refine k_getf S dX7_clashes_6 f_X7_12 (by assumption) (by rfl) ?_
      refine k_callV_r S dX7_clashes_9 v_X7_61 (li_size D hl) (by assumption) (fun h9 hp9 => ?_) rfl rfl (by decide) (by omega) (by omega) (Nat.le_of_ble_eq_true rfl)
      rw [hp9]
      refine k_icmp_ge (tgt := 33) S dX7_clashes_12 (by decide) (by omega) (by omega) (fun c12 => ?_) (fun c12 => ?_)
      · refine k_iload_n S dX7_clashes_33 rfl ?_
        exact k_ireturn S dX7_clashes_34 ⟨by rw [hv, cntF, Int.add_zero], rfl⟩ (by omega) (by omega)
      · omega
    | succ d ih =>
      intro k c hk hv
      have hkn : k < n := by omega
      have fr := fstF_r (p := shP of le tg k) (d := n) (j := 0) (by omega)
      refine k_iload_n S dX7_clashes_4 rfl ?_
      refine k_aload_n S dX7_clashes_5 rfl ?_
      refine k_getf S dX7_clashes_6 f_X7_12 (by assumption) (by rfl) ?_
      refine k_callV_r S dX7_clashes_9 v_X7_61 (li_size D hl) (by assumption) (fun h9 hp9 => ?_) rfl rfl (by decide) (by omega) (by omega) (Nat.le_of_ble_eq_true rfl)
      rw [hp9]
      refine k_icmp_ge (tgt := 33) S dX7_clashes_12 (by decide) (by omega) (by omega) (fun c12 => ?_) (fun c12 => ?_)
      · omega
      · refine k_aload_n S dX7_clashes_15 rfl ?_
        refine k_iload_n S dX7_clashes_16 rfl ?_
        refine k_callV_r S dX7_clashes_17 v_X7_200 (c_lowSh D hX hn hS hT hg hkn) (by assumption) (fun h17 hp17 => ?_) rfl rfl (by decide) (by omega) (by omega) (Nat.le_of_ble_eq_true rfl)
        rw [hp17]
        refine k_iconst S dX7_clashes_20 ?_
        refine k_icmp_eq (tgt := 27) S dX7_clashes_21 (by decide) (by omega) (by omega) (fun c21 => ?_) (fun c21 => ?_)
        · refine k_iinc S dX7_clashes_27 rfl (by decide) ?_
          refine k_goto (tgt := 4) S dX7_clashes_30 (by decide) ?_
          refine ih (k + 1) c (by omega) ?_
          rw [hv, cntF, b01_f (by omega), Int.zero_add]
        · refine k_iinc S dX7_clashes_24 rfl (by decide) ?_
          refine k_iinc S dX7_clashes_27 rfl (by decide) ?_
          refine k_goto (tgt := 4) S dX7_clashes_30 (by decide) ?_
          refine ih (k + 1) (c + 1) (by omega) ?_
          rw [hv, cntF, b01_t (by omega), Int.add_assoc]
  refine k_iconst S dX7_clashes_0 ?_
  refine k_istore_n S dX7_clashes_1 (by decide) ?_
  refine k_iconst S dX7_clashes_2 ?_
  refine k_istore_n S dX7_clashes_3 (by decide) ?_
  exact loop n 0 0 (by omega) (Int.zero_add _).symm
/-- shadower, no snippet -/
theorem c_shadower_b (D : DD) (hX : XTop h τ A td cu lg sv ex un) (hn : n ≤ 8) (hS : XS D h τ A n fw of sc le tg pn kd on ot) {k : Int} (hr : inR k) (hk : ¬ (0 ≤ k ∧ k < n)) : GMet D yX7_shadower cX7_shadower 3 (some .int) [] 10 1 6 [gR (some (A 0)), gI k] h (px "java/lang/IndexOutOfBoundsException" (fun h1 => h1 = h)) := by
  refine GMet.intro RX7 rfl (by decide) (gcats rfl) (Nat.le_of_ble_eq_true rfl) fun K KX S => ?_
  show K 0 [some _, some _, none] [] _ 0 0
  have g0 := hX.1
  obtain ⟨sz, he, re, hS, hG⟩ := hS
  refine k_aload_n S dX7_shadower_0 rfl ?_
  refine k_iload_n S dX7_shadower_1 rfl ?_
  refine k_callV_x S dX7_shadower_2 v_X7_187 (c_req_x D hX hS.1 hn hr hk) (by assumption) (fun h2 hp2 => ?_) rfl rfl (by decide) (by omega) (by omega) (Nat.le_of_ble_eq_true rfl)
  rw [hp2]
  exact k_out S ⟨rfl, rfl⟩ (by omega) (by omega)
/-- shadower, none -/
theorem c_shadower_n (D : DD) (hX : XTop h τ A td cu lg sv ex un) (hn : n ≤ 8) (hS : XS D h τ A n fw of sc le tg pn kd on ot) (hT : TOk (n : Nat) le of fw) (hg : allC tg) {s : Nat} (hs : s < n) (hf : fstF (shP of le tg s) n 0 = -1) : GMet D yX7_shadower cX7_shadower 3 (some .int) [] 10 1 6 [gR (some (A 0)), gI s] h (px eNS (fun h1 => h1 = h)) := by
  refine GMet.intro RX7 rfl (by decide) (gcats rfl) (Nat.le_of_ble_eq_true rfl) fun K KX S => ?_
  show K 0 [some _, some _, none] [] _ 0 0
  have g0 := hX.1
  obtain ⟨sz, he, re, hS9, hG⟩ := id hS
  have fr := fstF_r (p := shP of le tg s) (d := n) (j := 0) (by omega)
  refine k_aload_n S dX7_shadower_0 rfl ?_
  refine k_iload_n S dX7_shadower_1 rfl ?_
  refine k_callV_v S dX7_shadower_2 v_X7_187 (c_req_g D hX hS9.1 hn hs) (by assumption) (fun h2 hp2 => ?_) rfl rfl (by decide) (by omega) (by omega) (Nat.le_of_ble_eq_true rfl)
  rw [hp2]
  refine k_aload_n S dX7_shadower_5 rfl ?_
  refine k_iload_n S dX7_shadower_6 rfl ?_
  refine k_callV_r S dX7_shadower_7 v_X7_200 (c_lowSh D hX hn hS hT hg hs) (by assumption) (fun h7 hp7 => ?_) rfl rfl (by decide) (by omega) (by omega) (Nat.le_of_ble_eq_true rfl)
  rw [hp7]
  refine k_istore_n S dX7_shadower_10 (by decide) ?_
  refine k_iload_n S dX7_shadower_11 rfl ?_
  refine k_iconst S dX7_shadower_12 ?_
  refine k_icmp_ne (tgt := 26) S dX7_shadower_13 (by decide) (by omega) (by omega) (fun c13 => ?_) (fun c13 => ?_)
  · omega
  · exact k_throwN S th_203_173 dX7_shadower_16 dX7_shadower_19 dX7_shadower_20 dX7_shadower_22 dX7_shadower_25 ⟨rfl, rfl⟩ (by omega) (by omega) (by decide)
/-- shadower -/
theorem c_shadower_g (D : DD) (hX : XTop h τ A td cu lg sv ex un) (hn : n ≤ 8) (hS : XS D h τ A n fw of sc le tg pn kd on ot) (hT : TOk (n : Nat) le of fw) (hg : allC tg) {s : Nat} (hs : s < n) (hf : 0 ≤ fstF (shP of le tg s) n 0) : GMet D yX7_shadower cX7_shadower 3 (some .int) [] 10 1 6 [gR (some (A 0)), gI s] h (pr (gI (fstF (shP of le tg s) n 0)) (fun h1 => h1 = h)) := by
  refine GMet.intro RX7 rfl (by decide) (gcats rfl) (Nat.le_of_ble_eq_true rfl) fun K KX S => ?_
  show K 0 [some _, some _, none] [] _ 0 0
  have g0 := hX.1
  obtain ⟨sz, he, re, hS9, hG⟩ := id hS
  have fr := fstF_r (p := shP of le tg s) (d := n) (j := 0) (by omega)
  refine k_aload_n S dX7_shadower_0 rfl ?_
  refine k_iload_n S dX7_shadower_1 rfl ?_
  refine k_callV_v S dX7_shadower_2 v_X7_187 (c_req_g D hX hS9.1 hn hs) (by assumption) (fun h2 hp2 => ?_) rfl rfl (by decide) (by omega) (by omega) (Nat.le_of_ble_eq_true rfl)
  rw [hp2]
  refine k_aload_n S dX7_shadower_5 rfl ?_
  refine k_iload_n S dX7_shadower_6 rfl ?_
  refine k_callV_r S dX7_shadower_7 v_X7_200 (c_lowSh D hX hn hS hT hg hs) (by assumption) (fun h7 hp7 => ?_) rfl rfl (by decide) (by omega) (by omega) (Nat.le_of_ble_eq_true rfl)
  rw [hp7]
  refine k_istore_n S dX7_shadower_10 (by decide) ?_
  refine k_iload_n S dX7_shadower_11 rfl ?_
  refine k_iconst S dX7_shadower_12 ?_
  refine k_icmp_ne (tgt := 26) S dX7_shadower_13 (by decide) (by omega) (by omega) (fun c13 => ?_) (fun c13 => ?_)
  · refine k_iload_n S dX7_shadower_26 rfl ?_
    exact k_ireturn S dX7_shadower_27 ⟨rfl, rfl⟩ (by omega) (by omega)
  · omega
end
