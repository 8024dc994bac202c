section
variable {h : GH} {τ A : Nat → Nat} {td cu lg sv ex un : Int} {n : Nat} {fw of sc sz he : Nat → Int} {re : Nat → Nat} {le tg pn kd on ot : Nat → Int} {rk : Nat → Nat}
/-- comesTo, no first -/
theorem c_comesTo_b1 (D : DD) (hX : XTop h τ A td cu lg sv ex un) (hn : n ≤ 8) (hS : XS D h τ A n fw of sc le tg pn kd on ot) {k : Int} (hr : inR k) (hk : ¬ (0 ≤ k ∧ k < n)) {t : Int} : GMet D yX7_comesTo cX7_comesTo 4 (some .boolean) [] 9 1 6 [gR (some (A 0)), gI k, gI t] h (px "java/lang/IndexOutOfBoundsException" (fun h1 => h1 = h)) := by
  refine GMet.intro RX7 rfl (by decide) (gcats rfl) (Nat.le_of_ble_eq_true rfl) fun K KX S => ?_
  show K 0 [some _, some _, some _, none] [] _ 0 0
  have g0 := hX.1
  obtain ⟨sz, he, re, hS, hG⟩ := hS
  refine k_aload_n S dX7_comesTo_0 rfl ?_
  refine k_iload_n S dX7_comesTo_1 rfl ?_
  refine k_callV_x S dX7_comesTo_2 v_X7_81 (c_snAt_x D hX hS.1 hn hr hk) (by assumption) (fun h2 hp2 => ?_) rfl rfl (by decide) (by omega) (by omega) (Nat.le_of_ble_eq_true rfl)
  rw [hp2]
  exact k_out S ⟨rfl, rfl⟩ (by omega) (by omega)
/-- comesTo, no second -/
theorem c_comesTo_b2 (D : DD) (hX : XTop h τ A td cu lg sv ex un) (hn : n ≤ 8) (hS : XS D h τ A n fw of sc le tg pn kd on ot) {s : Nat} (hs : s < n) {k : Int} (hr : inR k) (hk : ¬ (0 ≤ k ∧ k < n)) : GMet D yX7_comesTo cX7_comesTo 4 (some .boolean) [] 9 1 6 [gR (some (A 0)), gI s, gI k] h (px "java/lang/IndexOutOfBoundsException" (fun h1 => h1 = h)) := by
  refine GMet.intro RX7 rfl (by decide) (gcats rfl) (Nat.le_of_ble_eq_true rfl) fun K KX S => ?_
  show K 0 [some _, some _, some _, none] [] _ 0 0
  have g0 := hX.1
  obtain ⟨sz, he, re, hS, hG⟩ := hS
  obtain ⟨gs, ts⟩ := hS.2.1 s hs
  refine k_aload_n S dX7_comesTo_0 rfl ?_
  refine k_iload_n S dX7_comesTo_1 rfl ?_
  refine k_callV_r S dX7_comesTo_2 v_X7_81 (c_snAt_g D hX hS.1 hn hs gs) (by assumption) (fun h2 hp2 => ?_) rfl rfl (by decide) (by omega) (by omega) (Nat.le_of_ble_eq_true rfl)
  rw [hp2]
  refine k_astore_n S dX7_comesTo_5 (by decide) ?_
  refine k_aload_n S dX7_comesTo_6 rfl ?_
  refine k_iload_n S dX7_comesTo_7 rfl ?_
  refine k_callV_x S dX7_comesTo_8 v_X7_187 (c_req_x D hX hS.1 hn hr hk) (by assumption) (fun h8 hp8 => ?_) rfl rfl (by decide) (by omega) (by omega) (Nat.le_of_ble_eq_true rfl)
  rw [hp8]
  exact k_out S ⟨rfl, rfl⟩ (by omega) (by omega)
/-- comesTo -/
theorem c_comesTo_g (D : DD) (hX : XTop h τ A td cu lg sv ex un) (hn : n ≤ 8) (hS : XS D h τ A n fw of sc le tg pn kd on ot) {s t : Nat} (hs : s < n) (ht : t < n) : GMet D yX7_comesTo cX7_comesTo 4 (some .boolean) [] 9 1 6 [gR (some (A 0)), gI s, gI t] h (pr (gI (b01 (gto pn kd on ot s t))) (fun h1 => h1 = h)) := by
  refine GMet.intro RX7 rfl (by decide) (gcats rfl) (Nat.le_of_ble_eq_true rfl) fun K KX S => ?_
  show K 0 [some _, some _, some _, none] [] _ 0 0
  have g0 := hX.1
  obtain ⟨sz, he, re, hS, hG⟩ := hS
  obtain ⟨gs, ts⟩ := hS.2.1 s hs
  have G1 := hG s hs
  have ec : ((re s).testBit t = true) ↔ gto pn kd on ot s t := G1.2.2.2 t (by omega)
  have := G1.2.2.1
  refine k_aload_n S dX7_comesTo_0 rfl ?_
  refine k_iload_n S dX7_comesTo_1 rfl ?_
  refine k_callV_r S dX7_comesTo_2 v_X7_81 (c_snAt_g D hX hS.1 hn hs gs) (by assumption) (fun h2 hp2 => ?_) rfl rfl (by decide) (by omega) (by omega) (Nat.le_of_ble_eq_true rfl)
  rw [hp2]
  refine k_astore_n S dX7_comesTo_5 (by decide) ?_
  refine k_aload_n S dX7_comesTo_6 rfl ?_
  refine k_iload_n S dX7_comesTo_7 rfl ?_
  refine k_callV_v S dX7_comesTo_8 v_X7_187 (c_req_g D hX hS.1 hn ht) (by assumption) (fun h8 hp8 => ?_) rfl rfl (by decide) (by omega) (by omega) (Nat.le_of_ble_eq_true rfl)
  rw [hp8]
  refine k_aload_n S dX7_comesTo_11 rfl ?_
  refine k_iload_n S dX7_comesTo_12 rfl ?_
  refine k_callV_r S dX7_comesTo_13 v_X7_190 (sn_reaches D gs (by omega) (by omega)) (by assumption) (fun h13 hp13 => ?_) rfl rfl (by decide) (by omega) (by omega) (Nat.le_of_ble_eq_true rfl)
  rw [hp13, b01_c ec]
  exact k_zreturn S dX7_comesTo_16 (b01_2 _) ⟨rfl, rfl⟩ (by omega) (by omega)
/-- depth, none there -/
theorem c_depth_b (D : DD) (hX : XTop h τ A td cu lg sv ex un) (hn : n ≤ 8) (hS : XS D h τ A n fw of sc le tg pn kd on ot) {k : Int} (hr : inR k) (hk : ¬ (0 ≤ k ∧ k < n)) : GMet D yX7_depth cX7_depth 2 (some .int) [] 9 1 6 [gR (some (A 0)), gI k] h (px "java/lang/IndexOutOfBoundsException" (fun h1 => h1 = h)) := by
  refine GMet.intro RX7 rfl (by decide) (gcats rfl) (Nat.le_of_ble_eq_true rfl) fun K KX S => ?_
  show K 0 [some _, some _] [] _ 0 0
  have g0 := hX.1
  obtain ⟨sz, he, re, hS, hG⟩ := hS
  refine k_aload_n S dX7_depth_0 rfl ?_
  refine k_iload_n S dX7_depth_1 rfl ?_
  refine k_callV_x S dX7_depth_2 v_X7_81 (c_snAt_x D hX hS.1 hn hr hk) (by assumption) (fun h2 hp2 => ?_) rfl rfl (by decide) (by omega) (by omega) (Nat.le_of_ble_eq_true rfl)
  rw [hp2]
  exact k_out S ⟨rfl, rfl⟩ (by omega) (by omega)
/-- depth -/
theorem c_depth_g (D : DD) (hX : XTop h τ A td cu lg sv ex un) (hn : n ≤ 8) (hS : XS D h τ A n fw of sc le tg pn kd on ot) {s : Nat} (hs : s < n) : GMet D yX7_depth cX7_depth 2 (some .int) [] 9 1 6 [gR (some (A 0)), gI s] h (pr (gI (dpF pn kd on ot 8 s)) (fun h1 => h1 = h)) := by
  refine GMet.intro RX7 rfl (by decide) (gcats rfl) (Nat.le_of_ble_eq_true rfl) fun K KX S => ?_
  show K 0 [some _, some _] [] _ 0 0
  have g0 := hX.1
  obtain ⟨sz, he, re, hS, hG⟩ := hS
  obtain ⟨gs, ts⟩ := hS.2.1 s hs
  have G1 := hG s hs
  refine k_aload_n S dX7_depth_0 rfl ?_
  refine k_iload_n S dX7_depth_1 rfl ?_
  refine k_callV_r S dX7_depth_2 v_X7_81 (c_snAt_g D hX hS.1 hn hs gs) (by assumption) (fun h2 hp2 => ?_) rfl rfl (by decide) (by omega) (by omega) (Nat.le_of_ble_eq_true rfl)
  rw [hp2]
  refine k_getf S dX7_depth_5 f_X7_193 (by assumption) (by rfl) ?_
  rw [G1.2.1]
  exact k_ireturn S dX7_depth_8 ⟨rfl, rfl⟩ (by omega) (by omega)
/-- clearBody, none there -/
theorem c_clearBody_b (D : DD) (hX : XTop h τ A td cu lg sv ex un) (hn : n ≤ 8) (hS : XS D h τ A n fw of sc le tg pn kd on ot) {k : Int} (hr : inR k) (hk : ¬ (0 ≤ k ∧ k < n)) : GMet D yX7_clearBody cX7_clearBody 4 (some .int) [] 9 1 6 [gR (some (A 0)), gI k] h (px "java/lang/IndexOutOfBoundsException" (fun h1 => h1 = h)) := by
  refine GMet.intro RX7 rfl (by decide) (gcats rfl) (Nat.le_of_ble_eq_true rfl) fun K KX S => ?_
  show K 0 [some _, some _, none, none] [] _ 0 0
  have g0 := hX.1
  obtain ⟨sz, he, re, hS, hG⟩ := hS
  refine k_aload_n S dX7_clearBody_0 rfl ?_
  refine k_iload_n S dX7_clearBody_1 rfl ?_
  refine k_callV_x S dX7_clearBody_2 v_X7_81 (c_snAt_x D hX hS.1 hn hr hk) (by assumption) (fun h2 hp2 => ?_) rfl rfl (by decide) (by omega) (by omega) (Nat.le_of_ble_eq_true rfl)
  rw [hp2]
  exact k_out S ⟨rfl, rfl⟩ (by omega) (by omega)
/-- clearBody -/
theorem c_clearBody_g (D : DD) (hX : XTop h τ A td cu lg sv ex un) (hn : n ≤ 8) (hS : XS D h τ A n fw of sc le tg pn kd on ot) {x N : Nat} (hx : x < n) (hN : pn x = (N : Nat)) {rk1 : Nat → Nat} (hB1 : BOk (n : Nat) (gupd pn x 0) kd on ot rk1) (hr1 : ∀ s, rk1 s < 8) : GMet D yX7_clearBody cX7_clearBody 4 (some .int) [] 9 1 6 [gR (some (A 0)), gI x] h (pr (gI N) (fun h1 => XS D h1 τ A n fw of sc le tg (gupd pn x 0) kd on ot ∧ keeps h h1 (fun q => 100 ≤ τ q))) := by
  refine GMet.intro RX7 rfl (by decide) (gcats rfl) (Nat.le_of_ble_eq_true rfl) fun K KX S => ?_
  show K 0 [some _, some _, none, none] [] _ 0 0
  have g0 := hX.1
  obtain ⟨sz, he, re, hS, hG⟩ := hS
  obtain ⟨gx, tx9⟩ := hS.2.1 x hx
  obtain ⟨F, ⟨e, cap, f, hl, hf, htl, hte⟩, hF⟩ := hS.2.2.2 x hx
  rw [show (pn x).toNat = N by omega] at hl hf hF
  obtain ⟨m9, gl⟩ := hl.1
  refine k_aload_n S dX7_clearBody_0 rfl ?_
  refine k_iload_n S dX7_clearBody_1 rfl ?_
  refine k_callV_r S dX7_clearBody_2 v_X7_81 (c_snAt_g D hX hS.1 hn hx gx) (by assumption) (fun h2 hp2 => ?_) rfl rfl (by decide) (by omega) (by omega) (Nat.le_of_ble_eq_true rfl)
  rw [hp2]
  refine k_astore_n S dX7_clearBody_5 (by decide) ?_
  refine k_aload_n S dX7_clearBody_6 rfl ?_
  refine k_getf S dX7_clearBody_7 f_X7_148 (by assumption) (by rfl) ?_
  refine k_callV_r S dX7_clearBody_10 v_X7_61 (li_size D hl) (by assumption) (fun h10 hp10 => ?_) rfl rfl (by decide) (by omega) (by omega) (Nat.le_of_ble_eq_true rfl)
  rw [hp10]
  refine k_istore_n S dX7_clearBody_13 (by decide) ?_
  refine k_aload_n S dX7_clearBody_14 rfl ?_
  refine k_getf S dX7_clearBody_15 f_X7_148 (by assumption) (by rfl) ?_
  refine k_callV_v S dX7_clearBody_18 v_X7_151 (li_clear D hl) (by assumption) (fun h18 hp18 => ?_) rfl rfl (by decide) (by omega) (by omega) (Nat.le_of_ble_eq_true rfl)
  have k18 : keeps h h18 (fun q => τ q = 300 + x) := hp18.2.mono fun q z => z.elim (fun e9 => by rw [e9]; exact htl) (fun e9 => by rw [e9.1]; exact hte e9.2)
  have S18 : XSn D h18 τ A n fw of sc sz he re le tg (gupd pn x 0) kd on ot := by
    refine hS.pa hn k18 rtg.rf ?_ (by omega) (fun k hk e9 => ⟨gupd_n _ _ e9, fun j hj => ⟨rfl, rfl, rfl⟩⟩)
    rw [gupd_s]
    obtain ⟨⟨f4, l4⟩, -⟩ := hp18
    exact ⟨F, ⟨e, cap, f4, l4, fun i hi => absurd hi (by omega), htl, hte⟩, fun j hj => absurd hj (by omega)⟩
  have X18 := hX.kp k18 (fun q e => by omega)
  have g018 := X18.1
  refine k_aload_n S dX7_clearBody_21 rfl ?_
  refine k_callV_v S dX7_clearBody_22 v_X7_154 (c_measureAll D X18 S18 hn (fun k hk => (hG k hk).bd (n := n)) hB1 hr1) (by assumption) (fun h22 hp22 => ?_) rfl rfl (by decide) (by omega) (by omega) (Nat.le_of_ble_eq_true rfl)
  refine k_iload_n S dX7_clearBody_25 rfl ?_
  exact k_ireturn S dX7_clearBody_26 ⟨rfl, hp22.1, (k18.mono fun q e => (show 100 ≤ τ q by omega)).tr (hp22.2.mono fun q e => (show 100 ≤ τ q by omega))⟩ (by omega) (by omega)
/-- innerPart, no first -/
theorem c_inner_b1 (D : DD) (hX : XTop h τ A td cu lg sv ex un) (hn : n ≤ 8) (hS : XS D h τ A n fw of sc le tg pn kd on ot) {s : Int} {k : Int} (hr : inR k) (hk : ¬ (0 ≤ k ∧ k < n)) {u : Int} : GMet D yX7_innerPart cX7_innerPart 6 (some (.object "ShorthandRules$Part")) [] 9 1 6 [gR (some (A 0)), gI s, gI k, gI u] h (px "java/lang/IndexOutOfBoundsException" (fun h1 => h1 = h)) := by
  refine GMet.intro RX7 rfl (by decide) (gcats rfl) (Nat.le_of_ble_eq_true rfl) fun K KX S => ?_
  show K 0 [some _, some _, some _, some _, none, none] [] _ 0 0
  have g0 := hX.1
  obtain ⟨sz, he, re, hS, hG⟩ := hS
  refine k_aload_n S dX7_innerPart_0 rfl ?_
  refine k_iload_n S dX7_innerPart_1 rfl ?_
  refine k_callV_x S dX7_innerPart_2 v_X7_81 (c_snAt_x D hX hS.1 hn hr hk) (by assumption) (fun h2 hp2 => ?_) rfl rfl (by decide) (by omega) (by omega) (Nat.le_of_ble_eq_true rfl)
  rw [hp2]
  exact k_out S ⟨rfl, rfl⟩ (by omega) (by omega)
/-- innerPart, no second -/
theorem c_inner_b2 (D : DD) (hX : XTop h τ A td cu lg sv ex un) (hn : n ≤ 8) (hS : XS D h τ A n fw of sc le tg pn kd on ot) {s : Int} {t : Nat} (ht : t < n) {k : Int} (hr : inR k) (hk : ¬ (0 ≤ k ∧ k < n)) : GMet D yX7_innerPart cX7_innerPart 6 (some (.object "ShorthandRules$Part")) [] 9 1 6 [gR (some (A 0)), gI s, gI t, gI k] h (px "java/lang/IndexOutOfBoundsException" (fun h1 => h1 = h)) := by
  refine GMet.intro RX7 rfl (by decide) (gcats rfl) (Nat.le_of_ble_eq_true rfl) fun K KX S => ?_
  show K 0 [some _, some _, some _, some _, none, none] [] _ 0 0
  have g0 := hX.1
  obtain ⟨sz, he, re, hS, hG⟩ := hS
  obtain ⟨gt, tt⟩ := hS.2.1 t ht
  refine k_aload_n S dX7_innerPart_0 rfl ?_
  refine k_iload_n S dX7_innerPart_1 rfl ?_
  refine k_callV_r S dX7_innerPart_2 v_X7_81 (c_snAt_g D hX hS.1 hn ht gt) (by assumption) (fun h2 hp2 => ?_) rfl rfl (by decide) (by omega) (by omega) (Nat.le_of_ble_eq_true rfl)
  rw [hp2]
  refine k_astore S dX7_innerPart_5 (by decide) ?_
  refine k_aload_n S dX7_innerPart_7 rfl ?_
  refine k_iload_n S dX7_innerPart_8 rfl ?_
  refine k_callV_x S dX7_innerPart_9 v_X7_81 (c_snAt_x D hX hS.1 hn hr hk) (by assumption) (fun h9 hp9 => ?_) rfl rfl (by decide) (by omega) (by omega) (Nat.le_of_ble_eq_true rfl)
  rw [hp9]
  exact k_out S ⟨rfl, rfl⟩ (by omega) (by omega)
/-- innerPart, it would come to itself -/
theorem c_inner_u (D : DD) (hX : XTop h τ A td cu lg sv ex un) (hn : n ≤ 8) (hS : XS D h τ A n fw of sc le tg pn kd on ot) {s t u : Nat} (hs : s < n) (ht : t < n) (hu : u < n) (hc : (t = s ∨ gto pn kd on ot t s) ∨ u = s ∨ gto pn kd on ot u s) : GMet D yX7_innerPart cX7_innerPart 6 (some (.object "ShorthandRules$Part")) [] 9 1 6 [gR (some (A 0)), gI s, gI t, gI u] h (px "java/lang/UnsupportedOperationException" (fun h1 => h1 = h)) := by
  refine GMet.intro RX7 rfl (by decide) (gcats rfl) (Nat.le_of_ble_eq_true rfl) fun K KX S => ?_
  show K 0 [some _, some _, some _, some _, none, none] [] _ 0 0
  have g0 := hX.1
  obtain ⟨sz, he, re, hS, hG⟩ := hS
  obtain ⟨gt, tt⟩ := hS.2.1 t ht
  obtain ⟨gu, tu⟩ := hS.2.1 u hu
  have Gt := hG t ht
  have Gu := hG u hu
  have et : ((re t).testBit s = true) ↔ gto pn kd on ot t s := Gt.2.2.2 s (by omega)
  have eu : ((re u).testBit s = true) ↔ gto pn kd on ot u s := Gu.2.2.2 s (by omega)
  have := Gt.2.2.1
  have := Gu.2.2.1
  have at42 : ((t = s ∨ gto pn kd on ot t s) ∨ u = s ∨ gto pn kd on ot u s) → K 42 [some (gR (some (A 0))), some (gI s), some (gI t), some (gI u), some (gR (some (A (10 + t)))), some (gR (some (A (10 + u))))] [] h 0 0 := fun _ => by
    exact k_throwSW S th_261_259 dX7_innerPart_42 dX7_innerPart_45 dX7_innerPart_46 dX7_innerPart_49 dX7_innerPart_52 ⟨rfl, rfl⟩ (by omega) (by omega) (by decide)
  have at53 : ¬ ((t = s ∨ gto pn kd on ot t s) ∨ u = s ∨ gto pn kd on ot u s) → K 53 [some (gR (some (A 0))), some (gI s), some (gI t), some (gI u), some (gR (some (A (10 + t)))), some (gR (some (A (10 + u))))] [] h 0 0 := fun z => absurd hc z
  refine k_aload_n S dX7_innerPart_0 rfl ?_
  refine k_iload_n S dX7_innerPart_1 rfl ?_
  refine k_callV_r S dX7_innerPart_2 v_X7_81 (c_snAt_g D hX hS.1 hn ht gt) (by assumption) (fun h2 hp2 => ?_) rfl rfl (by decide) (by omega) (by omega) (Nat.le_of_ble_eq_true rfl)
  rw [hp2]
  refine k_astore S dX7_innerPart_5 (by decide) ?_
  refine k_aload_n S dX7_innerPart_7 rfl ?_
  refine k_iload_n S dX7_innerPart_8 rfl ?_
  refine k_callV_r S dX7_innerPart_9 v_X7_81 (c_snAt_g D hX hS.1 hn hu gu) (by assumption) (fun h9 hp9 => ?_) rfl rfl (by decide) (by omega) (by omega) (Nat.le_of_ble_eq_true rfl)
  rw [hp9]
  refine k_astore S dX7_innerPart_12 (by decide) ?_
  refine k_iload_n S dX7_innerPart_14 rfl ?_
  refine k_iload_n S dX7_innerPart_15 rfl ?_
  refine k_icmp_eq (tgt := 42) S dX7_innerPart_16 (by decide) (by omega) (by omega) (fun c16 => ?_) (fun c16 => ?_)
  · exact at42 (Or.inl (Or.inl (by omega)))
  · refine k_aload S dX7_innerPart_19 rfl ?_
    refine k_iload_n S dX7_innerPart_21 rfl ?_
    refine k_callV_r S dX7_innerPart_22 v_X7_190 (sn_reaches D gt (by omega) (by omega)) (by assumption) (fun h22 hp22 => ?_) rfl rfl (by decide) (by omega) (by omega) (Nat.le_of_ble_eq_true rfl)
    rw [hp22, b01_c et]
    refine k_if_ne (tgt := 42) S dX7_innerPart_25 (by decide) (b01_r _) (fun c25 => ?_) (fun c25 => ?_)
    · exact at42 (Or.inl (Or.inr (b01_n.mp c25)))
    · refine k_iload_n S dX7_innerPart_28 rfl ?_
      refine k_iload_n S dX7_innerPart_29 rfl ?_
      refine k_icmp_eq (tgt := 42) S dX7_innerPart_30 (by decide) (by omega) (by omega) (fun c30 => ?_) (fun c30 => ?_)
      · exact at42 (Or.inr (Or.inl (by omega)))
      · refine k_aload S dX7_innerPart_33 rfl ?_
        refine k_iload_n S dX7_innerPart_35 rfl ?_
        refine k_callV_r S dX7_innerPart_36 v_X7_190 (sn_reaches D gu (by omega) (by omega)) (by assumption) (fun h36 hp36 => ?_) rfl rfl (by decide) (by omega) (by omega) (Nat.le_of_ble_eq_true rfl)
        rw [hp36, b01_c eu]
        refine k_if_eq (tgt := 53) S dX7_innerPart_39 (by decide) (b01_r _) (fun c39 => ?_) (fun c39 => ?_)
        · exact at53 (fun z => z.elim (fun z => z.elim (fun z => by omega) (b01_0.mp c25)) (fun z => z.elim (fun z => by omega) (b01_0.mp c39)))
        · exact at42 (Or.inr (Or.inr (b01_n.mp c39)))
/-- innerPart -/
theorem c_inner_g (D : DD) (hX : XTop h τ A td cu lg sv ex un) (hn : n ≤ 8) (hS : XS D h τ A n fw of sc le tg pn kd on ot) {s t u : Nat} (hs : s < n) (ht : t < n) (hu : u < n) (hc : ¬ ((t = s ∨ gto pn kd on ot t s) ∨ u = s ∨ gto pn kd on ot u s)) : GMet D yX7_innerPart cX7_innerPart 6 (some (.object "ShorthandRules$Part")) [] 9 1 6 [gR (some (A 0)), gI s, gI t, gI u] h (pq (fun q h1 => h q = none ∧ h1 q = some (gObj 2 [gR (some (cad D 1)), gI t, gI u]) ∧ keeps h h1 (fun _ => False))) := by
  refine GMet.intro RX7 rfl (by decide) (gcats rfl) (Nat.le_of_ble_eq_true rfl) fun K KX S => ?_
  show K 0 [some _, some _, some _, some _, none, none] [] _ 0 0
  have g0 := hX.1
  obtain ⟨sz, he, re, hS, hG⟩ := hS
  obtain ⟨gt, tt⟩ := hS.2.1 t ht
  obtain ⟨gu, tu⟩ := hS.2.1 u hu
  have Gt := hG t ht
  have Gu := hG u hu
  have et : ((re t).testBit s = true) ↔ gto pn kd on ot t s := Gt.2.2.2 s (by omega)
  have eu : ((re u).testBit s = true) ↔ gto pn kd on ot u s := Gu.2.2.2 s (by omega)
  have := Gt.2.2.1
  have := Gu.2.2.1
  have at42 : ((t = s ∨ gto pn kd on ot t s) ∨ u = s ∨ gto pn kd on ot u s) → K 42 [some (gR (some (A 0))), some (gI s), some (gI t), some (gI u), some (gR (some (A (10 + t)))), some (gR (some (A (10 + u))))] [] h 0 0 := fun z => absurd z hc
  have at53 : ¬ ((t = s ∨ gto pn kd on ot t s) ∨ u = s ∨ gto pn kd on ot u s) → K 53 [some (gR (some (A 0))), some (gI s), some (gI t), some (gI u), some (gR (some (A (10 + t)))), some (gR (some (A (10 + u))))] [] h 0 0 := fun _ => by
    refine k_new S dX7_innerPart_53 n_X7_116 (by omega) (by omega) (fun q53 n53 l53 => ?_)
    refine k_dup S dX7_innerPart_56 ?_
    refine k_getsK (i := 1) S (by decide) dX7_innerPart_57 (Or.inl m_X7_264) ?_
    refine k_iload_n S dX7_innerPart_60 rfl ?_
    refine k_iload_n S dX7_innerPart_61 rfl ?_
    refine k_callI_v S dX7_innerPart_62 i_X7_124 (part_init D (hput_s _ _ _) (k := some (cad D 1)) (u := t) (v := u)) (fun h62 hp62 => ?_) rfl rfl (by decide) (by omega) (by omega) (Nat.le_of_ble_eq_true rfl)
    exact k_areturn S dX7_innerPart_65 (Or.inl ⟨_, rfl⟩) ⟨q53, rfl, n53, hp62.1, keeps.fr n53 hp62.2⟩ (by omega) (by omega)
  refine k_aload_n S dX7_innerPart_0 rfl ?_
  refine k_iload_n S dX7_innerPart_1 rfl ?_
  refine k_callV_r S dX7_innerPart_2 v_X7_81 (c_snAt_g D hX hS.1 hn ht gt) (by assumption) (fun h2 hp2 => ?_) rfl rfl (by decide) (by omega) (by omega) (Nat.le_of_ble_eq_true rfl)
  rw [hp2]
  refine k_astore S dX7_innerPart_5 (by decide) ?_
  refine k_aload_n S dX7_innerPart_7 rfl ?_
  refine k_iload_n S dX7_innerPart_8 rfl ?_
  refine k_callV_r S dX7_innerPart_9 v_X7_81 (c_snAt_g D hX hS.1 hn hu gu) (by assumption) (fun h9 hp9 => ?_) rfl rfl (by decide) (by omega) (by omega) (Nat.le_of_ble_eq_true rfl)
  rw [hp9]
  refine k_astore S dX7_innerPart_12 (by decide) ?_
  refine k_iload_n S dX7_innerPart_14 rfl ?_
  refine k_iload_n S dX7_innerPart_15 rfl ?_
  refine k_icmp_eq (tgt := 42) S dX7_innerPart_16 (by decide) (by omega) (by omega) (fun c16 => ?_) (fun c16 => ?_)
  · exact at42 (Or.inl (Or.inl (by omega)))
  · refine k_aload S dX7_innerPart_19 rfl ?_
    refine k_iload_n S dX7_innerPart_21 rfl ?_
    refine k_callV_r S dX7_innerPart_22 v_X7_190 (sn_reaches D gt (by omega) (by omega)) (by assumption) (fun h22 hp22 => ?_) rfl rfl (by decide) (by omega) (by omega) (Nat.le_of_ble_eq_true rfl)
    rw [hp22, b01_c et]
    refine k_if_ne (tgt := 42) S dX7_innerPart_25 (by decide) (b01_r _) (fun c25 => ?_) (fun c25 => ?_)
    · exact at42 (Or.inl (Or.inr (b01_n.mp c25)))
    · refine k_iload_n S dX7_innerPart_28 rfl ?_
      refine k_iload_n S dX7_innerPart_29 rfl ?_
      refine k_icmp_eq (tgt := 42) S dX7_innerPart_30 (by decide) (by omega) (by omega) (fun c30 => ?_) (fun c30 => ?_)
      · exact at42 (Or.inr (Or.inl (by omega)))
      · refine k_aload S dX7_innerPart_33 rfl ?_
        refine k_iload_n S dX7_innerPart_35 rfl ?_
        refine k_callV_r S dX7_innerPart_36 v_X7_190 (sn_reaches D gu (by omega) (by omega)) (by assumption) (fun h36 hp36 => ?_) rfl rfl (by decide) (by omega) (by omega) (Nat.le_of_ble_eq_true rfl)
        rw [hp36, b01_c eu]
        refine k_if_eq (tgt := 53) S dX7_innerPart_39 (by decide) (b01_r _) (fun c39 => ?_) (fun c39 => ?_)
        · exact at53 (fun z => z.elim (fun z => z.elim (fun z => by omega) (b01_0.mp c25)) (fun z => z.elim (fun z => by omega) (b01_0.mp c39)))
        · exact at42 (Or.inr (Or.inr (b01_n.mp c39)))
theorem rtg.nw {h : GH} {τ : Nat → Nat} {q t : Nat} (hq : h q = none) : rtg h τ (gupd τ q t) := fun z g hz => gupd_n _ _ (fun e9 => by subst e9; rw [hq] at hz; cases hz)
theorem rtg.tr {h h1 : GH} {τ τ1 τ2 : Nat → Nat} (t1 : rtg h τ τ1) (k1 : keeps h h1 (fun _ => False)) (t2 : rtg h1 τ1 τ2) : rtg h τ τ2 := fun z g hz => (t2 z g (k1 z g hz id)).trans (t1 z g hz)
theorem XS.mv {D : DD} {h h1 : GH} {τ τ1 A A1 : Nat → Nat} {P : Nat → Prop} (hX : XS D h τ A n fw of sc le tg pn kd on ot) (hk : keeps h h1 P) (hn : ∀ q, (τ q = 2 ∨ τ q = 7 ∨ 100 ≤ τ q) → ¬ P q) (ht : rtg h τ τ1) (hA : A1 1 = A 1 ∧ ∀ k, k < n → A1 (10 + k) = A (10 + k) ∧ A1 (20 + k) = A (20 + k) ∧ A1 (30 + k) = A (30 + k)) : XS D h1 τ1 A1 n fw of sc le tg pn kd on ot := by
  obtain ⟨sz, he, re, h1, h2⟩ := hX
  exact ⟨sz, he, re, h1.mv hk hn ht hA, h2⟩
theorem kp_nw {h h1 h2 : GH} {τ τ1 : Nat → Nat} (k1 : keeps h h1 (fun _ => False)) (t1 : rtg h τ τ1) (k2 : keeps h1 h2 (fun q => 100 ≤ τ1 q)) : keeps h h2 (fun q => 100 ≤ τ q) := fun q g hq hn => k2 q g (k1 q g hq id) (fun z => hn (by have e := t1 q g hq; have z9 : 100 ≤ τ1 q := z; show 100 ≤ τ q; omega))
theorem c_addPart_x (D : DD) (hX : XTop h τ A td cu lg sv ex un) (hn : n ≤ 8) {x N : Nat} (hx : x < n) (hN : pn x = (N : Nat)) (hBo : BOk (n : Nat) pn kd on ot rk) (hr8 : ∀ s, rk s < 8) (hS : XS D h τ A n fw of sc le tg pn kd on ot) {so u v : Int} {q : Nat} (gq : h q = some (gObj 2 [gR (some (cad D (pkK so))), gI u, gI (if so = 115 then u else v)])) (tq : τ q = 7) (hno : ¬ N < 12 ∨ (N < 12 ∧ (∃ rk1 : Nat → Nat, BOk (n : Nat) (gupd pn x ((N : Nat) + 1)) (gupd kd (12 * x + N) (so)) (gupd on (12 * x + N) (u)) (gupd ot (12 * x + N) (v)) rk1 ∧ ∀ s, rk1 s < 8) ∧ ∃ k : Nat, (k : Int) < ((n : Nat) : Int) ∧ 200 < szF (gupd pn x ((N : Nat) + 1)) (gupd kd (12 * x + N) (so)) (gupd on (12 * x + N) (u)) (gupd ot (12 * x + N) (v)) 8 k)) : GMet D yX7_addPart cX7_addPart 3 (some .int) [] 9 2 1006 [gR (some (A 0)), gR (some (A (10 + x))), gR (some q)] h (px "java/lang/IllegalStateException" (fun h1 => ∃ τ2 : Nat → Nat, rtg h τ τ2 ∧ XS D h1 τ2 A n fw of sc le tg pn kd on ot ∧ keeps h h1 (fun q => 100 ≤ τ q))) := by
  rcases hno with h12 | ⟨h12, ⟨rk1, hB1, hr1⟩, hbig⟩
  · exact c_addPart_f D hX hn hx hN hBo hr8 hS h12
  · exact c_addPart_l D hX hn hx hN hBo hr8 hS h12 gq tq hB1 hr1 hbig
/-- putCharacter, no snippet -/
theorem c_putChar_b (D : DD) (hX : XTop h τ A td cu lg sv ex un) (hn : n ≤ 8) (hS : XS D h τ A n fw of sc le tg pn kd on ot) {k : Int} (hr : inR k) (hk : ¬ (0 ≤ k ∧ k < n)) {c : Int} : GMet D yX7_putCharacter cX7_putCharacter 4 (some .int) [] 11 3 1012 [gR (some (A 0)), gI k, gI c] h (px "java/lang/IndexOutOfBoundsException" (fun h1 => h1 = h)) := by
  refine GMet.intro RX7 rfl (by decide) (gcats rfl) (Nat.le_of_ble_eq_true rfl) fun K KX S => ?_
  show K 0 [some _, some _, some _, none] [] _ 0 0
  have g0 := hX.1
  obtain ⟨sz, he, re, hS, hG⟩ := hS
  refine k_aload_n S dX7_putCharacter_0 rfl ?_
  refine k_iload_n S dX7_putCharacter_1 rfl ?_
  refine k_callV_x S dX7_putCharacter_2 v_X7_81 (c_snAt_x D hX hS.1 hn hr hk) (by assumption) (fun h2 hp2 => ?_) rfl rfl (by decide) (by omega) (by omega) (Nat.le_of_ble_eq_true rfl)
  rw [hp2]
  exact k_out S ⟨rfl, rfl⟩ (by omega) (by omega)
/-- putCharacter, not a character -/
theorem c_putChar_c (D : DD) (hX : XTop h τ A td cu lg sv ex un) (hn : n ≤ 8) (hS : XS D h τ A n fw of sc le tg pn kd on ot) {x : Nat} (hx : x < n) {c : Int} (hc : 0 ≤ c ∧ c < 65536) (hc2 : ¬ canT c) : GMet D yX7_putCharacter cX7_putCharacter 4 (some .int) [] 11 3 1012 [gR (some (A 0)), gI x, gI c] h (px "java/lang/IllegalArgumentException" (fun h1 => h1 = h)) := by
  refine GMet.intro RX7 rfl (by decide) (gcats rfl) (Nat.le_of_ble_eq_true rfl) fun K KX S => ?_
  show K 0 [some _, some _, some _, none] [] _ 0 0
  have g0 := hX.1
  obtain ⟨sz, he, re, hS, hG⟩ := hS
  obtain ⟨gx, tx9⟩ := hS.2.1 x hx
  refine k_aload_n S dX7_putCharacter_0 rfl ?_
  refine k_iload_n S dX7_putCharacter_1 rfl ?_
  refine k_callV_r S dX7_putCharacter_2 v_X7_81 (c_snAt_g D hX hS.1 hn hx gx) (by assumption) (fun h2 hp2 => ?_) rfl rfl (by decide) (by omega) (by omega) (Nat.le_of_ble_eq_true rfl)
  rw [hp2]
  refine k_astore_n S dX7_putCharacter_5 (by decide) ?_
  refine k_iload_n S dX7_putCharacter_6 rfl ?_
  refine k_callS_x S dX7_putCharacter_7 s_X7_85 (c_typeable_x D hc hc2) (fun h7 hp7 => ?_) rfl rfl (by decide) (by omega) (by omega) (Nat.le_of_ble_eq_true rfl)
  rw [hp7]
  exact k_out S ⟨rfl, rfl⟩ (by omega) (by omega)
/-- putCharacter -/
theorem c_putChar_g (D : DD) (hX : XTop h τ A td cu lg sv ex un) (hn : n ≤ 8) (hS : XS D h τ A n fw of sc le tg pn kd on ot) {x N : Nat} (hx : x < n) (hN : pn x = (N : Nat)) (hBo : BOk (n : Nat) pn kd on ot rk) (hr8 : ∀ s, rk s < 8) {c : Int} (hc : 0 ≤ c ∧ c < 65536) (hc2 : canT c) (h12 : N < 12) {rk1 : Nat → Nat} (hB1 : BOk (n : Nat) (gupd pn x ((N : Nat) + 1)) (gupd kd (12 * x + N) (99)) (gupd on (12 * x + N) (c)) (gupd ot (12 * x + N) (0)) rk1) (hr1 : ∀ s, rk1 s < 8) (hsm : ∀ k : Nat, (k : Int) < ((n : Nat) : Int) → szF (gupd pn x ((N : Nat) + 1)) (gupd kd (12 * x + N) (99)) (gupd on (12 * x + N) (c)) (gupd ot (12 * x + N) (0)) 8 k ≤ 200) : GMet D yX7_putCharacter cX7_putCharacter 4 (some .int) [] 11 3 1012 [gR (some (A 0)), gI x, gI c] h (pr (gI ((N : Nat) + 1)) (fun h1 => ∃ τ2 : Nat → Nat, rtg h τ τ2 ∧ XS D h1 τ2 A n fw of sc le tg (gupd pn x ((N : Nat) + 1)) (gupd kd (12 * x + N) (99)) (gupd on (12 * x + N) (c)) (gupd ot (12 * x + N) (0)) ∧ keeps h h1 (fun q => 100 ≤ τ q))) := by
  refine GMet.intro RX7 rfl (by decide) (gcats rfl) (Nat.le_of_ble_eq_true rfl) fun K KX S => ?_
  show K 0 [some _, some _, some _, none] [] _ 0 0
  have g0 := hX.1
  have hS0 := hS
  obtain ⟨sz, he, re, hS, hG⟩ := hS
  obtain ⟨gx, tx9⟩ := hS.2.1 x hx
  refine k_aload_n S dX7_putCharacter_0 rfl ?_
  refine k_iload_n S dX7_putCharacter_1 rfl ?_
  refine k_callV_r S dX7_putCharacter_2 v_X7_81 (c_snAt_g D hX hS.1 hn hx gx) (by assumption) (fun h2 hp2 => ?_) rfl rfl (by decide) (by omega) (by omega) (Nat.le_of_ble_eq_true rfl)
  rw [hp2]
  refine k_astore_n S dX7_putCharacter_5 (by decide) ?_
  refine k_iload_n S dX7_putCharacter_6 rfl ?_
  refine k_callS_v S dX7_putCharacter_7 s_X7_85 (c_typeable D hc hc2) (fun h7 hp7 => ?_) rfl rfl (by decide) (by omega) (by omega) (Nat.le_of_ble_eq_true rfl)
  rw [hp7]
  refine k_aload_n S dX7_putCharacter_10 rfl ?_
  refine k_aload_n S dX7_putCharacter_11 rfl ?_
  refine k_new S dX7_putCharacter_12 n_X7_116 (by omega) (by omega) (fun q12 n12 l12 => ?_)
  refine k_dup S dX7_putCharacter_15 ?_
  refine k_getsK (i := 0) S (by decide) dX7_putCharacter_16 (Or.inl m_X7_118) ?_
  refine k_iload_n S dX7_putCharacter_19 rfl ?_
  refine k_iconst S dX7_putCharacter_20 ?_
  refine k_callI_v S dX7_putCharacter_21 i_X7_124 (part_init D (hput_s _ _ _) (k := some (cad D 0)) (u := c) (v := 0)) (fun h21 hp21 => ?_) rfl rfl (by decide) (by omega) (by omega) (Nat.le_of_ble_eq_true rfl)
  have k5 : keeps h h21 (fun _ => False) := keeps.fr n12 hp21.2
  have t5 : rtg h τ (gupd τ q12 7) := rtg.nw n12
  have X5 := hX.mv k5 (fun _ _ z => z) t5 (fun _ _ => rfl)
  have S5 := hS0.mv k5 (fun _ _ z => z) t5 ⟨rfl, fun _ _ => ⟨rfl, rfl, rfl⟩⟩
  have g05 := X5.1
  refine k_callV_r S dX7_putCharacter_24 v_X7_127 (c_addPart_g D X5 hn hx hN hBo hr8 S5 h12 (so := 99) (u := c) (v := 0) hp21.1 (gupd_s _ _ _) hB1 hr1 hsm) (by assumption) (fun h24 hp24 => ?_) rfl rfl (by decide) (by omega) (by omega) (Nat.le_of_ble_eq_true rfl)
  obtain ⟨τ2, t2, S2, k2⟩ := hp24
  exact k_ireturn S dX7_putCharacter_27 ⟨rfl, τ2, t5.tr k5 t2, S2, kp_nw k5 t5 k2⟩ (by omega) (by omega)
/-- putCharacter -/
theorem c_putChar_x (D : DD) (hX : XTop h τ A td cu lg sv ex un) (hn : n ≤ 8) (hS : XS D h τ A n fw of sc le tg pn kd on ot) {x N : Nat} (hx : x < n) (hN : pn x = (N : Nat)) (hBo : BOk (n : Nat) pn kd on ot rk) (hr8 : ∀ s, rk s < 8) {c : Int} (hc : 0 ≤ c ∧ c < 65536) (hc2 : canT c) (hno : ¬ N < 12 ∨ (N < 12 ∧ (∃ rk1 : Nat → Nat, BOk (n : Nat) (gupd pn x ((N : Nat) + 1)) (gupd kd (12 * x + N) (99)) (gupd on (12 * x + N) (c)) (gupd ot (12 * x + N) (0)) rk1 ∧ ∀ s, rk1 s < 8) ∧ ∃ k : Nat, (k : Int) < ((n : Nat) : Int) ∧ 200 < szF (gupd pn x ((N : Nat) + 1)) (gupd kd (12 * x + N) (99)) (gupd on (12 * x + N) (c)) (gupd ot (12 * x + N) (0)) 8 k)) : GMet D yX7_putCharacter cX7_putCharacter 4 (some .int) [] 11 3 1012 [gR (some (A 0)), gI x, gI c] h (px "java/lang/IllegalStateException" (fun h1 => ∃ τ2 : Nat → Nat, rtg h τ τ2 ∧ XS D h1 τ2 A n fw of sc le tg pn kd on ot ∧ keeps h h1 (fun q => 100 ≤ τ q))) := by
  refine GMet.intro RX7 rfl (by decide) (gcats rfl) (Nat.le_of_ble_eq_true rfl) fun K KX S => ?_
  show K 0 [some _, some _, some _, none] [] _ 0 0
  have g0 := hX.1
  have hS0 := hS
  obtain ⟨sz, he, re, hS, hG⟩ := hS
  obtain ⟨gx, tx9⟩ := hS.2.1 x hx
  refine k_aload_n S dX7_putCharacter_0 rfl ?_
  refine k_iload_n S dX7_putCharacter_1 rfl ?_
  refine k_callV_r S dX7_putCharacter_2 v_X7_81 (c_snAt_g D hX hS.1 hn hx gx) (by assumption) (fun h2 hp2 => ?_) rfl rfl (by decide) (by omega) (by omega) (Nat.le_of_ble_eq_true rfl)
  rw [hp2]
  refine k_astore_n S dX7_putCharacter_5 (by decide) ?_
  refine k_iload_n S dX7_putCharacter_6 rfl ?_
  refine k_callS_v S dX7_putCharacter_7 s_X7_85 (c_typeable D hc hc2) (fun h7 hp7 => ?_) rfl rfl (by decide) (by omega) (by omega) (Nat.le_of_ble_eq_true rfl)
  rw [hp7]
  refine k_aload_n S dX7_putCharacter_10 rfl ?_
  refine k_aload_n S dX7_putCharacter_11 rfl ?_
  refine k_new S dX7_putCharacter_12 n_X7_116 (by omega) (by omega) (fun q12 n12 l12 => ?_)
  refine k_dup S dX7_putCharacter_15 ?_
  refine k_getsK (i := 0) S (by decide) dX7_putCharacter_16 (Or.inl m_X7_118) ?_
  refine k_iload_n S dX7_putCharacter_19 rfl ?_
  refine k_iconst S dX7_putCharacter_20 ?_
  refine k_callI_v S dX7_putCharacter_21 i_X7_124 (part_init D (hput_s _ _ _) (k := some (cad D 0)) (u := c) (v := 0)) (fun h21 hp21 => ?_) rfl rfl (by decide) (by omega) (by omega) (Nat.le_of_ble_eq_true rfl)
  have k5 : keeps h h21 (fun _ => False) := keeps.fr n12 hp21.2
  have t5 : rtg h τ (gupd τ q12 7) := rtg.nw n12
  have X5 := hX.mv k5 (fun _ _ z => z) t5 (fun _ _ => rfl)
  have S5 := hS0.mv k5 (fun _ _ z => z) t5 ⟨rfl, fun _ _ => ⟨rfl, rfl, rfl⟩⟩
  have g05 := X5.1
  refine k_callV_x S dX7_putCharacter_24 v_X7_127 (c_addPart_x D X5 hn hx hN hBo hr8 S5 (so := 99) (u := c) (v := 0) hp21.1 (gupd_s _ _ _) hno) (by assumption) (fun h24 hp24 => ?_) rfl rfl (by decide) (by omega) (by omega) (Nat.le_of_ble_eq_true rfl)
  obtain ⟨τ2, t2, S2, k2⟩ := hp24
  exact k_out S ⟨rfl, τ2, t5.tr k5 t2, S2, kp_nw k5 t5 k2⟩ (by omega) (by omega)
/-- putStop, no snippet -/
theorem c_putStop_b (D : DD) (hX : XTop h τ A td cu lg sv ex un) (hn : n ≤ 8) (hS : XS D h τ A n fw of sc le tg pn kd on ot) {k : Int} (hr : inR k) (hk : ¬ (0 ≤ k ∧ k < n)) : GMet D yX7_putStop cX7_putStop 2 (some .int) [] 11 3 1012 [gR (some (A 0)), gI k] h (px "java/lang/IndexOutOfBoundsException" (fun h1 => h1 = h)) := by
  refine GMet.intro RX7 rfl (by decide) (gcats rfl) (Nat.le_of_ble_eq_true rfl) fun K KX S => ?_
  show K 0 [some _, some _] [] _ 0 0
  have g0 := hX.1
  obtain ⟨sz, he, re, hS, hG⟩ := hS
  refine k_aload_n S dX7_putStop_0 rfl ?_
  refine k_aload_n S dX7_putStop_1 rfl ?_
  refine k_iload_n S dX7_putStop_2 rfl ?_
  refine k_callV_x S dX7_putStop_3 v_X7_81 (c_snAt_x D hX hS.1 hn hr hk) (by assumption) (fun h3 hp3 => ?_) rfl rfl (by decide) (by omega) (by omega) (Nat.le_of_ble_eq_true rfl)
  rw [hp3]
  exact k_out S ⟨rfl, rfl⟩ (by omega) (by omega)
/-- putStop -/
theorem c_putStop_g (D : DD) (hX : XTop h τ A td cu lg sv ex un) (hn : n ≤ 8) (hS : XS D h τ A n fw of sc le tg pn kd on ot) {x N : Nat} (hx : x < n) (hN : pn x = (N : Nat)) (hBo : BOk (n : Nat) pn kd on ot rk) (hr8 : ∀ s, rk s < 8) (h12 : N < 12) {rk1 : Nat → Nat} (hB1 : BOk (n : Nat) (gupd pn x ((N : Nat) + 1)) (gupd kd (12 * x + N) (112)) (gupd on (12 * x + N) (0)) (gupd ot (12 * x + N) (0)) rk1) (hr1 : ∀ s, rk1 s < 8) (hsm : ∀ k : Nat, (k : Int) < ((n : Nat) : Int) → szF (gupd pn x ((N : Nat) + 1)) (gupd kd (12 * x + N) (112)) (gupd on (12 * x + N) (0)) (gupd ot (12 * x + N) (0)) 8 k ≤ 200) : GMet D yX7_putStop cX7_putStop 2 (some .int) [] 11 3 1012 [gR (some (A 0)), gI x] h (pr (gI ((N : Nat) + 1)) (fun h1 => ∃ τ2 : Nat → Nat, rtg h τ τ2 ∧ XS D h1 τ2 A n fw of sc le tg (gupd pn x ((N : Nat) + 1)) (gupd kd (12 * x + N) (112)) (gupd on (12 * x + N) (0)) (gupd ot (12 * x + N) (0)) ∧ keeps h h1 (fun q => 100 ≤ τ q))) := by
  refine GMet.intro RX7 rfl (by decide) (gcats rfl) (Nat.le_of_ble_eq_true rfl) fun K KX S => ?_
  show K 0 [some _, some _] [] _ 0 0
  have g0 := hX.1
  have hS0 := hS
  obtain ⟨sz, he, re, hS, hG⟩ := hS
  obtain ⟨gx, tx9⟩ := hS.2.1 x hx
  refine k_aload_n S dX7_putStop_0 rfl ?_
  refine k_aload_n S dX7_putStop_1 rfl ?_
  refine k_iload_n S dX7_putStop_2 rfl ?_
  refine k_callV_r S dX7_putStop_3 v_X7_81 (c_snAt_g D hX hS.1 hn hx gx) (by assumption) (fun h3 hp3 => ?_) rfl rfl (by decide) (by omega) (by omega) (Nat.le_of_ble_eq_true rfl)
  rw [hp3]
  refine k_new S dX7_putStop_6 n_X7_116 (by omega) (by omega) (fun q6 n6 l6 => ?_)
  refine k_dup S dX7_putStop_9 ?_
  refine k_getsK (i := 3) S (by decide) dX7_putStop_10 (Or.inl m_X7_145) ?_
  refine k_iconst S dX7_putStop_13 ?_
  refine k_iconst S dX7_putStop_14 ?_
  refine k_callI_v S dX7_putStop_15 i_X7_124 (part_init D (hput_s _ _ _) (k := some (cad D 3)) (u := 0) (v := 0)) (fun h15 hp15 => ?_) rfl rfl (by decide) (by omega) (by omega) (Nat.le_of_ble_eq_true rfl)
  have k5 : keeps h h15 (fun _ => False) := keeps.fr n6 hp15.2
  have t5 : rtg h τ (gupd τ q6 7) := rtg.nw n6
  have X5 := hX.mv k5 (fun _ _ z => z) t5 (fun _ _ => rfl)
  have S5 := hS0.mv k5 (fun _ _ z => z) t5 ⟨rfl, fun _ _ => ⟨rfl, rfl, rfl⟩⟩
  have g05 := X5.1
  refine k_callV_r S dX7_putStop_18 v_X7_127 (c_addPart_g D X5 hn hx hN hBo hr8 S5 h12 (so := 112) (u := 0) (v := 0) hp15.1 (gupd_s _ _ _) hB1 hr1 hsm) (by assumption) (fun h18 hp18 => ?_) rfl rfl (by decide) (by omega) (by omega) (Nat.le_of_ble_eq_true rfl)
  obtain ⟨τ2, t2, S2, k2⟩ := hp18
  exact k_ireturn S dX7_putStop_21 ⟨rfl, τ2, t5.tr k5 t2, S2, kp_nw k5 t5 k2⟩ (by omega) (by omega)
/-- putStop -/
theorem c_putStop_x (D : DD) (hX : XTop h τ A td cu lg sv ex un) (hn : n ≤ 8) (hS : XS D h τ A n fw of sc le tg pn kd on ot) {x N : Nat} (hx : x < n) (hN : pn x = (N : Nat)) (hBo : BOk (n : Nat) pn kd on ot rk) (hr8 : ∀ s, rk s < 8) (hno : ¬ N < 12 ∨ (N < 12 ∧ (∃ rk1 : Nat → Nat, BOk (n : Nat) (gupd pn x ((N : Nat) + 1)) (gupd kd (12 * x + N) (112)) (gupd on (12 * x + N) (0)) (gupd ot (12 * x + N) (0)) rk1 ∧ ∀ s, rk1 s < 8) ∧ ∃ k : Nat, (k : Int) < ((n : Nat) : Int) ∧ 200 < szF (gupd pn x ((N : Nat) + 1)) (gupd kd (12 * x + N) (112)) (gupd on (12 * x + N) (0)) (gupd ot (12 * x + N) (0)) 8 k)) : GMet D yX7_putStop cX7_putStop 2 (some .int) [] 11 3 1012 [gR (some (A 0)), gI x] h (px "java/lang/IllegalStateException" (fun h1 => ∃ τ2 : Nat → Nat, rtg h τ τ2 ∧ XS D h1 τ2 A n fw of sc le tg pn kd on ot ∧ keeps h h1 (fun q => 100 ≤ τ q))) := by
  refine GMet.intro RX7 rfl (by decide) (gcats rfl) (Nat.le_of_ble_eq_true rfl) fun K KX S => ?_
  show K 0 [some _, some _] [] _ 0 0
  have g0 := hX.1
  have hS0 := hS
  obtain ⟨sz, he, re, hS, hG⟩ := hS
  obtain ⟨gx, tx9⟩ := hS.2.1 x hx
  refine k_aload_n S dX7_putStop_0 rfl ?_
  refine k_aload_n S dX7_putStop_1 rfl ?_
  refine k_iload_n S dX7_putStop_2 rfl ?_
  refine k_callV_r S dX7_putStop_3 v_X7_81 (c_snAt_g D hX hS.1 hn hx gx) (by assumption) (fun h3 hp3 => ?_) rfl rfl (by decide) (by omega) (by omega) (Nat.le_of_ble_eq_true rfl)
  rw [hp3]
  refine k_new S dX7_putStop_6 n_X7_116 (by omega) (by omega) (fun q6 n6 l6 => ?_)
  refine k_dup S dX7_putStop_9 ?_
  refine k_getsK (i := 3) S (by decide) dX7_putStop_10 (Or.inl m_X7_145) ?_
  refine k_iconst S dX7_putStop_13 ?_
  refine k_iconst S dX7_putStop_14 ?_
  refine k_callI_v S dX7_putStop_15 i_X7_124 (part_init D (hput_s _ _ _) (k := some (cad D 3)) (u := 0) (v := 0)) (fun h15 hp15 => ?_) rfl rfl (by decide) (by omega) (by omega) (Nat.le_of_ble_eq_true rfl)
  have k5 : keeps h h15 (fun _ => False) := keeps.fr n6 hp15.2
  have t5 : rtg h τ (gupd τ q6 7) := rtg.nw n6
  have X5 := hX.mv k5 (fun _ _ z => z) t5 (fun _ _ => rfl)
  have S5 := hS0.mv k5 (fun _ _ z => z) t5 ⟨rfl, fun _ _ => ⟨rfl, rfl, rfl⟩⟩
  have g05 := X5.1
  refine k_callV_x S dX7_putStop_18 v_X7_127 (c_addPart_x D X5 hn hx hN hBo hr8 S5 (so := 112) (u := 0) (v := 0) hp15.1 (gupd_s _ _ _) hno) (by assumption) (fun h18 hp18 => ?_) rfl rfl (by decide) (by omega) (by omega) (Nat.le_of_ble_eq_true rfl)
  obtain ⟨τ2, t2, S2, k2⟩ := hp18
  exact k_out S ⟨rfl, τ2, t5.tr k5 t2, S2, kp_nw k5 t5 k2⟩ (by omega) (by omega)
/-- putDate, no snippet -/
theorem c_putDate_b (D : DD) (hX : XTop h τ A td cu lg sv ex un) (hn : n ≤ 8) (hS : XS D h τ A n fw of sc le tg pn kd on ot) {k : Int} (hr : inR k) (hk : ¬ (0 ≤ k ∧ k < n)) {y fo : Int} : GMet D yX7_putDate cX7_putDate 5 (some .int) [] 11 3 1012 [gR (some (A 0)), gI k, gI y, gI fo] h (px "java/lang/IndexOutOfBoundsException" (fun h1 => h1 = h)) := by
  refine GMet.intro RX7 rfl (by decide) (gcats rfl) (Nat.le_of_ble_eq_true rfl) fun K KX S => ?_
  show K 0 [some _, some _, some _, some _, none] [] _ 0 0
  have g0 := hX.1
  obtain ⟨sz, he, re, hS, hG⟩ := hS
  refine k_aload_n S dX7_putDate_0 rfl ?_
  refine k_iload_n S dX7_putDate_1 rfl ?_
  refine k_callV_x S dX7_putDate_2 v_X7_81 (c_snAt_x D hX hS.1 hn hr hk) (by assumption) (fun h2 hp2 => ?_) rfl rfl (by decide) (by omega) (by omega) (Nat.le_of_ble_eq_true rfl)
  rw [hp2]
  exact k_out S ⟨rfl, rfl⟩ (by omega) (by omega)
/-- putDate, no such date -/
theorem c_putDate_d (D : DD) (hX : XTop h τ A td cu lg sv ex un) (hn : n ≤ 8) (hS : XS D h τ A n fw of sc le tg pn kd on ot) {x : Nat} (hx : x < n) {y fo : Int} (hy : inR y) (hf : 0 ≤ fo ∧ fo < 65536) (hd9 : ¬ ((-99 ≤ y ∧ y ≤ 99) ∧ (fo = 110 ∨ fo = 119 ∨ fo = 109))) : GMet D yX7_putDate cX7_putDate 5 (some .int) [] 11 3 1012 [gR (some (A 0)), gI x, gI y, gI fo] h (px "java/lang/IllegalArgumentException" (fun h1 => h1 = h)) := by
  refine GMet.intro RX7 rfl (by decide) (gcats rfl) (Nat.le_of_ble_eq_true rfl) fun K KX S => ?_
  show K 0 [some _, some _, some _, some _, none] [] _ 0 0
  have g0 := hX.1
  obtain ⟨sz, he, re, hS, hG⟩ := hS
  unfold inR at hy
  obtain ⟨gx, tx9⟩ := hS.2.1 x hx
  refine k_aload_n S dX7_putDate_0 rfl ?_
  refine k_iload_n S dX7_putDate_1 rfl ?_
  refine k_callV_r S dX7_putDate_2 v_X7_81 (c_snAt_g D hX hS.1 hn hx gx) (by assumption) (fun h2 hp2 => ?_) rfl rfl (by decide) (by omega) (by omega) (Nat.le_of_ble_eq_true rfl)
  rw [hp2]
  refine k_astore S dX7_putDate_5 (by decide) ?_
  refine k_iload_n S dX7_putDate_7 rfl ?_
  refine k_bipush S dX7_putDate_8 ?_
  refine k_icmp_lt (tgt := 19) S dX7_putDate_10 (by decide) (by omega) (by omega) (fun c10 => ?_) (fun c10 => ?_)
  · exact k_throwS S th_137_135 dX7_putDate_19 dX7_putDate_22 dX7_putDate_23 dX7_putDate_25 dX7_putDate_28 ⟨rfl, rfl⟩ (by omega) (by omega) (by decide)
  · refine k_iload_n S dX7_putDate_13 rfl ?_
    refine k_bipush S dX7_putDate_14 ?_
    refine k_icmp_le (tgt := 29) S dX7_putDate_16 (by decide) (by omega) (by omega) (fun c16 => ?_) (fun c16 => ?_)
    · refine k_iload_n S dX7_putDate_29 rfl ?_
      refine k_bipush S dX7_putDate_30 ?_
      refine k_icmp_eq (tgt := 57) S dX7_putDate_32 (by decide) (by omega) (by omega) (fun c32 => ?_) (fun c32 => ?_)
      · exact absurd ⟨by omega, by omega⟩ hd9
      · refine k_iload_n S dX7_putDate_35 rfl ?_
        refine k_bipush S dX7_putDate_36 ?_
        refine k_icmp_eq (tgt := 57) S dX7_putDate_38 (by decide) (by omega) (by omega) (fun c38 => ?_) (fun c38 => ?_)
        · exact absurd ⟨by omega, by omega⟩ hd9
        · refine k_iload_n S dX7_putDate_41 rfl ?_
          refine k_bipush S dX7_putDate_42 ?_
          refine k_icmp_eq (tgt := 57) S dX7_putDate_44 (by decide) (by omega) (by omega) (fun c44 => ?_) (fun c44 => ?_)
          · exact absurd ⟨by omega, by omega⟩ hd9
          · exact k_throwS S th_140_135 dX7_putDate_47 dX7_putDate_50 dX7_putDate_51 dX7_putDate_53 dX7_putDate_56 ⟨rfl, rfl⟩ (by omega) (by omega) (by decide)
    · exact k_throwS S th_137_135 dX7_putDate_19 dX7_putDate_22 dX7_putDate_23 dX7_putDate_25 dX7_putDate_28 ⟨rfl, rfl⟩ (by omega) (by omega) (by decide)
/-- putDate -/
theorem c_putDate_g (D : DD) (hX : XTop h τ A td cu lg sv ex un) (hn : n ≤ 8) (hS : XS D h τ A n fw of sc le tg pn kd on ot) {x N : Nat} (hx : x < n) (hN : pn x = (N : Nat)) (hBo : BOk (n : Nat) pn kd on ot rk) (hr8 : ∀ s, rk s < 8) {y fo : Int} (hd9 : (-99 ≤ y ∧ y ≤ 99) ∧ (fo = 110 ∨ fo = 119 ∨ fo = 109)) (h12 : N < 12) {rk1 : Nat → Nat} (hB1 : BOk (n : Nat) (gupd pn x ((N : Nat) + 1)) (gupd kd (12 * x + N) (100)) (gupd on (12 * x + N) (y)) (gupd ot (12 * x + N) (fo)) rk1) (hr1 : ∀ s, rk1 s < 8) (hsm : ∀ k : Nat, (k : Int) < ((n : Nat) : Int) → szF (gupd pn x ((N : Nat) + 1)) (gupd kd (12 * x + N) (100)) (gupd on (12 * x + N) (y)) (gupd ot (12 * x + N) (fo)) 8 k ≤ 200) : GMet D yX7_putDate cX7_putDate 5 (some .int) [] 11 3 1012 [gR (some (A 0)), gI x, gI y, gI fo] h (pr (gI ((N : Nat) + 1)) (fun h1 => ∃ τ2 : Nat → Nat, rtg h τ τ2 ∧ XS D h1 τ2 A n fw of sc le tg (gupd pn x ((N : Nat) + 1)) (gupd kd (12 * x + N) (100)) (gupd on (12 * x + N) (y)) (gupd ot (12 * x + N) (fo)) ∧ keeps h h1 (fun q => 100 ≤ τ q))) := by
  refine GMet.intro RX7 rfl (by decide) (gcats rfl) (Nat.le_of_ble_eq_true rfl) fun K KX S => ?_
  show K 0 [some _, some _, some _, some _, none] [] _ 0 0
  have g0 := hX.1
  have hS0 := hS
  obtain ⟨sz, he, re, hS, hG⟩ := hS
  obtain ⟨gx, tx9⟩ := hS.2.1 x hx
  have at57 : ∀ (kk : ∀ (q57 : Nat) (h69 : GH), h q57 = none → (h69 q57 = some (gObj 2 [gR (some (cad D 2)), gI y, gI fo]) ∧ keeps (hput h q57 (gObj 2 [gR none, gI 0, gI 0])) h69 (fun z => z = q57)) → K 72 [some (gR (some (A 0))), some (gI x), some (gI y), some (gI fo), some (gR (some (A (10 + x))))] [gR (some q57), gR (some (A (10 + x))), gR (some (A 0))] h69 (0 + 1 + 0) (0 + 3 + 0)), K 57 [some (gR (some (A 0))), some (gI x), some (gI y), some (gI fo), some (gR (some (A (10 + x))))] [] h 0 0 := fun kk => by
    refine k_aload_n S dX7_putDate_57 rfl ?_
    refine k_aload S dX7_putDate_58 rfl ?_
    refine k_new S dX7_putDate_60 n_X7_116 (by omega) (by omega) (fun q57 n60 l60 => ?_)
    refine k_dup S dX7_putDate_63 ?_
    refine k_getsK (i := 2) S (by decide) dX7_putDate_64 (Or.inl m_X7_142) ?_
    refine k_iload_n S dX7_putDate_67 rfl ?_
    refine k_iload_n S dX7_putDate_68 rfl ?_
    refine k_callI_v S dX7_putDate_69 i_X7_124 (part_init D (hput_s _ _ _) (k := some (cad D 2)) (u := y) (v := fo)) (fun h69 hp69 => ?_) rfl rfl (by decide) (by omega) (by omega) (Nat.le_of_ble_eq_true rfl)
    exact kk q57 h69 n60 hp69
  have at29 : K 57 [some (gR (some (A 0))), some (gI x), some (gI y), some (gI fo), some (gR (some (A (10 + x))))] [] h 0 0 → K 0 [some (gR (some (A 0))), some (gI x), some (gI y), some (gI fo), none] [] h 0 0 := fun k57 => by
    try clear hno
    refine k_aload_n S dX7_putDate_0 rfl ?_
    refine k_iload_n S dX7_putDate_1 rfl ?_
    refine k_callV_r S dX7_putDate_2 v_X7_81 (c_snAt_g D hX hS.1 hn hx gx) (by assumption) (fun h2 hp2 => ?_) rfl rfl (by decide) (by omega) (by omega) (Nat.le_of_ble_eq_true rfl)
    rw [hp2]
    refine k_astore S dX7_putDate_5 (by decide) ?_
    refine k_iload_n S dX7_putDate_7 rfl ?_
    refine k_bipush S dX7_putDate_8 ?_
    refine k_icmp_lt (tgt := 19) S dX7_putDate_10 (by decide) (by omega) (by omega) (fun c10 => ?_) (fun c10 => ?_)
    · omega
    · refine k_iload_n S dX7_putDate_13 rfl ?_
      refine k_bipush S dX7_putDate_14 ?_
      refine k_icmp_le (tgt := 29) S dX7_putDate_16 (by decide) (by omega) (by omega) (fun c16 => ?_) (fun c16 => ?_)
      · refine k_iload_n S dX7_putDate_29 rfl ?_
        refine k_bipush S dX7_putDate_30 ?_
        refine k_icmp_eq (tgt := 57) S dX7_putDate_32 (by decide) (by omega) (by omega) (fun c32 => ?_) (fun c32 => ?_)
        · exact k57
        · refine k_iload_n S dX7_putDate_35 rfl ?_
          refine k_bipush S dX7_putDate_36 ?_
          refine k_icmp_eq (tgt := 57) S dX7_putDate_38 (by decide) (by omega) (by omega) (fun c38 => ?_) (fun c38 => ?_)
          · exact k57
          · refine k_iload_n S dX7_putDate_41 rfl ?_
            refine k_bipush S dX7_putDate_42 ?_
            refine k_icmp_eq (tgt := 57) S dX7_putDate_44 (by decide) (by omega) (by omega) (fun c44 => ?_) (fun c44 => ?_)
            · exact k57
            · omega
      · omega
  refine at29 (at57 fun q57 h69 n57 hp69 => ?_)
  have k5 : keeps h h69 (fun _ => False) := keeps.fr n57 hp69.2
  have t5 : rtg h τ (gupd τ q57 7) := rtg.nw n57
  have X5 := hX.mv k5 (fun _ _ z => z) t5 (fun _ _ => rfl)
  have S5 := hS0.mv k5 (fun _ _ z => z) t5 ⟨rfl, fun _ _ => ⟨rfl, rfl, rfl⟩⟩
  have g05 := X5.1
  refine k_callV_r S dX7_putDate_72 v_X7_127 (c_addPart_g D X5 hn hx hN hBo hr8 S5 h12 (so := 100) (u := y) (v := fo) hp69.1 (gupd_s _ _ _) hB1 hr1 hsm) (by assumption) (fun h72 hp72 => ?_) rfl rfl (by decide) (by omega) (by omega) (Nat.le_of_ble_eq_true rfl)
  obtain ⟨τ2, t2, S2, k2⟩ := hp72
  exact k_ireturn S dX7_putDate_75 ⟨rfl, τ2, t5.tr k5 t2, S2, kp_nw k5 t5 k2⟩ (by omega) (by omega)
/-- putDate -/
theorem c_putDate_x (D : DD) (hX : XTop h τ A td cu lg sv ex un) (hn : n ≤ 8) (hS : XS D h τ A n fw of sc le tg pn kd on ot) {x N : Nat} (hx : x < n) (hN : pn x = (N : Nat)) (hBo : BOk (n : Nat) pn kd on ot rk) (hr8 : ∀ s, rk s < 8) {y fo : Int} (hd9 : (-99 ≤ y ∧ y ≤ 99) ∧ (fo = 110 ∨ fo = 119 ∨ fo = 109)) (hno : ¬ N < 12 ∨ (N < 12 ∧ (∃ rk1 : Nat → Nat, BOk (n : Nat) (gupd pn x ((N : Nat) + 1)) (gupd kd (12 * x + N) (100)) (gupd on (12 * x + N) (y)) (gupd ot (12 * x + N) (fo)) rk1 ∧ ∀ s, rk1 s < 8) ∧ ∃ k : Nat, (k : Int) < ((n : Nat) : Int) ∧ 200 < szF (gupd pn x ((N : Nat) + 1)) (gupd kd (12 * x + N) (100)) (gupd on (12 * x + N) (y)) (gupd ot (12 * x + N) (fo)) 8 k)) : GMet D yX7_putDate cX7_putDate 5 (some .int) [] 11 3 1012 [gR (some (A 0)), gI x, gI y, gI fo] h (px "java/lang/IllegalStateException" (fun h1 => ∃ τ2 : Nat → Nat, rtg h τ τ2 ∧ XS D h1 τ2 A n fw of sc le tg pn kd on ot ∧ keeps h h1 (fun q => 100 ≤ τ q))) := by
  refine GMet.intro RX7 rfl (by decide) (gcats rfl) (Nat.le_of_ble_eq_true rfl) fun K KX S => ?_
  show K 0 [some _, some _, some _, some _, none] [] _ 0 0
  have g0 := hX.1
  have hS0 := hS
  obtain ⟨sz, he, re, hS, hG⟩ := hS
  obtain ⟨gx, tx9⟩ := hS.2.1 x hx
  have at57 : ∀ (kk : ∀ (q57 : Nat) (h69 : GH), h q57 = none → (h69 q57 = some (gObj 2 [gR (some (cad D 2)), gI y, gI fo]) ∧ keeps (hput h q57 (gObj 2 [gR none, gI 0, gI 0])) h69 (fun z => z = q57)) → K 72 [some (gR (some (A 0))), some (gI x), some (gI y), some (gI fo), some (gR (some (A (10 + x))))] [gR (some q57), gR (some (A (10 + x))), gR (some (A 0))] h69 (0 + 1 + 0) (0 + 3 + 0)), K 57 [some (gR (some (A 0))), some (gI x), some (gI y), some (gI fo), some (gR (some (A (10 + x))))] [] h 0 0 := fun kk => by
    refine k_aload_n S dX7_putDate_57 rfl ?_
    refine k_aload S dX7_putDate_58 rfl ?_
    refine k_new S dX7_putDate_60 n_X7_116 (by omega) (by omega) (fun q57 n60 l60 => ?_)
    refine k_dup S dX7_putDate_63 ?_
    refine k_getsK (i := 2) S (by decide) dX7_putDate_64 (Or.inl m_X7_142) ?_
    refine k_iload_n S dX7_putDate_67 rfl ?_
    refine k_iload_n S dX7_putDate_68 rfl ?_
    refine k_callI_v S dX7_putDate_69 i_X7_124 (part_init D (hput_s _ _ _) (k := some (cad D 2)) (u := y) (v := fo)) (fun h69 hp69 => ?_) rfl rfl (by decide) (by omega) (by omega) (Nat.le_of_ble_eq_true rfl)
    exact kk q57 h69 n60 hp69
  have at29 : K 57 [some (gR (some (A 0))), some (gI x), some (gI y), some (gI fo), some (gR (some (A (10 + x))))] [] h 0 0 → K 0 [some (gR (some (A 0))), some (gI x), some (gI y), some (gI fo), none] [] h 0 0 := fun k57 => by
    try clear hno
    refine k_aload_n S dX7_putDate_0 rfl ?_
    refine k_iload_n S dX7_putDate_1 rfl ?_
    refine k_callV_r S dX7_putDate_2 v_X7_81 (c_snAt_g D hX hS.1 hn hx gx) (by assumption) (fun h2 hp2 => ?_) rfl rfl (by decide) (by omega) (by omega) (Nat.le_of_ble_eq_true rfl)
    rw [hp2]
    refine k_astore S dX7_putDate_5 (by decide) ?_
    refine k_iload_n S dX7_putDate_7 rfl ?_
    refine k_bipush S dX7_putDate_8 ?_
    refine k_icmp_lt (tgt := 19) S dX7_putDate_10 (by decide) (by omega) (by omega) (fun c10 => ?_) (fun c10 => ?_)
    · omega
    · refine k_iload_n S dX7_putDate_13 rfl ?_
      refine k_bipush S dX7_putDate_14 ?_
      refine k_icmp_le (tgt := 29) S dX7_putDate_16 (by decide) (by omega) (by omega) (fun c16 => ?_) (fun c16 => ?_)
      · refine k_iload_n S dX7_putDate_29 rfl ?_
        refine k_bipush S dX7_putDate_30 ?_
        refine k_icmp_eq (tgt := 57) S dX7_putDate_32 (by decide) (by omega) (by omega) (fun c32 => ?_) (fun c32 => ?_)
        · exact k57
        · refine k_iload_n S dX7_putDate_35 rfl ?_
          refine k_bipush S dX7_putDate_36 ?_
          refine k_icmp_eq (tgt := 57) S dX7_putDate_38 (by decide) (by omega) (by omega) (fun c38 => ?_) (fun c38 => ?_)
          · exact k57
          · refine k_iload_n S dX7_putDate_41 rfl ?_
            refine k_bipush S dX7_putDate_42 ?_
            refine k_icmp_eq (tgt := 57) S dX7_putDate_44 (by decide) (by omega) (by omega) (fun c44 => ?_) (fun c44 => ?_)
            · exact k57
            · omega
      · omega
  refine at29 (at57 fun q57 h69 n57 hp69 => ?_)
  have k5 : keeps h h69 (fun _ => False) := keeps.fr n57 hp69.2
  have t5 : rtg h τ (gupd τ q57 7) := rtg.nw n57
  have X5 := hX.mv k5 (fun _ _ z => z) t5 (fun _ _ => rfl)
  have S5 := hS0.mv k5 (fun _ _ z => z) t5 ⟨rfl, fun _ _ => ⟨rfl, rfl, rfl⟩⟩
  have g05 := X5.1
  refine k_callV_x S dX7_putDate_72 v_X7_127 (c_addPart_x D X5 hn hx hN hBo hr8 S5 (so := 100) (u := y) (v := fo) hp69.1 (gupd_s _ _ _) hno) (by assumption) (fun h72 hp72 => ?_) rfl rfl (by decide) (by omega) (by omega) (Nat.le_of_ble_eq_true rfl)
  obtain ⟨τ2, t2, S2, k2⟩ := hp72
  exact k_out S ⟨rfl, τ2, t5.tr k5 t2, S2, kp_nw k5 t5 k2⟩ (by omega) (by omega)
/-- no snippet -/
theorem c_putSn_b1 (D : DD) (hX : XTop h τ A td cu lg sv ex un) (hn : n ≤ 8) (hS : XS D h τ A n fw of sc le tg pn kd on ot) {k : Int} (hr : inR k) (hk : ¬ (0 ≤ k ∧ k < n)) {t : Int} : GMet D yX7_putSnippet cX7_putSnippet 3 (some .int) [] 11 3 1012 [gR (some (A 0)), gI k, gI t] h (px "java/lang/IndexOutOfBoundsException" (fun h1 => h1 = h)) := by
  refine GMet.intro RX7 rfl (by decide) (gcats rfl) (Nat.le_of_ble_eq_true rfl) fun K KX S => ?_
  show K 0 [some _, some _, some _] [] _ 0 0
  have g0 := hX.1
  obtain ⟨sz, he, re, hS, hG⟩ := hS
  refine k_aload_n S dX7_putSnippet_0 rfl ?_
  refine k_aload_n S dX7_putSnippet_1 rfl ?_
  refine k_iload_n S dX7_putSnippet_2 rfl ?_
  refine k_callV_x S dX7_putSnippet_3 v_X7_81 (c_snAt_x D hX hS.1 hn hr hk) (by assumption) (fun h3 hp3 => ?_) rfl rfl (by decide) (by omega) (by omega) (Nat.le_of_ble_eq_true rfl)
  rw [hp3]
  exact k_out S ⟨rfl, rfl⟩ (by omega) (by omega)
/-- no first -/
theorem c_putSn_b2 (D : DD) (hX : XTop h τ A td cu lg sv ex un) (hn : n ≤ 8) (hS : XS D h τ A n fw of sc le tg pn kd on ot) {x : Nat} (hx : x < n) {k : Int} (hr : inR k) (hk : ¬ (0 ≤ k ∧ k < n)) : GMet D yX7_putSnippet cX7_putSnippet 3 (some .int) [] 11 3 1012 [gR (some (A 0)), gI x, gI k] h (px "java/lang/IndexOutOfBoundsException" (fun h1 => h1 = h)) := by
  refine GMet.intro RX7 rfl (by decide) (gcats rfl) (Nat.le_of_ble_eq_true rfl) fun K KX S => ?_
  show K 0 [some _, some _, some _] [] _ 0 0
  have g0 := hX.1
  obtain ⟨sz, he, re, hS, hG⟩ := hS
  have hS0 : XS D h τ A n fw of sc le tg pn kd on ot := ⟨sz, he, re, hS, hG⟩
  obtain ⟨gx, tx9⟩ := hS.2.1 x hx
  refine k_aload_n S dX7_putSnippet_0 rfl ?_
  refine k_aload_n S dX7_putSnippet_1 rfl ?_
  refine k_iload_n S dX7_putSnippet_2 rfl ?_
  refine k_callV_r S dX7_putSnippet_3 v_X7_81 (c_snAt_g D hX hS.1 hn hx gx) (by assumption) (fun h3 hp3 => ?_) rfl rfl (by decide) (by omega) (by omega) (Nat.le_of_ble_eq_true rfl)
  rw [hp3]
  refine k_aload_n S dX7_putSnippet_6 rfl ?_
  refine k_iload_n S dX7_putSnippet_7 rfl ?_
  refine k_iload_n S dX7_putSnippet_8 rfl ?_
  refine k_iload_n S dX7_putSnippet_9 rfl ?_
  refine k_callV_x S dX7_putSnippet_10 v_X7_131 (c_inner_b1 D hX hn hS0 hr hk) (by assumption) (fun h10 hp10 => ?_) rfl rfl (by decide) (by omega) (by omega) (Nat.le_of_ble_eq_true rfl)
  rw [hp10]
  exact k_out S ⟨rfl, rfl⟩ (by omega) (by omega)
/-- it would come to itself -/
theorem c_putSn_u (D : DD) (hX : XTop h τ A td cu lg sv ex un) (hn : n ≤ 8) (hS : XS D h τ A n fw of sc le tg pn kd on ot) {x : Nat} (hx : x < n) {t : Nat} (ht : t < n) (hc : (t = x ∨ gto pn kd on ot t x) ∨ t = x ∨ gto pn kd on ot t x) : GMet D yX7_putSnippet cX7_putSnippet 3 (some .int) [] 11 3 1012 [gR (some (A 0)), gI x, gI t] h (px "java/lang/UnsupportedOperationException" (fun h1 => h1 = h)) := by
  refine GMet.intro RX7 rfl (by decide) (gcats rfl) (Nat.le_of_ble_eq_true rfl) fun K KX S => ?_
  show K 0 [some _, some _, some _] [] _ 0 0
  have g0 := hX.1
  obtain ⟨sz, he, re, hS, hG⟩ := hS
  have hS0 : XS D h τ A n fw of sc le tg pn kd on ot := ⟨sz, he, re, hS, hG⟩
  obtain ⟨gx, tx9⟩ := hS.2.1 x hx
  refine k_aload_n S dX7_putSnippet_0 rfl ?_
  refine k_aload_n S dX7_putSnippet_1 rfl ?_
  refine k_iload_n S dX7_putSnippet_2 rfl ?_
  refine k_callV_r S dX7_putSnippet_3 v_X7_81 (c_snAt_g D hX hS.1 hn hx gx) (by assumption) (fun h3 hp3 => ?_) rfl rfl (by decide) (by omega) (by omega) (Nat.le_of_ble_eq_true rfl)
  rw [hp3]
  refine k_aload_n S dX7_putSnippet_6 rfl ?_
  refine k_iload_n S dX7_putSnippet_7 rfl ?_
  refine k_iload_n S dX7_putSnippet_8 rfl ?_
  refine k_iload_n S dX7_putSnippet_9 rfl ?_
  refine k_callV_x S dX7_putSnippet_10 v_X7_131 (c_inner_u D hX hn hS0 hx ht ht hc) (by assumption) (fun h10 hp10 => ?_) rfl rfl (by decide) (by omega) (by omega) (Nat.le_of_ble_eq_true rfl)
  rw [hp10]
  exact k_out S ⟨rfl, rfl⟩ (by omega) (by omega)
/-- put -/
theorem c_putSn_g (D : DD) (hX : XTop h τ A td cu lg sv ex un) (hn : n ≤ 8) (hS : XS D h τ A n fw of sc le tg pn kd on ot) {x N : Nat} (hx : x < n) (hN : pn x = (N : Nat)) (hBo : BOk (n : Nat) pn kd on ot rk) (hr8 : ∀ s, rk s < 8) {t : Nat} (ht : t < n) (hc : ¬ ((t = x ∨ gto pn kd on ot t x) ∨ t = x ∨ gto pn kd on ot t x)) (h12 : N < 12) {rk1 : Nat → Nat} (hB1 : BOk (n : Nat) (gupd pn x ((N : Nat) + 1)) (gupd kd (12 * x + N) (115)) (gupd on (12 * x + N) (t)) (gupd ot (12 * x + N) (0)) rk1) (hr1 : ∀ s, rk1 s < 8) (hsm : ∀ k : Nat, (k : Int) < ((n : Nat) : Int) → szF (gupd pn x ((N : Nat) + 1)) (gupd kd (12 * x + N) (115)) (gupd on (12 * x + N) (t)) (gupd ot (12 * x + N) (0)) 8 k ≤ 200) : GMet D yX7_putSnippet cX7_putSnippet 3 (some .int) [] 11 3 1012 [gR (some (A 0)), gI x, gI t] h (pr (gI ((N : Nat) + 1)) (fun h1 => ∃ τ2 : Nat → Nat, rtg h τ τ2 ∧ XS D h1 τ2 A n fw of sc le tg (gupd pn x ((N : Nat) + 1)) (gupd kd (12 * x + N) (115)) (gupd on (12 * x + N) (t)) (gupd ot (12 * x + N) (0)) ∧ keeps h h1 (fun q => 100 ≤ τ q))) := by
  refine GMet.intro RX7 rfl (by decide) (gcats rfl) (Nat.le_of_ble_eq_true rfl) fun K KX S => ?_
  show K 0 [some _, some _, some _] [] _ 0 0
  have g0 := hX.1
  have hS0 := hS
  obtain ⟨sz, he, re, hS, hG⟩ := hS
  obtain ⟨gx, tx9⟩ := hS.2.1 x hx
  refine k_aload_n S dX7_putSnippet_0 rfl ?_
  refine k_aload_n S dX7_putSnippet_1 rfl ?_
  refine k_iload_n S dX7_putSnippet_2 rfl ?_
  refine k_callV_r S dX7_putSnippet_3 v_X7_81 (c_snAt_g D hX hS.1 hn hx gx) (by assumption) (fun h3 hp3 => ?_) rfl rfl (by decide) (by omega) (by omega) (Nat.le_of_ble_eq_true rfl)
  rw [hp3]
  refine k_aload_n S dX7_putSnippet_6 rfl ?_
  refine k_iload_n S dX7_putSnippet_7 rfl ?_
  refine k_iload_n S dX7_putSnippet_8 rfl ?_
  refine k_iload_n S dX7_putSnippet_9 rfl ?_
  refine k_callV_q S dX7_putSnippet_10 v_X7_131 (c_inner_g D hX hn hS0 hx ht ht hc) (by assumption) (fun q10 h10 hp10 => ?_) rfl rfl (by decide) (by omega) (by omega) (Nat.le_of_ble_eq_true rfl)
  obtain ⟨n10, gq10, k10⟩ := hp10
  have k5 : keeps h h10 (fun _ => False) := k10
  have t5 : rtg h τ (gupd τ q10 7) := rtg.nw n10
  have X5 := hX.mv k5 (fun _ _ z => z) t5 (fun _ _ => rfl)
  have S5 := hS0.mv k5 (fun _ _ z => z) t5 ⟨rfl, fun _ _ => ⟨rfl, rfl, rfl⟩⟩
  have g05 := X5.1
  refine k_callV_r S dX7_putSnippet_13 v_X7_127 (c_addPart_g D X5 hn hx hN hBo hr8 S5 h12 (so := 115) (u := t) (v := 0) gq10 (gupd_s _ _ _) hB1 hr1 hsm) (by assumption) (fun h13 hp13 => ?_) rfl rfl (by decide) (by omega) (by omega) (Nat.le_of_ble_eq_true rfl)
  obtain ⟨τ2, t2, S2, k2⟩ := hp13
  exact k_ireturn S dX7_putSnippet_16 ⟨rfl, τ2, t5.tr k5 t2, S2, kp_nw k5 t5 k2⟩ (by omega) (by omega)
/-- put -/
theorem c_putSn_x (D : DD) (hX : XTop h τ A td cu lg sv ex un) (hn : n ≤ 8) (hS : XS D h τ A n fw of sc le tg pn kd on ot) {x N : Nat} (hx : x < n) (hN : pn x = (N : Nat)) (hBo : BOk (n : Nat) pn kd on ot rk) (hr8 : ∀ s, rk s < 8) {t : Nat} (ht : t < n) (hc : ¬ ((t = x ∨ gto pn kd on ot t x) ∨ t = x ∨ gto pn kd on ot t x)) (hno : ¬ N < 12 ∨ (N < 12 ∧ (∃ rk1 : Nat → Nat, BOk (n : Nat) (gupd pn x ((N : Nat) + 1)) (gupd kd (12 * x + N) (115)) (gupd on (12 * x + N) (t)) (gupd ot (12 * x + N) (0)) rk1 ∧ ∀ s, rk1 s < 8) ∧ ∃ k : Nat, (k : Int) < ((n : Nat) : Int) ∧ 200 < szF (gupd pn x ((N : Nat) + 1)) (gupd kd (12 * x + N) (115)) (gupd on (12 * x + N) (t)) (gupd ot (12 * x + N) (0)) 8 k)) : GMet D yX7_putSnippet cX7_putSnippet 3 (some .int) [] 11 3 1012 [gR (some (A 0)), gI x, gI t] h (px "java/lang/IllegalStateException" (fun h1 => ∃ τ2 : Nat → Nat, rtg h τ τ2 ∧ XS D h1 τ2 A n fw of sc le tg pn kd on ot ∧ keeps h h1 (fun q => 100 ≤ τ q))) := by
  refine GMet.intro RX7 rfl (by decide) (gcats rfl) (Nat.le_of_ble_eq_true rfl) fun K KX S => ?_
  show K 0 [some _, some _, some _] [] _ 0 0
  have g0 := hX.1
  have hS0 := hS
  obtain ⟨sz, he, re, hS, hG⟩ := hS
  obtain ⟨gx, tx9⟩ := hS.2.1 x hx
  refine k_aload_n S dX7_putSnippet_0 rfl ?_
  refine k_aload_n S dX7_putSnippet_1 rfl ?_
  refine k_iload_n S dX7_putSnippet_2 rfl ?_
  refine k_callV_r S dX7_putSnippet_3 v_X7_81 (c_snAt_g D hX hS.1 hn hx gx) (by assumption) (fun h3 hp3 => ?_) rfl rfl (by decide) (by omega) (by omega) (Nat.le_of_ble_eq_true rfl)
  rw [hp3]
  refine k_aload_n S dX7_putSnippet_6 rfl ?_
  refine k_iload_n S dX7_putSnippet_7 rfl ?_
  refine k_iload_n S dX7_putSnippet_8 rfl ?_
  refine k_iload_n S dX7_putSnippet_9 rfl ?_
  refine k_callV_q S dX7_putSnippet_10 v_X7_131 (c_inner_g D hX hn hS0 hx ht ht hc) (by assumption) (fun q10 h10 hp10 => ?_) rfl rfl (by decide) (by omega) (by omega) (Nat.le_of_ble_eq_true rfl)
  obtain ⟨n10, gq10, k10⟩ := hp10
  have k5 : keeps h h10 (fun _ => False) := k10
  have t5 : rtg h τ (gupd τ q10 7) := rtg.nw n10
  have X5 := hX.mv k5 (fun _ _ z => z) t5 (fun _ _ => rfl)
  have S5 := hS0.mv k5 (fun _ _ z => z) t5 ⟨rfl, fun _ _ => ⟨rfl, rfl, rfl⟩⟩
  have g05 := X5.1
  refine k_callV_x S dX7_putSnippet_13 v_X7_127 (c_addPart_x D X5 hn hx hN hBo hr8 S5 (so := 115) (u := t) (v := 0) gq10 (gupd_s _ _ _) hno) (by assumption) (fun h13 hp13 => ?_) rfl rfl (by decide) (by omega) (by omega) (Nat.le_of_ble_eq_true rfl)
  obtain ⟨τ2, t2, S2, k2⟩ := hp13
  exact k_out S ⟨rfl, τ2, t5.tr k5 t2, S2, kp_nw k5 t5 k2⟩ (by omega) (by omega)
/-- no snippet -/
theorem c_putCh_b1 (D : DD) (hX : XTop h τ A td cu lg sv ex un) (hn : n ≤ 8) (hS : XS D h τ A n fw of sc le tg pn kd on ot) {k : Int} (hr : inR k) (hk : ¬ (0 ≤ k ∧ k < n)) {t u : Int} : GMet D yX7_putChoice cX7_putChoice 4 (some .int) [] 11 3 1012 [gR (some (A 0)), gI k, gI t, gI u] h (px "java/lang/IndexOutOfBoundsException" (fun h1 => h1 = h)) := by
  refine GMet.intro RX7 rfl (by decide) (gcats rfl) (Nat.le_of_ble_eq_true rfl) fun K KX S => ?_
  show K 0 [some _, some _, some _, some _] [] _ 0 0
  have g0 := hX.1
  obtain ⟨sz, he, re, hS, hG⟩ := hS
  refine k_aload_n S dX7_putChoice_0 rfl ?_
  refine k_aload_n S dX7_putChoice_1 rfl ?_
  refine k_iload_n S dX7_putChoice_2 rfl ?_
  refine k_callV_x S dX7_putChoice_3 v_X7_81 (c_snAt_x D hX hS.1 hn hr hk) (by assumption) (fun h3 hp3 => ?_) rfl rfl (by decide) (by omega) (by omega) (Nat.le_of_ble_eq_true rfl)
  rw [hp3]
  exact k_out S ⟨rfl, rfl⟩ (by omega) (by omega)
/-- no first -/
theorem c_putCh_b2 (D : DD) (hX : XTop h τ A td cu lg sv ex un) (hn : n ≤ 8) (hS : XS D h τ A n fw of sc le tg pn kd on ot) {x : Nat} (hx : x < n) {k : Int} (hr : inR k) (hk : ¬ (0 ≤ k ∧ k < n)) {u : Int} : GMet D yX7_putChoice cX7_putChoice 4 (some .int) [] 11 3 1012 [gR (some (A 0)), gI x, gI k, gI u] h (px "java/lang/IndexOutOfBoundsException" (fun h1 => h1 = h)) := by
  refine GMet.intro RX7 rfl (by decide) (gcats rfl) (Nat.le_of_ble_eq_true rfl) fun K KX S => ?_
  show K 0 [some _, some _, some _, some _] [] _ 0 0
  have g0 := hX.1
  obtain ⟨sz, he, re, hS, hG⟩ := hS
  have hS0 : XS D h τ A n fw of sc le tg pn kd on ot := ⟨sz, he, re, hS, hG⟩
  obtain ⟨gx, tx9⟩ := hS.2.1 x hx
  refine k_aload_n S dX7_putChoice_0 rfl ?_
  refine k_aload_n S dX7_putChoice_1 rfl ?_
  refine k_iload_n S dX7_putChoice_2 rfl ?_
  refine k_callV_r S dX7_putChoice_3 v_X7_81 (c_snAt_g D hX hS.1 hn hx gx) (by assumption) (fun h3 hp3 => ?_) rfl rfl (by decide) (by omega) (by omega) (Nat.le_of_ble_eq_true rfl)
  rw [hp3]
  refine k_aload_n S dX7_putChoice_6 rfl ?_
  refine k_iload_n S dX7_putChoice_7 rfl ?_
  refine k_iload_n S dX7_putChoice_8 rfl ?_
  refine k_iload_n S dX7_putChoice_9 rfl ?_
  refine k_callV_x S dX7_putChoice_10 v_X7_131 (c_inner_b1 D hX hn hS0 hr hk) (by assumption) (fun h10 hp10 => ?_) rfl rfl (by decide) (by omega) (by omega) (Nat.le_of_ble_eq_true rfl)
  rw [hp10]
  exact k_out S ⟨rfl, rfl⟩ (by omega) (by omega)
/-- no second -/
theorem c_putCh_b3 (D : DD) (hX : XTop h τ A td cu lg sv ex un) (hn : n ≤ 8) (hS : XS D h τ A n fw of sc le tg pn kd on ot) {x t : Nat} (hx : x < n) (ht : t < n) {k : Int} (hr : inR k) (hk : ¬ (0 ≤ k ∧ k < n)) : GMet D yX7_putChoice cX7_putChoice 4 (some .int) [] 11 3 1012 [gR (some (A 0)), gI x, gI t, gI k] h (px "java/lang/IndexOutOfBoundsException" (fun h1 => h1 = h)) := by
  refine GMet.intro RX7 rfl (by decide) (gcats rfl) (Nat.le_of_ble_eq_true rfl) fun K KX S => ?_
  show K 0 [some _, some _, some _, some _] [] _ 0 0
  have g0 := hX.1
  obtain ⟨sz, he, re, hS, hG⟩ := hS
  have hS0 : XS D h τ A n fw of sc le tg pn kd on ot := ⟨sz, he, re, hS, hG⟩
  obtain ⟨gx, tx9⟩ := hS.2.1 x hx
  refine k_aload_n S dX7_putChoice_0 rfl ?_
  refine k_aload_n S dX7_putChoice_1 rfl ?_
  refine k_iload_n S dX7_putChoice_2 rfl ?_
  refine k_callV_r S dX7_putChoice_3 v_X7_81 (c_snAt_g D hX hS.1 hn hx gx) (by assumption) (fun h3 hp3 => ?_) rfl rfl (by decide) (by omega) (by omega) (Nat.le_of_ble_eq_true rfl)
  rw [hp3]
  refine k_aload_n S dX7_putChoice_6 rfl ?_
  refine k_iload_n S dX7_putChoice_7 rfl ?_
  refine k_iload_n S dX7_putChoice_8 rfl ?_
  refine k_iload_n S dX7_putChoice_9 rfl ?_
  refine k_callV_x S dX7_putChoice_10 v_X7_131 (c_inner_b2 D hX hn hS0 ht hr hk) (by assumption) (fun h10 hp10 => ?_) rfl rfl (by decide) (by omega) (by omega) (Nat.le_of_ble_eq_true rfl)
  rw [hp10]
  exact k_out S ⟨rfl, rfl⟩ (by omega) (by omega)
/-- it would come to itself -/
theorem c_putCh_u (D : DD) (hX : XTop h τ A td cu lg sv ex un) (hn : n ≤ 8) (hS : XS D h τ A n fw of sc le tg pn kd on ot) {x : Nat} (hx : x < n) {t u : Nat} (ht : t < n) (hu : u < n) (hc : (t = x ∨ gto pn kd on ot t x) ∨ u = x ∨ gto pn kd on ot u x) : GMet D yX7_putChoice cX7_putChoice 4 (some .int) [] 11 3 1012 [gR (some (A 0)), gI x, gI t, gI u] h (px "java/lang/UnsupportedOperationException" (fun h1 => h1 = h)) := by
  refine GMet.intro RX7 rfl (by decide) (gcats rfl) (Nat.le_of_ble_eq_true rfl) fun K KX S => ?_
  show K 0 [some _, some _, some _, some _] [] _ 0 0
  have g0 := hX.1
  obtain ⟨sz, he, re, hS, hG⟩ := hS
  have hS0 : XS D h τ A n fw of sc le tg pn kd on ot := ⟨sz, he, re, hS, hG⟩
  obtain ⟨gx, tx9⟩ := hS.2.1 x hx
  refine k_aload_n S dX7_putChoice_0 rfl ?_
  refine k_aload_n S dX7_putChoice_1 rfl ?_
  refine k_iload_n S dX7_putChoice_2 rfl ?_
  refine k_callV_r S dX7_putChoice_3 v_X7_81 (c_snAt_g D hX hS.1 hn hx gx) (by assumption) (fun h3 hp3 => ?_) rfl rfl (by decide) (by omega) (by omega) (Nat.le_of_ble_eq_true rfl)
  rw [hp3]
  refine k_aload_n S dX7_putChoice_6 rfl ?_
  refine k_iload_n S dX7_putChoice_7 rfl ?_
  refine k_iload_n S dX7_putChoice_8 rfl ?_
  refine k_iload_n S dX7_putChoice_9 rfl ?_
  refine k_callV_x S dX7_putChoice_10 v_X7_131 (c_inner_u D hX hn hS0 hx ht hu hc) (by assumption) (fun h10 hp10 => ?_) rfl rfl (by decide) (by omega) (by omega) (Nat.le_of_ble_eq_true rfl)
  rw [hp10]
  exact k_out S ⟨rfl, rfl⟩ (by omega) (by omega)
/-- put -/
theorem c_putCh_g (D : DD) (hX : XTop h τ A td cu lg sv ex un) (hn : n ≤ 8) (hS : XS D h τ A n fw of sc le tg pn kd on ot) {x N : Nat} (hx : x < n) (hN : pn x = (N : Nat)) (hBo : BOk (n : Nat) pn kd on ot rk) (hr8 : ∀ s, rk s < 8) {t u : Nat} (ht : t < n) (hu : u < n) (hc : ¬ ((t = x ∨ gto pn kd on ot t x) ∨ u = x ∨ gto pn kd on ot u x)) (h12 : N < 12) {rk1 : Nat → Nat} (hB1 : BOk (n : Nat) (gupd pn x ((N : Nat) + 1)) (gupd kd (12 * x + N) (111)) (gupd on (12 * x + N) (t)) (gupd ot (12 * x + N) (u)) rk1) (hr1 : ∀ s, rk1 s < 8) (hsm : ∀ k : Nat, (k : Int) < ((n : Nat) : Int) → szF (gupd pn x ((N : Nat) + 1)) (gupd kd (12 * x + N) (111)) (gupd on (12 * x + N) (t)) (gupd ot (12 * x + N) (u)) 8 k ≤ 200) : GMet D yX7_putChoice cX7_putChoice 4 (some .int) [] 11 3 1012 [gR (some (A 0)), gI x, gI t, gI u] h (pr (gI ((N : Nat) + 1)) (fun h1 => ∃ τ2 : Nat → Nat, rtg h τ τ2 ∧ XS D h1 τ2 A n fw of sc le tg (gupd pn x ((N : Nat) + 1)) (gupd kd (12 * x + N) (111)) (gupd on (12 * x + N) (t)) (gupd ot (12 * x + N) (u)) ∧ keeps h h1 (fun q => 100 ≤ τ q))) := by
  refine GMet.intro RX7 rfl (by decide) (gcats rfl) (Nat.le_of_ble_eq_true rfl) fun K KX S => ?_
  show K 0 [some _, some _, some _, some _] [] _ 0 0
  have g0 := hX.1
  have hS0 := hS
  obtain ⟨sz, he, re, hS, hG⟩ := hS
  obtain ⟨gx, tx9⟩ := hS.2.1 x hx
  refine k_aload_n S dX7_putChoice_0 rfl ?_
  refine k_aload_n S dX7_putChoice_1 rfl ?_
  refine k_iload_n S dX7_putChoice_2 rfl ?_
  refine k_callV_r S dX7_putChoice_3 v_X7_81 (c_snAt_g D hX hS.1 hn hx gx) (by assumption) (fun h3 hp3 => ?_) rfl rfl (by decide) (by omega) (by omega) (Nat.le_of_ble_eq_true rfl)
  rw [hp3]
  refine k_aload_n S dX7_putChoice_6 rfl ?_
  refine k_iload_n S dX7_putChoice_7 rfl ?_
  refine k_iload_n S dX7_putChoice_8 rfl ?_
  refine k_iload_n S dX7_putChoice_9 rfl ?_
  refine k_callV_q S dX7_putChoice_10 v_X7_131 (c_inner_g D hX hn hS0 hx ht hu hc) (by assumption) (fun q10 h10 hp10 => ?_) rfl rfl (by decide) (by omega) (by omega) (Nat.le_of_ble_eq_true rfl)
  obtain ⟨n10, gq10, k10⟩ := hp10
  have k5 : keeps h h10 (fun _ => False) := k10
  have t5 : rtg h τ (gupd τ q10 7) := rtg.nw n10
  have X5 := hX.mv k5 (fun _ _ z => z) t5 (fun _ _ => rfl)
  have S5 := hS0.mv k5 (fun _ _ z => z) t5 ⟨rfl, fun _ _ => ⟨rfl, rfl, rfl⟩⟩
  have g05 := X5.1
  refine k_callV_r S dX7_putChoice_13 v_X7_127 (c_addPart_g D X5 hn hx hN hBo hr8 S5 h12 (so := 111) (u := t) (v := u) gq10 (gupd_s _ _ _) hB1 hr1 hsm) (by assumption) (fun h13 hp13 => ?_) rfl rfl (by decide) (by omega) (by omega) (Nat.le_of_ble_eq_true rfl)
  obtain ⟨τ2, t2, S2, k2⟩ := hp13
  exact k_ireturn S dX7_putChoice_16 ⟨rfl, τ2, t5.tr k5 t2, S2, kp_nw k5 t5 k2⟩ (by omega) (by omega)
/-- put -/
theorem c_putCh_x (D : DD) (hX : XTop h τ A td cu lg sv ex un) (hn : n ≤ 8) (hS : XS D h τ A n fw of sc le tg pn kd on ot) {x N : Nat} (hx : x < n) (hN : pn x = (N : Nat)) (hBo : BOk (n : Nat) pn kd on ot rk) (hr8 : ∀ s, rk s < 8) {t u : Nat} (ht : t < n) (hu : u < n) (hc : ¬ ((t = x ∨ gto pn kd on ot t x) ∨ u = x ∨ gto pn kd on ot u x)) (hno : ¬ N < 12 ∨ (N < 12 ∧ (∃ rk1 : Nat → Nat, BOk (n : Nat) (gupd pn x ((N : Nat) + 1)) (gupd kd (12 * x + N) (111)) (gupd on (12 * x + N) (t)) (gupd ot (12 * x + N) (u)) rk1 ∧ ∀ s, rk1 s < 8) ∧ ∃ k : Nat, (k : Int) < ((n : Nat) : Int) ∧ 200 < szF (gupd pn x ((N : Nat) + 1)) (gupd kd (12 * x + N) (111)) (gupd on (12 * x + N) (t)) (gupd ot (12 * x + N) (u)) 8 k)) : GMet D yX7_putChoice cX7_putChoice 4 (some .int) [] 11 3 1012 [gR (some (A 0)), gI x, gI t, gI u] h (px "java/lang/IllegalStateException" (fun h1 => ∃ τ2 : Nat → Nat, rtg h τ τ2 ∧ XS D h1 τ2 A n fw of sc le tg pn kd on ot ∧ keeps h h1 (fun q => 100 ≤ τ q))) := by
  refine GMet.intro RX7 rfl (by decide) (gcats rfl) (Nat.le_of_ble_eq_true rfl) fun K KX S => ?_
  show K 0 [some _, some _, some _, some _] [] _ 0 0
  have g0 := hX.1
  have hS0 := hS
  obtain ⟨sz, he, re, hS, hG⟩ := hS
  obtain ⟨gx, tx9⟩ := hS.2.1 x hx
  refine k_aload_n S dX7_putChoice_0 rfl ?_
  refine k_aload_n S dX7_putChoice_1 rfl ?_
  refine k_iload_n S dX7_putChoice_2 rfl ?_
  refine k_callV_r S dX7_putChoice_3 v_X7_81 (c_snAt_g D hX hS.1 hn hx gx) (by assumption) (fun h3 hp3 => ?_) rfl rfl (by decide) (by omega) (by omega) (Nat.le_of_ble_eq_true rfl)
  rw [hp3]
  refine k_aload_n S dX7_putChoice_6 rfl ?_
  refine k_iload_n S dX7_putChoice_7 rfl ?_
  refine k_iload_n S dX7_putChoice_8 rfl ?_
  refine k_iload_n S dX7_putChoice_9 rfl ?_
  refine k_callV_q S dX7_putChoice_10 v_X7_131 (c_inner_g D hX hn hS0 hx ht hu hc) (by assumption) (fun q10 h10 hp10 => ?_) rfl rfl (by decide) (by omega) (by omega) (Nat.le_of_ble_eq_true rfl)
  obtain ⟨n10, gq10, k10⟩ := hp10
  have k5 : keeps h h10 (fun _ => False) := k10
  have t5 : rtg h τ (gupd τ q10 7) := rtg.nw n10
  have X5 := hX.mv k5 (fun _ _ z => z) t5 (fun _ _ => rfl)
  have S5 := hS0.mv k5 (fun _ _ z => z) t5 ⟨rfl, fun _ _ => ⟨rfl, rfl, rfl⟩⟩
  have g05 := X5.1
  refine k_callV_x S dX7_putChoice_13 v_X7_127 (c_addPart_x D X5 hn hx hN hBo hr8 S5 (so := 111) (u := t) (v := u) gq10 (gupd_s _ _ _) hno) (by assumption) (fun h13 hp13 => ?_) rfl rfl (by decide) (by omega) (by omega) (Nat.le_of_ble_eq_true rfl)
  obtain ⟨τ2, t2, S2, k2⟩ := hp13
  exact k_out S ⟨rfl, τ2, t5.tr k5 t2, S2, kp_nw k5 t5 k2⟩ (by omega) (by omega)
end
