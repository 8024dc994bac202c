section
variable {h : GH} {τ A : Nat → Nat} {td cu lg sv ex un : Int} {n m c n2 m2 c2 : Nat} {F Z F2 Z2 : Nat → Int}
/-- keptShare, no expansion -/
theorem c_keptShare_x (D : DD) (hX : XTop h τ A td cu lg sv ex un) (he : ex = 0) : GMet D yX7_keptShare cX7_keptShare 1 (some .float) [] 7 1 6 [gR (some (A 0))] h (px eNS (fun h1 => h1 = h)) := by
  refine GMet.intro RX7 rfl (by decide) (gcats rfl) (Nat.le_of_ble_eq_true rfl) fun K KX S => ?_
  show K 0 [some _] [] _ 0 0
  have g0 := hX.1
  refine k_aload_n S dX7_keptShare_0 rfl ?_
  refine k_getf S dX7_keptShare_1 f_X7_55 (by assumption) (by rfl) ?_
  refine k_if_gt (tgt := 17) S dX7_keptShare_4 (by decide) (by omega) (fun c4 => ?_) (fun c4 => ?_)
  · omega
  · exact k_throwN S th_246_173 dX7_keptShare_7 dX7_keptShare_10 dX7_keptShare_11 dX7_keptShare_13 dX7_keptShare_16 ⟨rfl, rfl⟩ (by omega) (by omega) (by decide)
/-- keptShare -/
theorem c_keptShare_g (D : DD) (hX : XTop h τ A td cu lg sv ex un) (he : 0 < ex ∧ ex ≤ 512) (hu : 0 ≤ un ∧ un ≤ ex) : GMet D yX7_keptShare cX7_keptShare 1 (some .float) [] 1 0 0 [gR (some (A 0))] h (pr (gF (kshare (ex - un) ex)) (fun h1 => h1 = h)) := by
  refine GMet.intro RX7 rfl (by decide) (gcats rfl) (Nat.le_of_ble_eq_true rfl) fun K KX S => ?_
  show K 0 [some _] [] _ 0 0
  have g0 := hX.1
  have hok := fl_n32 (kshare_ok (y := ex - un) he (by omega))
  refine k_aload_n S dX7_keptShare_0 rfl ?_
  refine k_getf S dX7_keptShare_1 f_X7_55 (by assumption) (by rfl) ?_
  refine k_if_gt (tgt := 17) S dX7_keptShare_4 (by decide) (by omega) (fun c4 => ?_) (fun c4 => ?_)
  · refine k_aload_n S dX7_keptShare_17 rfl ?_
    refine k_getf S dX7_keptShare_18 f_X7_55 (by assumption) (by rfl) ?_
    refine k_aload_n S dX7_keptShare_21 rfl ?_
    refine k_getf S dX7_keptShare_22 f_X7_58 (by assumption) (by rfl) ?_
    refine k_isub S dX7_keptShare_25 ?_
    refine k_i2f S dX7_keptShare_26 ?_
    refine k_aload_n S dX7_keptShare_27 rfl ?_
    refine k_getf S dX7_keptShare_28 f_X7_55 (by assumption) (by rfl) ?_
    refine k_i2f S dX7_keptShare_31 ?_
    refine k_fdiv S dX7_keptShare_32 hok ?_
    exact k_freturn S dX7_keptShare_33 ⟨rfl, rfl⟩ (by omega) (by omega)
  · omega
/-- undo, refused -/
theorem c_undo_x (D : DD) (hX : XTop h τ A td cu lg sv ex un) (hc : cu = 0) : GMet D yX7_undo cX7_undo 1 (some .int) [] 7 1 6 [gR (some (A 0))] h (px "java/lang/IllegalStateException" (fun h1 => h1 = h)) := by
  refine GMet.intro RX7 rfl (by decide) (gcats rfl) (Nat.le_of_ble_eq_true rfl) fun K KX S => ?_
  show K 0 [some _] [] _ 0 0
  have g0 := hX.1
  refine k_aload_n S dX7_undo_0 rfl ?_
  refine k_getf S dX7_undo_1 f_X7_44 (by assumption) (by rfl) ?_
  refine k_if_ne (tgt := 17) S dX7_undo_4 (by decide) (by omega) (fun c4 => ?_) (fun c4 => ?_)
  · omega
  · exact k_throwS S th_234_65 dX7_undo_7 dX7_undo_10 dX7_undo_11 dX7_undo_13 dX7_undo_16 ⟨rfl, rfl⟩ (by omega) (by omega) (by decide)
/-- choose -/
theorem c_choose_g (D : DD) (hX : XTop h τ A td cu lg sv ex un) {n9 : Nat} (hL : XLst D h τ (A 1) 2 n9 (fun k => A (10 + k))) (hn : n9 ≤ 8) {k : Nat} (hk : k < n9) {fw on sc sz he : Int} {re : Nat} (hs : XSob h τ A k fw on sc sz he re) {p : Int} (hp : p = 0 ∨ p = 1) (hb : sc = 0 ∨ sc = 1) : GMet D yX7_choose cX7_choose 5 (some .boolean) [] 5 0 0 [gR (some (A 0)), gI k, gI p] h (pr (gI sc) (fun h1 => XSob h1 τ A k fw on p sz he re ∧ keeps h h1 (fun q => τ q = 100 + k))) := by
  refine GMet.intro RX7 rfl (by decide) (gcats rfl) (Nat.le_of_ble_eq_true rfl) fun K KX S => ?_
  show K 0 [some _, some _, some _, none, none] [] _ 0 0
  have g0 := hX.1
  have s0 := hs.1
  refine k_aload_n S dX7_choose_0 rfl ?_
  refine k_iload_n S dX7_choose_1 rfl ?_
  refine k_callV_r S dX7_choose_2 v_X7_81 (c_snAt_g D hX hL hn hk hs.1) (by assumption) (fun h2 hp2 => ?_) rfl rfl (by decide) (by omega) (by omega) (Nat.le_of_ble_eq_true rfl)
  rw [hp2]
  refine k_astore_n S dX7_choose_5 (by decide) ?_
  refine k_aload_n S dX7_choose_6 rfl ?_
  refine k_getf S dX7_choose_7 f_X7_157 (by assumption) (by rfl) ?_
  refine k_istore S dX7_choose_10 (by decide) ?_
  refine k_aload_n S dX7_choose_12 rfl ?_
  refine k_iload_n S dX7_choose_13 rfl ?_
  refine k_putf S dX7_choose_14 f_X7_157 (by assumption) (gfit_bool hp) (Nat.le_of_ble_eq_true rfl) ?_
  refine k_iload S dX7_choose_17 rfl ?_
  exact k_zreturn S dX7_choose_19 hb ⟨rfl, ⟨hput_s _ _ _, hs.2⟩, keeps.put (Or.inl hs.2)⟩ (by omega) (by omega)
/-- choose, no such snippet -/
theorem c_choose_x (D : DD) (hX : XTop h τ A td cu lg sv ex un) {n9 : Nat} (hL : XLst D h τ (A 1) 2 n9 (fun k => A (10 + k))) (hn : n9 ≤ 8) {k p : Int} (hr : inR k) (hk : ¬ (0 ≤ k ∧ k < n9)) : GMet D yX7_choose cX7_choose 5 (some .boolean) [] 9 1 6 [gR (some (A 0)), gI k, gI p] h (px "java/lang/IndexOutOfBoundsException" (fun h1 => h1 = h)) := by
  refine GMet.intro RX7 rfl (by decide) (gcats rfl) (Nat.le_of_ble_eq_true rfl) fun K KX S => ?_
  show K 0 [some _, some _, some _, none, none] [] _ 0 0
  have g0 := hX.1
  refine k_aload_n S dX7_choose_0 rfl ?_
  refine k_iload_n S dX7_choose_1 rfl ?_
  refine k_callV_x S dX7_choose_2 v_X7_81 (c_snAt_x D hX hL hn hr hk) (by assumption) (fun h2 hp2 => ?_) rfl rfl (by decide) (by omega) (by omega) (Nat.le_of_ble_eq_true rfl)
  rw [hp2]
  exact k_out S ⟨rfl, rfl⟩ (by omega) (by omega)
/-- setOn -/
theorem c_setOn_g (D : DD) (hX : XTop h τ A td cu lg sv ex un) {n9 : Nat} (hL : XLst D h τ (A 1) 2 n9 (fun k => A (10 + k))) (hn : n9 ≤ 8) {k : Nat} (hk : k < n9) {fw on sc sz he : Int} {re : Nat} (hs : XSob h τ A k fw on sc sz he re) {p : Int} (hp : p = 0 ∨ p = 1) (hb : on = 0 ∨ on = 1) : GMet D yX7_setOn cX7_setOn 5 (some .boolean) [] 5 0 0 [gR (some (A 0)), gI k, gI p] h (pr (gI on) (fun h1 => XSob h1 τ A k fw p sc sz he re ∧ keeps h h1 (fun q => τ q = 100 + k))) := by
  refine GMet.intro RX7 rfl (by decide) (gcats rfl) (Nat.le_of_ble_eq_true rfl) fun K KX S => ?_
  show K 0 [some _, some _, some _, none, none] [] _ 0 0
  have g0 := hX.1
  have s0 := hs.1
  refine k_aload_n S dX7_setOn_0 rfl ?_
  refine k_iload_n S dX7_setOn_1 rfl ?_
  refine k_callV_r S dX7_setOn_2 v_X7_81 (c_snAt_g D hX hL hn hk hs.1) (by assumption) (fun h2 hp2 => ?_) rfl rfl (by decide) (by omega) (by omega) (Nat.le_of_ble_eq_true rfl)
  rw [hp2]
  refine k_astore_n S dX7_setOn_5 (by decide) ?_
  refine k_aload_n S dX7_setOn_6 rfl ?_
  refine k_getf S dX7_setOn_7 f_X7_113 (by assumption) (by rfl) ?_
  refine k_istore S dX7_setOn_10 (by decide) ?_
  refine k_aload_n S dX7_setOn_12 rfl ?_
  refine k_iload_n S dX7_setOn_13 rfl ?_
  refine k_putf S dX7_setOn_14 f_X7_113 (by assumption) (gfit_bool hp) (Nat.le_of_ble_eq_true rfl) ?_
  refine k_iload S dX7_setOn_17 rfl ?_
  exact k_zreturn S dX7_setOn_19 hb ⟨rfl, ⟨hput_s _ _ _, hs.2⟩, keeps.put (Or.inl hs.2)⟩ (by omega) (by omega)
/-- setOn, no such snippet -/
theorem c_setOn_x (D : DD) (hX : XTop h τ A td cu lg sv ex un) {n9 : Nat} (hL : XLst D h τ (A 1) 2 n9 (fun k => A (10 + k))) (hn : n9 ≤ 8) {k p : Int} (hr : inR k) (hk : ¬ (0 ≤ k ∧ k < n9)) : GMet D yX7_setOn cX7_setOn 5 (some .boolean) [] 9 1 6 [gR (some (A 0)), gI k, gI p] h (px "java/lang/IndexOutOfBoundsException" (fun h1 => h1 = h)) := by
  refine GMet.intro RX7 rfl (by decide) (gcats rfl) (Nat.le_of_ble_eq_true rfl) fun K KX S => ?_
  show K 0 [some _, some _, some _, none, none] [] _ 0 0
  have g0 := hX.1
  refine k_aload_n S dX7_setOn_0 rfl ?_
  refine k_iload_n S dX7_setOn_1 rfl ?_
  refine k_callV_x S dX7_setOn_2 v_X7_81 (c_snAt_x D hX hL hn hr hk) (by assumption) (fun h2 hp2 => ?_) rfl rfl (by decide) (by omega) (by omega) (Nat.le_of_ble_eq_true rfl)
  rw [hp2]
  exact k_out S ⟨rfl, rfl⟩ (by omega) (by omega)
end
