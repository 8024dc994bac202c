section
variable {h : GH} {τ A : Nat → Nat} {td cu lg sv ex un : Int} {n m c n2 m2 c2 : Nat} {F Z F2 Z2 : Nat → Int}
/-- keptShare, no expansion -/
theorem c_keptShare_x (D : DD) (hX : XTop h τ A td cu lg sv ex un) (he : ex = 0) : GMet D yX7_keptShare cX7_keptShare 1 (some .float) [] 7 1 6 [gR (some (A 0))] h (px eNS (fun h1 => h1 = h)) := by
  refine GMet.intro RX7 rfl (by decide) (gcats rfl) (Nat.le_of_ble_eq_true rfl) fun K KX S => ?_
  show K 0 [some _] [] _ 0 0
  have g0 := hX.1
  refine k_aload_n S dX7_keptShare_0 rfl ?_
  refine k_getf S dX7_keptShare_1 f_X7_55 (by assumption) (by rfl) ?_
  refine k_if_gt (tgt := 17) S dX7_keptShare_4 (by decide) (by omega) (fun c4 => ?_) (fun c4 => ?_)
  · omega
  · exact k_throwN S th_246_173 dX7_keptShare_7 dX7_keptShare_10 dX7_keptShare_11 dX7_keptShare_13 dX7_keptShare_16 ⟨rfl, rfl⟩ (by omega) (by omega) (by decide)
/-- keptShare -/
theorem c_keptShare_g (D : DD) (hX : XTop h τ A td cu lg sv ex un) (he : 0 < ex ∧ ex ≤ 512) (hu : 0 ≤ un ∧ un ≤ ex) : GMet D yX7_keptShare cX7_keptShare 1 (some .float) [] 1 0 0 [gR (some (A 0))] h (pr (gF (kshare (ex - un) ex)) (fun h1 => h1 = h)) := by
  refine GMet.intro RX7 rfl (by decide) (gcats rfl) (Nat.le_of_ble_eq_true rfl) fun K KX S => ?_
  show K 0 [some _] [] _ 0 0
  have g0 := hX.1
  have hok := fl_n32 (kshare_ok (y := ex - un) he (by omega))
  refine k_aload_n S dX7_keptShare_0 rfl ?_
  refine k_getf S dX7_keptShare_1 f_X7_55 (by assumption) (by rfl) ?_
  refine k_if_gt (tgt := 17) S dX7_keptShare_4 (by decide) (by omega) (fun c4 => ?_) (fun c4 => ?_)
  · refine k_aload_n S dX7_keptShare_17 rfl ?_
    refine k_getf S dX7_keptShare_18 f_X7_55 (by assumption) (by rfl) ?_
    refine k_aload_n S dX7_keptShare_21 rfl ?_
    refine k_getf S dX7_keptShare_22 f_X7_58 (by assumption) (by rfl) ?_
    refine k_isub S dX7_keptShare_25 ?_
    refine k_i2f S dX7_keptShare_26 ?_
    refine k_aload_n S dX7_keptShare_27 rfl ?_
    refine k_getf S dX7_keptShare_28 f_X7_55 (by assumption) (by rfl) ?_
    refine k_i2f S dX7_keptShare_31 ?_
    refine k_fdiv S dX7_keptShare_32 hok ?_
    exact k_freturn S dX7_keptShare_33 ⟨rfl, rfl⟩ (by omega) (by omega)
  · omega
/-- undo, refused -/
theorem c_undo_x (D : DD) (hX : XTop h τ A td cu lg sv ex un) (hc : cu = 0) : GMet D yX7_undo cX7_undo 1 (some .int) [] 7 1 6 [gR (some (A 0))] h (px "java/lang/IllegalStateException" (fun h1 => h1 = h)) := by
  refine GMet.intro RX7 rfl (by decide) (gcats rfl) (Nat.le_of_ble_eq_true rfl) fun K KX S => ?_
  show K 0 [some _] [] _ 0 0
  have g0 := hX.1
  refine k_aload_n S dX7_undo_0 rfl ?_
  refine k_getf S dX7_undo_1 f_X7_44 (by assumption) (by rfl) ?_
  refine k_if_ne (tgt := 17) S dX7_undo_4 (by decide) (by omega) (fun c4 => ?_) (fun c4 => ?_)
  · omega
  · exact k_throwS S th_234_65 dX7_undo_7 dX7_undo_10 dX7_undo_11 dX7_undo_13 dX7_undo_16 ⟨rfl, rfl⟩ (by omega) (by omega) (by decide)
/-- choose -/
theorem c_choose_g (D : DD) (hX : XTop h τ A td cu lg sv ex un) {n9 : Nat} (hL : XLst D h τ (A 1) 2 n9 (fun k => A (10 + k))) (hn : n9 ≤ 8) {k : Nat} (hk : k < n9) {fw on sc sz he : Int} {re : Nat} (hs : XSob h τ A k fw on sc sz he re) {p : Int} (hp : p = 0 ∨ p = 1) (hb : sc = 0 ∨ sc = 1) : GMet D yX7_choose cX7_choose 5 (some .boolean) [] 5 0 0 [gR (some (A 0)), gI k, gI p] h (pr (gI sc) (fun h1 => XSob h1 τ A k fw on p sz he re ∧ keeps h h1 (fun q => τ q = 100 + k))) := by
  refine GMet.intro RX7 rfl (by decide) (gcats rfl) (Nat.le_of_ble_eq_true rfl) fun K KX S => ?_
  show K 0 [some _, some _, some _, none, none] [] _ 0 0
  have g0 := hX.1
  have s0 := hs.1
  refine k_aload_n S dX7_choose_0 rfl ?_
  refine k_iload_n S dX7_choose_1 rfl ?_
  refine k_callV_r S dX7_choose_2 v_X7_81 (c_snAt_g D hX hL hn hk hs.1) (by assumption) (fun h2 hp2 => ?_) rfl rfl (by decide) (by omega) (by omega) (Nat.le_of_ble_eq_true rfl)
  rw [hp2]
  refine k_astore_n S dX7_choose_5 (by decide) ?_
  refine k_aload_n S dX7_choose_6 rfl ?_
  refine k_getf S dX7_choose_7 f_X7_157 (by assumption) (by rfl) ?_
  refine k_istore S dX7_choose_10 (by decide) ?_
  refine k_aload_n S dX7_choose_12 rfl ?_
  refine k_iload_n S dX7_choose_13 rfl ?_
  refine k_putf S dX7_choose_14 f_X7_157 (by assumption) (gfit_bool hp) (Nat.le_of_ble_eq_true rfl) ?_
  refine k_iload S dX7_choose_17 rfl ?_
  exact k_zreturn S dX7_choose_19 hb ⟨rfl, ⟨hput_s _ _ _, hs.2⟩, keeps.put (Or.inl hs.2)⟩ (by omega) (by omega)
/-- choose, no such snippet -/
theorem c_choose_x (D : DD) (hX : XTop h τ A td cu lg sv ex un) {n9 : Nat} (hL : XLst D h τ (A 1) 2 n9 (fun k => A (10 + k))) (hn : n9 ≤ 8) {k p : Int} (hr : inR k) (hk : ¬ (0 ≤ k ∧ k < n9)) : GMet D yX7_choose cX7_choose 5 (some .boolean) [] 9 1 6 [gR (some (A 0)), gI k, gI p] h (px "java/lang/IndexOutOfBoundsException" (fun h1 => h1 = h)) := by
  refine GMet.intro RX7 rfl (by decide) (gcats rfl) (Nat.le_of_ble_eq_true rfl) fun K KX S => ?_
  show K 0 [some _, some _, some _, none, none] [] _ 0 0
  have g0 := hX.1
  refine k_aload_n S dX7_choose_0 rfl ?_
  refine k_iload_n S dX7_choose_1 rfl ?_
  refine k_callV_x S dX7_choose_2 v_X7_81 (c_snAt_x D hX hL hn hr hk) (by assumption) (fun h2 hp2 => ?_) rfl rfl (by decide) (by omega) (by omega) (Nat.le_of_ble_eq_true rfl)
  rw [hp2]
  exact k_out S ⟨rfl, rfl⟩ (by omega) (by omega)
/-- setOn -/
theorem c_setOn_g (D : DD) (hX : XTop h τ A td cu lg sv ex un) {n9 : Nat} (hL : XLst D h τ (A 1) 2 n9 (fun k => A (10 + k))) (hn : n9 ≤ 8) {k : Nat} (hk : k < n9) {fw on sc sz he : Int} {re : Nat} (hs : XSob h τ A k fw on sc sz he re) {p : Int} (hp : p = 0 ∨ p = 1) (hb : on = 0 ∨ on = 1) : GMet D yX7_setOn cX7_setOn 5 (some .boolean) [] 5 0 0 [gR (some (A 0)), gI k, gI p] h (pr (gI on) (fun h1 => XSob h1 τ A k fw p sc sz he re ∧ keeps h h1 (fun q => τ q = 100 + k))) := by
  refine GMet.intro RX7 rfl (by decide) (gcats rfl) (Nat.le_of_ble_eq_true rfl) fun K KX S => ?_
  show K 0 [some _, some _, some _, none, none] [] _ 0 0
  have g0 := hX.1
  have s0 := hs.1
  refine k_aload_n S dX7_setOn_0 rfl ?_
  refine k_iload_n S dX7_setOn_1 rfl ?_
  refine k_callV_r S dX7_setOn_2 v_X7_81 (c_snAt_g D hX hL hn hk hs.1) (by assumption) (fun h2 hp2 => ?_) rfl rfl (by decide) (by omega) (by omega) (Nat.le_of_ble_eq_true rfl)
  rw [hp2]
  refine k_astore_n S dX7_setOn_5 (by decide) ?_
  refine k_aload_n S dX7_setOn_6 rfl ?_
  refine k_getf S dX7_setOn_7 f_X7_113 (by assumption) (by rfl) ?_
  refine k_istore S dX7_setOn_10 (by decide) ?_
  refine k_aload_n S dX7_setOn_12 rfl ?_
  refine k_iload_n S dX7_setOn_13 rfl ?_
  refine k_putf S dX7_setOn_14 f_X7_113 (by assumption) (gfit_bool hp) (Nat.le_of_ble_eq_true rfl) ?_
  refine k_iload S dX7_setOn_17 rfl ?_
  exact k_zreturn S dX7_setOn_19 hb ⟨rfl, ⟨hput_s _ _ _, hs.2⟩, keeps.put (Or.inl hs.2)⟩ (by omega) (by omega)
/-- setOn, no such snippet -/
theorem c_setOn_x (D : DD) (hX : XTop h τ A td cu lg sv ex un) {n9 : Nat} (hL : XLst D h τ (A 1) 2 n9 (fun k => A (10 + k))) (hn : n9 ≤ 8) {k p : Int} (hr : inR k) (hk : ¬ (0 ≤ k ∧ k < n9)) : GMet D yX7_setOn cX7_setOn 5 (some .boolean) [] 9 1 6 [gR (some (A 0)), gI k, gI p] h (px "java/lang/IndexOutOfBoundsException" (fun h1 => h1 = h)) := by
  refine GMet.intro RX7 rfl (by decide) (gcats rfl) (Nat.le_of_ble_eq_true rfl) fun K KX S => ?_
  show K 0 [some _, some _, some _, none, none] [] _ 0 0
  have g0 := hX.1
  refine k_aload_n S dX7_setOn_0 rfl ?_
  refine k_iload_n S dX7_setOn_1 rfl ?_
  refine k_callV_x S dX7_setOn_2 v_X7_81 (c_snAt_x D hX hL hn hr hk) (by assumption) (fun h2 hp2 => ?_) rfl rfl (by decide) (by omega) (by omega) (Nat.le_of_ble_eq_true rfl)
  rw [hp2]
  exact k_out S ⟨rfl, rfl⟩ (by omega) (by omega)
theorem XTop.un1 {h0 : GH} {sv0 : Int} (hX : XTop h τ A td 0 lg sv ex un) (hT : XTxt h τ (A 4) 5 n F m Z c) {fs : List GV} (hk : keeps h0 h (fun q => τ q = 1 ∨ τ q = 5)) : ∃ hx : GH, hx = hput (hput h (A 0) (gObj 7 fs)) (A 0) (gObj 7 [gR (some (A 1)), gR (some (A 2)), gR (some (A 3)), gR (some (A 4)), gR (some (A 5)), gI td, gI 0, gI lg, gL (sv - lg), gI ex, gI (un + 1)]) ∧ XTop hx τ A td 0 lg (sv - lg) ex (un + 1) ∧ XTxt hx τ (A 4) 5 n F m Z c ∧ keeps h0 hx (fun q => τ q = 1 ∨ τ q = 5) := by
  have k1 : keeps h (hput (hput h (A 0) (gObj 7 fs)) (A 0) (gObj 7 [gR (some (A 1)), gR (some (A 2)), gR (some (A 3)), gR (some (A 4)), gR (some (A 5)), gI td, gI 0, gI lg, gL (sv - lg), gI ex, gI (un + 1)])) (fun q => q = A 0) := keeps.tr (P := fun q => q = A 0) (keeps.put (P := fun q => q = A 0) (Or.inl rfl)) (keeps.put (P := fun q => q = A 0) (Or.inl rfl))
  refine ⟨_, rfl, ⟨hput_s _ _ _, hX.2⟩, hT.kp k1 (fun q e1 e2 => ?_), hk.tr (k1.mono fun q z => Or.inl (z ▸ hX.2))⟩
  have := hX.2
  rw [← e2] at this
  omega
/-- undo -/
theorem c_undo_g (D : DD) (hX : XTop h τ A td cu lg sv ex un) (hT : XTxt h τ (A 4) 5 n F m Z c) (hU : XTxt h τ (A 5) 6 n2 F2 m2 Z2 c2) (hc : cu = 1) (hl : inR lg) : GMet D yX7_undo cX7_undo 1 (some .int) [] 5 0 0 [gR (some (A 0))] h (pr (gI n2) (fun h1 => XTop h1 τ A td 0 lg (sv - lg) ex (un + 1) ∧ XTxt h1 τ (A 4) 5 n2 F2 m2 Z2 c2 ∧ keeps h h1 (fun q => τ q = 1 ∨ τ q = 5))) := by
  refine GMet.intro RX7 rfl (by decide) (gcats rfl) (Nat.le_of_ble_eq_true rfl) fun K KX S => ?_
  show K 0 [some _] [] _ 0 0
  have g0 := hX.1
  unfold inR at hl
  refine k_aload_n S dX7_undo_0 rfl ?_
  refine k_getf S dX7_undo_1 f_X7_44 (by assumption) (by rfl) ?_
  refine k_if_ne (tgt := 17) S dX7_undo_4 (by decide) (by omega) (fun c4 => ?_) (fun c4 => ?_)
  · refine k_aload_n S dX7_undo_17 rfl ?_
    refine k_iconst S dX7_undo_18 ?_
    refine k_putf S dX7_undo_19 f_X7_44 (by assumption) (gfit_bool (by omega)) (Nat.le_of_ble_eq_true rfl) ?_
    obtain ⟨hx, ex9, X9, T9, K9⟩ := hX.cu0 hT
    show K 22 _ [] (hput h (A 0) (gObj 7 [gR (some (A 1)), gR (some (A 2)), gR (some (A 3)), gR (some (A 4)), gR (some (A 5)), gI td, gI 0, gI lg, gL sv, gI ex, gI un])) _ _
    rw [← ex9]
    have g9 := X9.1
    obtain ⟨rc, ac, rs, as_, ht9, e6⟩ := id T9
    obtain ⟨rd, ad, ru, au, hu9, e7⟩ := hU.kp K9 (fun q z1 z2 => by omega)
    have t9 := ht9.1
    have dif : ∀ x y, tP (A 4) rc ac rs as_ x → tP (A 5) rd ad ru au y → y ≠ x := fun x y z1 z2 z3 => by
      have y1 := e6 x z1
      have y2 := e7 y z2
      rw [z3] at y2
      omega
    have cp := tx_copyFrom D ht9 hu9 ⟨⟨dif _ _ (Or.inr (Or.inl rfl)) (Or.inr (Or.inl rfl)), dif _ _ (Or.inr (Or.inr (Or.inr (Or.inl rfl)))) (Or.inr (Or.inl rfl)), dif _ _ (Or.inr (Or.inl rfl)) (Or.inr (Or.inr (Or.inr (Or.inl rfl)))), dif _ _ (Or.inr (Or.inr (Or.inr (Or.inl rfl)))) (Or.inr (Or.inr (Or.inr (Or.inl rfl))))⟩, ⟨dif _ _ (Or.inr (Or.inr (Or.inl rfl))) (Or.inr (Or.inr (Or.inl rfl))), dif _ _ (Or.inr (Or.inr (Or.inr (Or.inr rfl)))) (Or.inr (Or.inr (Or.inl rfl))), dif _ _ (Or.inr (Or.inr (Or.inl rfl))) (Or.inr (Or.inr (Or.inr (Or.inr rfl)))), dif _ _ (Or.inr (Or.inr (Or.inr (Or.inr rfl)))) (Or.inr (Or.inr (Or.inr (Or.inr rfl))))⟩, dif _ _ (Or.inl rfl) (Or.inl rfl)⟩
    refine k_aload_n S dX7_undo_22 rfl ?_
    refine k_getf S dX7_undo_23 f_X7_33 (by assumption) (by rfl) ?_
    refine k_aload_n S dX7_undo_26 rfl ?_
    refine k_getf S dX7_undo_27 f_X7_37 (by assumption) (by rfl) ?_
    refine k_callV_v S dX7_undo_30 v_X7_236 cp (by assumption) (fun h30 hp30 => ?_) rfl rfl (by decide) (by omega) (by omega) (Nat.le_of_ble_eq_true rfl)
    obtain ⟨t1, t2⟩ := hp30
    have X30 := X9.kp (t2.mono (fun q z => (e6 q z : τ q = 5))) (fun q z1 z2 => by omega)
    have g30 := X30.1
    have T30 : XTxt h30 τ (A 4) 5 n2 F2 m2 Z2 c2 := ⟨rc, ac, rs, as_, t1, e6⟩
    have K30 := K9.tr (t2.mono fun q z => Or.inr (e6 q z))
    refine k_aload_n S dX7_undo_33 rfl ?_
    refine k_dup S dX7_undo_34 ?_
    refine k_getf S dX7_undo_35 f_X7_51 (by assumption) (by rfl) ?_
    refine k_aload_n S dX7_undo_38 rfl ?_
    refine k_getf S dX7_undo_39 f_X7_48 (by assumption) (by rfl) ?_
    refine k_i2l S dX7_undo_42 (by omega) ?_
    refine k_lsub S dX7_undo_43 ?_
    refine k_putf S dX7_undo_44 f_X7_51 (by assumption) (gfit_long _) (Nat.le_of_ble_eq_true rfl) ?_
    refine k_aload_n S dX7_undo_47 rfl ?_
    refine k_dup S dX7_undo_48 ?_
    refine k_getf S dX7_undo_49 f_X7_58 (hput_s _ _ _) (by rfl) ?_
    refine k_iconst S dX7_undo_52 ?_
    refine k_iadd S dX7_undo_53 ?_
    refine k_putf S dX7_undo_54 f_X7_58 (hput_s _ _ _) (gfit_int _) (Nat.le_of_ble_eq_true rfl) ?_
    obtain ⟨hy, ey, Xy, Ty, Ky⟩ := X30.un1 (sv0 := sv) T30 (fs := [gR (some (A 1)), gR (some (A 2)), gR (some (A 3)), gR (some (A 4)), gR (some (A 5)), gI td, gI 0, gI lg, gL (sv - lg), gI ex, gI un]) K30
    show K 57 _ [] (hput (hput h30 (A 0) (gObj 7 [gR (some (A 1)), gR (some (A 2)), gR (some (A 3)), gR (some (A 4)), gR (some (A 5)), gI td, gI 0, gI lg, gL (sv - lg), gI ex, gI un])) (A 0) (gObj 7 [gR (some (A 1)), gR (some (A 2)), gR (some (A 3)), gR (some (A 4)), gR (some (A 5)), gI td, gI 0, gI lg, gL (sv - lg), gI ex, gI (un + 1)])) _ _
    rw [← ey]
    have gy := Xy.1
    obtain ⟨rc1, ac1, rs1, as1, hty, e61⟩ := id Ty
    obtain ⟨ty, ⟨f2, e2, e2f⟩, -⟩ := id hty
    have e2a := e2.1
    refine k_aload_n S dX7_undo_57 rfl ?_
    refine k_getf S dX7_undo_58 f_X7_33 (by assumption) (by rfl) ?_
    refine k_getf S dX7_undo_61 f_X7_205 (by assumption) (by rfl) ?_
    refine k_callV_r S dX7_undo_64 v_X7_107 (row_count D e2) (by assumption) (fun h64 hp64 => ?_) rfl rfl (by decide) (by omega) (by omega) (Nat.le_of_ble_eq_true rfl)
    rw [hp64]
    exact k_ireturn S dX7_undo_67 ⟨rfl, Xy, Ty, Ky⟩ (by omega) (by omega)
  · omega
end
