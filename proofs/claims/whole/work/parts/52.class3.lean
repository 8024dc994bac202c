/-! a text and its tag -/
def XTxt (h : GH) (τ : Nat → Nat) (t g n : Nat) (F : Nat → Int) (m : Nat) (Z : Nat → Int) (c : Nat) : Prop := ∃ rc ac rs as_ : Nat, IsText h t rc ac rs as_ n F m Z c ∧ ∀ q, tP t rc ac rs as_ q → τ q = g
theorem XTxt.kp {h h1 : GH} {τ : Nat → Nat} {t g n m c : Nat} {F Z : Nat → Int} {P : Nat → Prop} (hX : XTxt h τ t g n F m Z c) (hk : keeps h h1 P) (hn : ∀ q, τ q = g → ¬ P q) : XTxt h1 τ t g n F m Z c := by
  obtain ⟨rc, ac, rs, as_, ⟨e1, e2, e3, e4, e5⟩, e6⟩ := hX
  have np : ∀ q, tP t rc ac rs as_ q → ¬ P q := fun q hq => hn q (e6 q hq)
  exact ⟨rc, ac, rs, as_, ⟨hk _ _ e1 (np _ (Or.inl rfl)), e2.kp hk (np _ (Or.inr (Or.inl rfl))) (np _ (Or.inr (Or.inr (Or.inl rfl)))), e3.kp hk (np _ (Or.inr (Or.inr (Or.inr (Or.inl rfl))))) (np _ (Or.inr (Or.inr (Or.inr (Or.inr rfl))))), e4, e5⟩, e6⟩
section
variable {h : GH} {τ A : Nat → Nat} {td cu lg sv ex un : Int} {n m c : Nat} {F Z : Nat → Int}
/-- length() -/
theorem c_length (D : DD) (hX : XTop h τ A td cu lg sv ex un) (hT : XTxt h τ (A 4) 5 n F m Z c) : GMet D yX7_length cX7_length 1 (some .int) [] 2 0 0 [gR (some (A 0))] h (pr (gI n) (fun h1 => h1 = h)) := by
  refine GMet.intro RX7 rfl (by decide) (gcats rfl) (Nat.le_of_ble_eq_true rfl) fun K KX S => ?_
  show K 0 [some _] [] _ 0 0
  have g0 := hX.1
  obtain ⟨rc, ac, rs, as_, ⟨e1, ⟨f2, e2, e2f⟩, ⟨f3, e3, e3f⟩, e4, e5⟩, e6⟩ := hT
  have e2a := e2.1
  have e3a := e3.1
  refine k_aload_n S dX7_length_0 rfl ?_
  refine k_getf S dX7_length_1 f_X7_33 (by assumption) (by rfl) ?_
  refine k_getf S dX7_length_4 f_X7_205 (by assumption) (by rfl) ?_
  refine k_callV_r S dX7_length_7 v_X7_107 (row_count D e2) (by assumption) (fun h7 hp7 => ?_) rfl rfl (by decide) (by omega) (by omega) (Nat.le_of_ble_eq_true rfl)
  rw [hp7]
  exact k_ireturn S dX7_length_10 ⟨rfl, rfl⟩ (by omega) (by omega)
/-- caret() -/
theorem c_caret (D : DD) (hX : XTop h τ A td cu lg sv ex un) (hT : XTxt h τ (A 4) 5 n F m Z c) : GMet D yX7_caret cX7_caret 1 (some .int) [] 2 0 0 [gR (some (A 0))] h (pr (gI c) (fun h1 => h1 = h)) := by
  refine GMet.intro RX7 rfl (by decide) (gcats rfl) (Nat.le_of_ble_eq_true rfl) fun K KX S => ?_
  show K 0 [some _] [] _ 0 0
  have g0 := hX.1
  obtain ⟨rc, ac, rs, as_, ⟨e1, ⟨f2, e2, e2f⟩, ⟨f3, e3, e3f⟩, e4, e5⟩, e6⟩ := hT
  have e2a := e2.1
  have e3a := e3.1
  refine k_aload_n S dX7_caret_0 rfl ?_
  refine k_getf S dX7_caret_1 f_X7_33 (by assumption) (by rfl) ?_
  refine k_getf S dX7_caret_4 f_X7_218 (by assumption) (by rfl) ?_
  exact k_ireturn S dX7_caret_7 ⟨rfl, rfl⟩ (by omega) (by omega)
/-- stops() -/
theorem c_stops (D : DD) (hX : XTop h τ A td cu lg sv ex un) (hT : XTxt h τ (A 4) 5 n F m Z c) : GMet D yX7_stops cX7_stops 1 (some .int) [] 2 0 0 [gR (some (A 0))] h (pr (gI m) (fun h1 => h1 = h)) := by
  refine GMet.intro RX7 rfl (by decide) (gcats rfl) (Nat.le_of_ble_eq_true rfl) fun K KX S => ?_
  show K 0 [some _] [] _ 0 0
  have g0 := hX.1
  obtain ⟨rc, ac, rs, as_, ⟨e1, ⟨f2, e2, e2f⟩, ⟨f3, e3, e3f⟩, e4, e5⟩, e6⟩ := hT
  have e2a := e2.1
  have e3a := e3.1
  refine k_aload_n S dX7_stops_0 rfl ?_
  refine k_getf S dX7_stops_1 f_X7_33 (by assumption) (by rfl) ?_
  refine k_getf S dX7_stops_4 f_X7_228 (by assumption) (by rfl) ?_
  refine k_callV_r S dX7_stops_7 v_X7_107 (row_count D e3) (by assumption) (fun h7 hp7 => ?_) rfl rfl (by decide) (by omega) (by omega) (Nat.le_of_ble_eq_true rfl)
  rw [hp7]
  exact k_ireturn S dX7_stops_10 ⟨rfl, rfl⟩ (by omega) (by omega)
/-- saved() -/
theorem c_saved (D : DD) (hX : XTop h τ A td cu lg sv ex un) : GMet D yX7_saved cX7_saved 1 (some .long) [] 2 0 0 [gR (some (A 0))] h (pr (gL sv) (fun h1 => h1 = h)) := by
  refine GMet.intro RX7 rfl (by decide) (gcats rfl) (Nat.le_of_ble_eq_true rfl) fun K KX S => ?_
  show K 0 [some _] [] _ 0 0
  have g0 := hX.1
  refine k_aload_n S dX7_saved_0 rfl ?_
  refine k_getf S dX7_saved_1 f_X7_51 (by assumption) (by rfl) ?_
  exact k_lreturn S dX7_saved_4 ⟨rfl, rfl⟩ (by omega) (by omega)
/-- characterAt, none there -/
theorem c_characterAt_x (D : DD) (hX : XTop h τ A td cu lg sv ex un) (hT : XTxt h τ (A 4) 5 n F m Z c) {u : Int} (hu : inR u) (hb : ¬ (0 ≤ u ∧ u < n)) : GMet D yX7_characterAt cX7_characterAt 2 (some .char) [] 7 1 6 [gR (some (A 0)), gI u] h (px "java/lang/IndexOutOfBoundsException" (fun h1 => h1 = h)) := by
  refine GMet.intro RX7 rfl (by decide) (gcats rfl) (Nat.le_of_ble_eq_true rfl) fun K KX S => ?_
  show K 0 [some _, some _] [] _ 0 0
  have g0 := hX.1
  obtain ⟨rc, ac, rs, as_, ⟨e1, ⟨f2, e2, e2f⟩, ⟨f3, e3, e3f⟩, e4, e5⟩, e6⟩ := hT
  have e2a := e2.1
  have e3a := e3.1
  refine k_aload_n S dX7_characterAt_0 rfl ?_
  refine k_getf S dX7_characterAt_1 f_X7_33 (by assumption) (by rfl) ?_
  refine k_getf S dX7_characterAt_4 f_X7_205 (by assumption) (by rfl) ?_
  refine k_iload_n S dX7_characterAt_7 rfl ?_
  refine k_callV_r S dX7_characterAt_8 v_X7_169 (row_has D e2 hu) (by assumption) (fun h8 hp8 => ?_) rfl rfl (by decide) (by omega) (by omega) (Nat.le_of_ble_eq_true rfl)
  rw [hp8, b01_f hb]
  refine k_if_ne (tgt := 24) S dX7_characterAt_11 (by decide) (by omega) (fun c11 => ?_) (fun c11 => ?_)
  · omega
  · exact k_throwS S th_175_240 dX7_characterAt_14 dX7_characterAt_17 dX7_characterAt_18 dX7_characterAt_20 dX7_characterAt_23 ⟨rfl, rfl⟩ (by omega) (by omega) (by decide)
/-- characterAt -/
theorem c_characterAt_g (D : DD) (hX : XTop h τ A td cu lg sv ex un) (hT : XTxt h τ (A 4) 5 n F m Z c) {u : Int} (hu : inR u) (hb : 0 ≤ u ∧ u < n) (hF : 0 ≤ F u.toNat ∧ F u.toNat < 65536) : GMet D yX7_characterAt cX7_characterAt 2 (some .char) [] 3 0 0 [gR (some (A 0)), gI u] h (pr (gI (F u.toNat)) (fun h1 => h1 = h)) := by
  refine GMet.intro RX7 rfl (by decide) (gcats rfl) (Nat.le_of_ble_eq_true rfl) fun K KX S => ?_
  show K 0 [some _, some _] [] _ 0 0
  have g0 := hX.1
  obtain ⟨rc, ac, rs, as_, ⟨e1, ⟨f2, e2, e2f⟩, ⟨f3, e3, e3f⟩, e4, e5⟩, e6⟩ := hT
  have e2a := e2.1
  have e3a := e3.1
  refine k_aload_n S dX7_characterAt_0 rfl ?_
  refine k_getf S dX7_characterAt_1 f_X7_33 (by assumption) (by rfl) ?_
  refine k_getf S dX7_characterAt_4 f_X7_205 (by assumption) (by rfl) ?_
  refine k_iload_n S dX7_characterAt_7 rfl ?_
  refine k_callV_r S dX7_characterAt_8 v_X7_169 (row_has D e2 hu) (by assumption) (fun h8 hp8 => ?_) rfl rfl (by decide) (by omega) (by omega) (Nat.le_of_ble_eq_true rfl)
  rw [hp8, b01_t hb]
  refine k_if_ne (tgt := 24) S dX7_characterAt_11 (by decide) (by omega) (fun c11 => ?_) (fun c11 => ?_)
  · refine k_aload_n S dX7_characterAt_24 rfl ?_
    refine k_getf S dX7_characterAt_25 f_X7_33 (by assumption) (by rfl) ?_
    refine k_getf S dX7_characterAt_28 f_X7_205 (by assumption) (by rfl) ?_
    refine k_iload_n S dX7_characterAt_31 rfl ?_
    refine k_callV_r S dX7_characterAt_32 v_X7_178 (row_at D e2 hu) (by assumption) (fun h32 hp32 => ?_) rfl rfl (by decide) (by omega) (by omega) (Nat.le_of_ble_eq_true rfl)
    rw [hp32, if_pos hb, e2f u.toNat (by omega)]
    refine k_i2c S dX7_characterAt_35 ?_
    rw [Int.emod_eq_of_lt hF.1 hF.2]
    exact k_creturn S dX7_characterAt_36 hF ⟨rfl, rfl⟩ (by omega) (by omega)
  · omega
/-- stopAt, none there -/
theorem c_stopAt_x (D : DD) (hX : XTop h τ A td cu lg sv ex un) (hT : XTxt h τ (A 4) 5 n F m Z c) {u : Int} (hu : inR u) (hb : ¬ (0 ≤ u ∧ u < m)) : GMet D yX7_stopAt cX7_stopAt 2 (some .int) [] 7 1 6 [gR (some (A 0)), gI u] h (px "java/lang/IndexOutOfBoundsException" (fun h1 => h1 = h)) := by
  refine GMet.intro RX7 rfl (by decide) (gcats rfl) (Nat.le_of_ble_eq_true rfl) fun K KX S => ?_
  show K 0 [some _, some _] [] _ 0 0
  have g0 := hX.1
  obtain ⟨rc, ac, rs, as_, ⟨e1, ⟨f2, e2, e2f⟩, ⟨f3, e3, e3f⟩, e4, e5⟩, e6⟩ := hT
  have e2a := e2.1
  have e3a := e3.1
  refine k_aload_n S dX7_stopAt_0 rfl ?_
  refine k_getf S dX7_stopAt_1 f_X7_33 (by assumption) (by rfl) ?_
  refine k_getf S dX7_stopAt_4 f_X7_228 (by assumption) (by rfl) ?_
  refine k_iload_n S dX7_stopAt_7 rfl ?_
  refine k_callV_r S dX7_stopAt_8 v_X7_169 (row_has D e3 hu) (by assumption) (fun h8 hp8 => ?_) rfl rfl (by decide) (by omega) (by omega) (Nat.le_of_ble_eq_true rfl)
  rw [hp8, b01_f hb]
  refine k_if_ne (tgt := 24) S dX7_stopAt_11 (by decide) (by omega) (fun c11 => ?_) (fun c11 => ?_)
  · omega
  · exact k_throwS S th_185_240 dX7_stopAt_14 dX7_stopAt_17 dX7_stopAt_18 dX7_stopAt_20 dX7_stopAt_23 ⟨rfl, rfl⟩ (by omega) (by omega) (by decide)
/-- stopAt -/
theorem c_stopAt_g (D : DD) (hX : XTop h τ A td cu lg sv ex un) (hT : XTxt h τ (A 4) 5 n F m Z c) {u : Int} (hu : inR u) (hb : 0 ≤ u ∧ u < m) : GMet D yX7_stopAt cX7_stopAt 2 (some .int) [] 3 0 0 [gR (some (A 0)), gI u] h (pr (gI (Z u.toNat)) (fun h1 => h1 = h)) := by
  refine GMet.intro RX7 rfl (by decide) (gcats rfl) (Nat.le_of_ble_eq_true rfl) fun K KX S => ?_
  show K 0 [some _, some _] [] _ 0 0
  have g0 := hX.1
  obtain ⟨rc, ac, rs, as_, ⟨e1, ⟨f2, e2, e2f⟩, ⟨f3, e3, e3f⟩, e4, e5⟩, e6⟩ := hT
  have e2a := e2.1
  have e3a := e3.1
  refine k_aload_n S dX7_stopAt_0 rfl ?_
  refine k_getf S dX7_stopAt_1 f_X7_33 (by assumption) (by rfl) ?_
  refine k_getf S dX7_stopAt_4 f_X7_228 (by assumption) (by rfl) ?_
  refine k_iload_n S dX7_stopAt_7 rfl ?_
  refine k_callV_r S dX7_stopAt_8 v_X7_169 (row_has D e3 hu) (by assumption) (fun h8 hp8 => ?_) rfl rfl (by decide) (by omega) (by omega) (Nat.le_of_ble_eq_true rfl)
  rw [hp8, b01_t hb]
  refine k_if_ne (tgt := 24) S dX7_stopAt_11 (by decide) (by omega) (fun c11 => ?_) (fun c11 => ?_)
  · refine k_aload_n S dX7_stopAt_24 rfl ?_
    refine k_getf S dX7_stopAt_25 f_X7_33 (by assumption) (by rfl) ?_
    refine k_getf S dX7_stopAt_28 f_X7_228 (by assumption) (by rfl) ?_
    refine k_iload_n S dX7_stopAt_31 rfl ?_
    refine k_callV_r S dX7_stopAt_32 v_X7_178 (row_at D e3 hu) (by assumption) (fun h32 hp32 => ?_) rfl rfl (by decide) (by omega) (by omega) (Nat.le_of_ble_eq_true rfl)
    rw [hp32, if_pos hb, e3f u.toNat (by omega)]
    exact k_ireturn S dX7_stopAt_35 ⟨rfl, rfl⟩ (by omega) (by omega)
  · omega
end
