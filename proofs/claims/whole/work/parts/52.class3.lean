/-! a text and its tag -/
def XTxt (h : GH) (τ : Nat → Nat) (t g n : Nat) (F : Nat → Int) (m : Nat) (Z : Nat → Int) (c : Nat) : Prop := ∃ rc ac rs as_ : Nat, IsText h t rc ac rs as_ n F m Z c ∧ ∀ q, tP t rc ac rs as_ q → τ q = g
theorem XTxt.kp {h h1 : GH} {τ : Nat → Nat} {t g n m c : Nat} {F Z : Nat → Int} {P : Nat → Prop} (hX : XTxt h τ t g n F m Z c) (hk : keeps h h1 P) (hn : ∀ q, τ q = g → ¬ P q) : XTxt h1 τ t g n F m Z c := by
  obtain ⟨rc, ac, rs, as_, ⟨e1, e2, e3, e4, e5⟩, e6⟩ := hX
  have np : ∀ q, tP t rc ac rs as_ q → ¬ P q := fun q hq => hn q (e6 q hq)
  exact ⟨rc, ac, rs, as_, ⟨hk _ _ e1 (np _ (Or.inl rfl)), e2.kp hk (np _ (Or.inr (Or.inl rfl))) (np _ (Or.inr (Or.inr (Or.inl rfl)))), e3.kp hk (np _ (Or.inr (Or.inr (Or.inr (Or.inl rfl))))) (np _ (Or.inr (Or.inr (Or.inr (Or.inr rfl))))), e4, e5⟩, e6⟩
section
variable {h : GH} {τ A : Nat → Nat} {td cu lg sv ex un : Int} {n m c : Nat} {F Z : Nat → Int}
/-- length() -/
theorem c_length (D : DD) (hX : XTop h τ A td cu lg sv ex un) (hT : XTxt h τ (A 4) 5 n F m Z c) : GMet D yX7_length cX7_length 1 (some .int) [] 2 0 0 [gR (some (A 0))] h (pr (gI n) (fun h1 => h1 = h)) := by
  refine GMet.intro RX7 rfl (by decide) (gcats rfl) (Nat.le_of_ble_eq_true rfl) fun K KX S => ?_
  show K 0 [some _] [] _ 0 0
  have g0 := hX.1
  obtain ⟨rc, ac, rs, as_, ⟨e1, ⟨f2, e2, e2f⟩, ⟨f3, e3, e3f⟩, e4, e5⟩, e6⟩ := hT
  have e2a := e2.1
  have e3a := e3.1
  refine k_aload_n S dX7_length_0 rfl ?_
  refine k_getf S dX7_length_1 f_X7_33 (by assumption) (by rfl) ?_
  refine k_getf S dX7_length_4 f_X7_205 (by assumption) (by rfl) ?_
  refine k_callV_r S dX7_length_7 v_X7_107 (row_count D e2) (by assumption) (fun h7 hp7 => ?_) rfl rfl (by decide) (by omega) (by omega) (Nat.le_of_ble_eq_true rfl)
  rw [hp7]
  exact k_ireturn S dX7_length_10 ⟨rfl, rfl⟩ (by omega) (by omega)
/-- caret() -/
theorem c_caret (D : DD) (hX : XTop h τ A td cu lg sv ex un) (hT : XTxt h τ (A 4) 5 n F m Z c) : GMet D yX7_caret cX7_caret 1 (some .int) [] 2 0 0 [gR (some (A 0))] h (pr (gI c) (fun h1 => h1 = h)) := by
  refine GMet.intro RX7 rfl (by decide) (gcats rfl) (Nat.le_of_ble_eq_true rfl) fun K KX S => ?_
  show K 0 [some _] [] _ 0 0
  have g0 := hX.1
  obtain ⟨rc, ac, rs, as_, ⟨e1, ⟨f2, e2, e2f⟩, ⟨f3, e3, e3f⟩, e4, e5⟩, e6⟩ := hT
  have e2a := e2.1
  have e3a := e3.1
  refine k_aload_n S dX7_caret_0 rfl ?_
  refine k_getf S dX7_caret_1 f_X7_33 (by assumption) (by rfl) ?_
  refine k_getf S dX7_caret_4 f_X7_218 (by assumption) (by rfl) ?_
  exact k_ireturn S dX7_caret_7 ⟨rfl, rfl⟩ (by omega) (by omega)
/-- stops() -/
theorem c_stops (D : DD) (hX : XTop h τ A td cu lg sv ex un) (hT : XTxt h τ (A 4) 5 n F m Z c) : GMet D yX7_stops cX7_stops 1 (some .int) [] 2 0 0 [gR (some (A 0))] h (pr (gI m) (fun h1 => h1 = h)) := by
  refine GMet.intro RX7 rfl (by decide) (gcats rfl) (Nat.le_of_ble_eq_true rfl) fun K KX S => ?_
  show K 0 [some _] [] _ 0 0
  have g0 := hX.1
  obtain ⟨rc, ac, rs, as_, ⟨e1, ⟨f2, e2, e2f⟩, ⟨f3, e3, e3f⟩, e4, e5⟩, e6⟩ := hT
  have e2a := e2.1
  have e3a := e3.1
  refine k_aload_n S dX7_stops_0 rfl ?_
  refine k_getf S dX7_stops_1 f_X7_33 (by assumption) (by rfl) ?_
  refine k_getf S dX7_stops_4 f_X7_228 (by assumption) (by rfl) ?_
  refine k_callV_r S dX7_stops_7 v_X7_107 (row_count D e3) (by assumption) (fun h7 hp7 => ?_) rfl rfl (by decide) (by omega) (by omega) (Nat.le_of_ble_eq_true rfl)
  rw [hp7]
  exact k_ireturn S dX7_stops_10 ⟨rfl, rfl⟩ (by omega) (by omega)
/-- saved() -/
theorem c_saved (D : DD) (hX : XTop h τ A td cu lg sv ex un) : GMet D yX7_saved cX7_saved 1 (some .long) [] 2 0 0 [gR (some (A 0))] h (pr (gL sv) (fun h1 => h1 = h)) := by
  refine GMet.intro RX7 rfl (by decide) (gcats rfl) (Nat.le_of_ble_eq_true rfl) fun K KX S => ?_
  show K 0 [some _] [] _ 0 0
  have g0 := hX.1
  refine k_aload_n S dX7_saved_0 rfl ?_
  refine k_getf S dX7_saved_1 f_X7_51 (by assumption) (by rfl) ?_
  exact k_lreturn S dX7_saved_4 ⟨rfl, rfl⟩ (by omega) (by omega)
/-- characterAt, none there -/
theorem c_characterAt_x (D : DD) (hX : XTop h τ A td cu lg sv ex un) (hT : XTxt h τ (A 4) 5 n F m Z c) {u : Int} (hu : inR u) (hb : ¬ (0 ≤ u ∧ u < n)) : GMet D yX7_characterAt cX7_characterAt 2 (some .char) [] 7 1 6 [gR (some (A 0)), gI u] h (px "java/lang/IndexOutOfBoundsException" (fun h1 => h1 = h)) := by
  refine GMet.intro RX7 rfl (by decide) (gcats rfl) (Nat.le_of_ble_eq_true rfl) fun K KX S => ?_
  show K 0 [some _, some _] [] _ 0 0
  have g0 := hX.1
  obtain ⟨rc, ac, rs, as_, ⟨e1, ⟨f2, e2, e2f⟩, ⟨f3, e3, e3f⟩, e4, e5⟩, e6⟩ := hT
  have e2a := e2.1
  have e3a := e3.1
  refine k_aload_n S dX7_characterAt_0 rfl ?_
  refine k_getf S dX7_characterAt_1 f_X7_33 (by assumption) (by rfl) ?_
  refine k_getf S dX7_characterAt_4 f_X7_205 (by assumption) (by rfl) ?_
  refine k_iload_n S dX7_characterAt_7 rfl ?_
  refine k_callV_r S dX7_characterAt_8 v_X7_169 (row_has D e2 hu) (by assumption) (fun h8 hp8 => ?_) rfl rfl (by decide) (by omega) (by omega) (Nat.le_of_ble_eq_true rfl)
  rw [hp8, b01_f hb]
  refine k_if_ne (tgt := 24) S dX7_characterAt_11 (by decide) (by omega) (fun c11 => ?_) (fun c11 => ?_)
  · omega
  · exact k_throwS S th_175_240 dX7_characterAt_14 dX7_characterAt_17 dX7_characterAt_18 dX7_characterAt_20 dX7_characterAt_23 ⟨rfl, rfl⟩ (by omega) (by omega) (by decide)
/-- characterAt -/
theorem c_characterAt_g (D : DD) (hX : XTop h τ A td cu lg sv ex un) (hT : XTxt h τ (A 4) 5 n F m Z c) {u : Int} (hu : inR u) (hb : 0 ≤ u ∧ u < n) (hF : 0 ≤ F u.toNat ∧ F u.toNat < 65536) : GMet D yX7_characterAt cX7_characterAt 2 (some .char) [] 3 0 0 [gR (some (A 0)), gI u] h (pr (gI (F u.toNat)) (fun h1 => h1 = h)) := by
  refine GMet.intro RX7 rfl (by decide) (gcats rfl) (Nat.le_of_ble_eq_true rfl) fun K KX S => ?_
  show K 0 [some _, some _] [] _ 0 0
  have g0 := hX.1
  obtain ⟨rc, ac, rs, as_, ⟨e1, ⟨f2, e2, e2f⟩, ⟨f3, e3, e3f⟩, e4, e5⟩, e6⟩ := hT
  have e2a := e2.1
  have e3a := e3.1
  refine k_aload_n S dX7_characterAt_0 rfl ?_
  refine k_getf S dX7_characterAt_1 f_X7_33 (by assumption) (by rfl) ?_
  refine k_getf S dX7_characterAt_4 f_X7_205 (by assumption) (by rfl) ?_
  refine k_iload_n S dX7_characterAt_7 rfl ?_
  refine k_callV_r S dX7_characterAt_8 v_X7_169 (row_has D e2 hu) (by assumption) (fun h8 hp8 => ?_) rfl rfl (by decide) (by omega) (by omega) (Nat.le_of_ble_eq_true rfl)
  rw [hp8, b01_t hb]
  refine k_if_ne (tgt := 24) S dX7_characterAt_11 (by decide) (by omega) (fun c11 => ?_) (fun c11 => ?_)
  · refine k_aload_n S dX7_characterAt_24 rfl ?_
    refine k_getf S dX7_characterAt_25 f_X7_33 (by assumption) (by rfl) ?_
    refine k_getf S dX7_characterAt_28 f_X7_205 (by assumption) (by rfl) ?_
    refine k_iload_n S dX7_characterAt_31 rfl ?_
    refine k_callV_r S dX7_characterAt_32 v_X7_178 (row_at D e2 hu) (by assumption) (fun h32 hp32 => ?_) rfl rfl (by decide) (by omega) (by omega) (Nat.le_of_ble_eq_true rfl)
    rw [hp32, if_pos hb, e2f u.toNat (by omega)]
    refine k_i2c S dX7_characterAt_35 ?_
    rw [Int.emod_eq_of_lt hF.1 hF.2]
    exact k_creturn S dX7_characterAt_36 hF ⟨rfl, rfl⟩ (by omega) (by omega)
  · omega
/-- stopAt, none there -/
theorem c_stopAt_x (D : DD) (hX : XTop h τ A td cu lg sv ex un) (hT : XTxt h τ (A 4) 5 n F m Z c) {u : Int} (hu : inR u) (hb : ¬ (0 ≤ u ∧ u < m)) : GMet D yX7_stopAt cX7_stopAt 2 (some .int) [] 7 1 6 [gR (some (A 0)), gI u] h (px "java/lang/IndexOutOfBoundsException" (fun h1 => h1 = h)) := by
  refine GMet.intro RX7 rfl (by decide) (gcats rfl) (Nat.le_of_ble_eq_true rfl) fun K KX S => ?_
  show K 0 [some _, some _] [] _ 0 0
  have g0 := hX.1
  obtain ⟨rc, ac, rs, as_, ⟨e1, ⟨f2, e2, e2f⟩, ⟨f3, e3, e3f⟩, e4, e5⟩, e6⟩ := hT
  have e2a := e2.1
  have e3a := e3.1
  refine k_aload_n S dX7_stopAt_0 rfl ?_
  refine k_getf S dX7_stopAt_1 f_X7_33 (by assumption) (by rfl) ?_
  refine k_getf S dX7_stopAt_4 f_X7_228 (by assumption) (by rfl) ?_
  refine k_iload_n S dX7_stopAt_7 rfl ?_
  refine k_callV_r S dX7_stopAt_8 v_X7_169 (row_has D e3 hu) (by assumption) (fun h8 hp8 => ?_) rfl rfl (by decide) (by omega) (by omega) (Nat.le_of_ble_eq_true rfl)
  rw [hp8, b01_f hb]
  refine k_if_ne (tgt := 24) S dX7_stopAt_11 (by decide) (by omega) (fun c11 => ?_) (fun c11 => ?_)
  · omega
  · exact k_throwS S th_185_240 dX7_stopAt_14 dX7_stopAt_17 dX7_stopAt_18 dX7_stopAt_20 dX7_stopAt_23 ⟨rfl, rfl⟩ (by omega) (by omega) (by decide)
/-- stopAt -/
theorem c_stopAt_g (D : DD) (hX : XTop h τ A td cu lg sv ex un) (hT : XTxt h τ (A 4) 5 n F m Z c) {u : Int} (hu : inR u) (hb : 0 ≤ u ∧ u < m) : GMet D yX7_stopAt cX7_stopAt 2 (some .int) [] 3 0 0 [gR (some (A 0)), gI u] h (pr (gI (Z u.toNat)) (fun h1 => h1 = h)) := by
  refine GMet.intro RX7 rfl (by decide) (gcats rfl) (Nat.le_of_ble_eq_true rfl) fun K KX S => ?_
  show K 0 [some _, some _] [] _ 0 0
  have g0 := hX.1
  obtain ⟨rc, ac, rs, as_, ⟨e1, ⟨f2, e2, e2f⟩, ⟨f3, e3, e3f⟩, e4, e5⟩, e6⟩ := hT
  have e2a := e2.1
  have e3a := e3.1
  refine k_aload_n S dX7_stopAt_0 rfl ?_
  refine k_getf S dX7_stopAt_1 f_X7_33 (by assumption) (by rfl) ?_
  refine k_getf S dX7_stopAt_4 f_X7_228 (by assumption) (by rfl) ?_
  refine k_iload_n S dX7_stopAt_7 rfl ?_
  refine k_callV_r S dX7_stopAt_8 v_X7_169 (row_has D e3 hu) (by assumption) (fun h8 hp8 => ?_) rfl rfl (by decide) (by omega) (by omega) (Nat.le_of_ble_eq_true rfl)
  rw [hp8, b01_t hb]
  refine k_if_ne (tgt := 24) S dX7_stopAt_11 (by decide) (by omega) (fun c11 => ?_) (fun c11 => ?_)
  · refine k_aload_n S dX7_stopAt_24 rfl ?_
    refine k_getf S dX7_stopAt_25 f_X7_33 (by assumption) (by rfl) ?_
    refine k_getf S dX7_stopAt_28 f_X7_228 (by assumption) (by rfl) ?_
    refine k_iload_n S dX7_stopAt_31 rfl ?_
    refine k_callV_r S dX7_stopAt_32 v_X7_178 (row_at D e3 hu) (by assumption) (fun h32 hp32 => ?_) rfl rfl (by decide) (by omega) (by omega) (Nat.le_of_ble_eq_true rfl)
    rw [hp32, if_pos hb, e3f u.toNat (by omega)]
    exact k_ireturn S dX7_stopAt_35 ⟨rfl, rfl⟩ (by omega) (by omega)
  · omega
theorem XTop.cu0 (hX : XTop h τ A td cu lg sv ex un) (hT : XTxt h τ (A 4) 5 n F m Z c) : ∃ hx : GH, hx = hput h (A 0) (gObj 7 [gR (some (A 1)), gR (some (A 2)), gR (some (A 3)), gR (some (A 4)), gR (some (A 5)), gI td, gI 0, gI lg, gL sv, gI ex, gI un]) ∧ XTop hx τ A td 0 lg sv ex un ∧ XTxt hx τ (A 4) 5 n F m Z c ∧ keeps h hx (fun q => τ q = 1 ∨ τ q = 5) := by
  refine ⟨_, rfl, ⟨hput_s _ _ _, hX.2⟩, hT.kp (P := fun q => q = A 0) (keeps.put (Or.inl rfl)) (fun q e1 e2 => ?_), keeps.put (Or.inl (Or.inl hX.2))⟩
  have := hX.2
  rw [← e2] at this
  omega
/-- moveCaret, refused -/
theorem c_moveCaret_x (D : DD) (hX : XTop h τ A td cu lg sv ex un) (hT : XTxt h τ (A 4) 5 n F m Z c) {u : Int} (hu : inR u) (hcn : c ≤ n ∧ n ≤ 80) (hb : ¬ (-(c : Int) ≤ u ∧ u ≤ (n : Int) - c)) : GMet D yX7_moveCaret cX7_moveCaret 2 (some .int) [] 7 1 6 [gR (some (A 0)), gI u] h (px "java/lang/IllegalArgumentException" (fun h1 => h1 = h)) := by
  refine GMet.intro RX7 rfl (by decide) (gcats rfl) (Nat.le_of_ble_eq_true rfl) fun K KX S => ?_
  show K 0 [some _, some _] [] _ 0 0
  unfold inR at hu
  have g0 := hX.1
  obtain ⟨rc, ac, rs, as_, ⟨e1, ⟨f2, e2, e2f⟩, ⟨f3, e3, e3f⟩, e4, e5⟩, e6⟩ := id hT
  have e2a := e2.1
  have e3a := e3.1
  refine k_iload_n S dX7_moveCaret_0 rfl ?_
  refine k_aload_n S dX7_moveCaret_1 rfl ?_
  refine k_getf S dX7_moveCaret_2 f_X7_33 (by assumption) (by rfl) ?_
  refine k_getf S dX7_moveCaret_5 f_X7_218 (by assumption) (by rfl) ?_
  refine k_ineg S dX7_moveCaret_8 ?_
  refine k_icmp_lt (tgt := 34) S dX7_moveCaret_9 (by decide) (by omega) (by omega) (fun c9 => ?_) (fun c9 => ?_)
  · exact k_throwS S th_226_135 dX7_moveCaret_34 dX7_moveCaret_37 dX7_moveCaret_38 dX7_moveCaret_40 dX7_moveCaret_43 ⟨rfl, rfl⟩ (by omega) (by omega) (by decide)
  · refine k_iload_n S dX7_moveCaret_12 rfl ?_
    refine k_aload_n S dX7_moveCaret_13 rfl ?_
    refine k_getf S dX7_moveCaret_14 f_X7_33 (by assumption) (by rfl) ?_
    refine k_getf S dX7_moveCaret_17 f_X7_205 (by assumption) (by rfl) ?_
    refine k_callV_r S dX7_moveCaret_20 v_X7_107 (row_count D e2) (by assumption) (fun h20 hp20 => ?_) rfl rfl (by decide) (by omega) (by omega) (Nat.le_of_ble_eq_true rfl)
    rw [hp20]
    refine k_aload_n S dX7_moveCaret_23 rfl ?_
    refine k_getf S dX7_moveCaret_24 f_X7_33 (by assumption) (by rfl) ?_
    refine k_getf S dX7_moveCaret_27 f_X7_218 (by assumption) (by rfl) ?_
    refine k_isub S dX7_moveCaret_30 ?_
    refine k_icmp_le (tgt := 44) S dX7_moveCaret_31 (by decide) (by omega) (by omega) (fun c31 => ?_) (fun c31 => ?_)
    · omega
    · exact k_throwS S th_226_135 dX7_moveCaret_34 dX7_moveCaret_37 dX7_moveCaret_38 dX7_moveCaret_40 dX7_moveCaret_43 ⟨rfl, rfl⟩ (by omega) (by omega) (by decide)
/-- moveCaret -/
theorem c_moveCaret_g (D : DD) (hX : XTop h τ A td cu lg sv ex un) (hT : XTxt h τ (A 4) 5 n F m Z c) {u : Int} (hu : inR u) (hcn : c ≤ n ∧ n ≤ 80) (hb : -(c : Int) ≤ u ∧ u ≤ (n : Int) - c) : GMet D yX7_moveCaret cX7_moveCaret 2 (some .int) [] 3 0 0 [gR (some (A 0)), gI u] h (pr (gI ((c : Nat) + u)) (fun h1 => XTop h1 τ A td 0 lg sv ex un ∧ XTxt h1 τ (A 4) 5 (n) (F) (m) (Z) (((c : Nat) + u : Int).toNat) ∧ keeps h h1 (fun q => τ q = 1 ∨ τ q = 5))) := by
  refine GMet.intro RX7 rfl (by decide) (gcats rfl) (Nat.le_of_ble_eq_true rfl) fun K KX S => ?_
  show K 0 [some _, some _] [] _ 0 0
  unfold inR at hu
  have g0 := hX.1
  obtain ⟨rc, ac, rs, as_, ⟨e1, ⟨f2, e2, e2f⟩, ⟨f3, e3, e3f⟩, e4, e5⟩, e6⟩ := id hT
  have e2a := e2.1
  have e3a := e3.1
  refine k_iload_n S dX7_moveCaret_0 rfl ?_
  refine k_aload_n S dX7_moveCaret_1 rfl ?_
  refine k_getf S dX7_moveCaret_2 f_X7_33 (by assumption) (by rfl) ?_
  refine k_getf S dX7_moveCaret_5 f_X7_218 (by assumption) (by rfl) ?_
  refine k_ineg S dX7_moveCaret_8 ?_
  refine k_icmp_lt (tgt := 34) S dX7_moveCaret_9 (by decide) (by omega) (by omega) (fun c9 => ?_) (fun c9 => ?_)
  · omega
  · refine k_iload_n S dX7_moveCaret_12 rfl ?_
    refine k_aload_n S dX7_moveCaret_13 rfl ?_
    refine k_getf S dX7_moveCaret_14 f_X7_33 (by assumption) (by rfl) ?_
    refine k_getf S dX7_moveCaret_17 f_X7_205 (by assumption) (by rfl) ?_
    refine k_callV_r S dX7_moveCaret_20 v_X7_107 (row_count D e2) (by assumption) (fun h20 hp20 => ?_) rfl rfl (by decide) (by omega) (by omega) (Nat.le_of_ble_eq_true rfl)
    rw [hp20]
    refine k_aload_n S dX7_moveCaret_23 rfl ?_
    refine k_getf S dX7_moveCaret_24 f_X7_33 (by assumption) (by rfl) ?_
    refine k_getf S dX7_moveCaret_27 f_X7_218 (by assumption) (by rfl) ?_
    refine k_isub S dX7_moveCaret_30 ?_
    refine k_icmp_le (tgt := 44) S dX7_moveCaret_31 (by decide) (by omega) (by omega) (fun c31 => ?_) (fun c31 => ?_)
    · refine k_aload_n S dX7_moveCaret_44 rfl ?_
      refine k_iconst S dX7_moveCaret_45 ?_
      refine k_putf S dX7_moveCaret_46 f_X7_44 (by assumption) (gfit_bool (by omega)) (Nat.le_of_ble_eq_true rfl) ?_
      obtain ⟨hx, ex9, X9, T9, K9⟩ := hX.cu0 hT
      show K 49 _ [] (hput h (A 0) (gObj 7 [gR (some (A 1)), gR (some (A 2)), gR (some (A 3)), gR (some (A 4)), gR (some (A 5)), gI td, gI 0, gI lg, gL sv, gI ex, gI un])) _ _
      rw [← ex9]
      have g0 := X9.1
      obtain ⟨rc, ac, rs, as_, ht9, e6⟩ := id T9
      obtain ⟨e1, ⟨f2, e2, e2f⟩, ⟨f3, e3, e3f⟩, e4, e5⟩ := id ht9
      have e2a := e2.1
      have e3a := e3.1
      refine k_aload_n S dX7_moveCaret_49 rfl ?_
      refine k_getf S dX7_moveCaret_50 f_X7_33 (by assumption) (by rfl) ?_
      refine k_dup S dX7_moveCaret_53 ?_
      refine k_getf S dX7_moveCaret_54 f_X7_218 (by assumption) (by rfl) ?_
      refine k_iload_n S dX7_moveCaret_57 rfl ?_
      refine k_iadd S dX7_moveCaret_58 ?_
      refine k_putf S dX7_moveCaret_59 f_X7_218 (by assumption) (gfit_int _) (Nat.le_of_ble_eq_true rfl) ?_
      refine k_aload_n S dX7_moveCaret_62 rfl ?_
      refine k_getf S dX7_moveCaret_63 f_X7_33 (by rw [hput_n _ _ (by intro z; have z1 := X9.2; have z2 := e6 _ (Or.inl rfl); rw [z] at z1; omega)]; exact g0) (by rfl) ?_
      refine k_getf S dX7_moveCaret_66 f_X7_218 (hput_s _ _ _) (by rfl) ?_
      refine k_ireturn S dX7_moveCaret_69 ?_ (by omega) (by omega)
      obtain ⟨t1, t2⟩ := ht9.care (c1 := ((c : Nat) + u : Int).toNat) (x := (c : Nat) + u) (by omega)
      refine ⟨rfl, X9.kp (t2.mono (fun q z => (e6 q z : τ q = 5))) (fun q z1 z2 => by omega), ⟨rc, ac, rs, as_, t1, e6⟩, K9.tr (t2.mono fun q z => Or.inr (e6 q z))⟩
    · omega
/-- erase, at the start -/
theorem c_erase_x (D : DD) (hX : XTop h τ A td cu lg sv ex un) (hT : XTxt h τ (A 4) 5 n F m Z c) (hc0 : c = 0) : GMet D yX7_erase cX7_erase 1 (some .char) [] 7 1 6 [gR (some (A 0))] h (px eNS (fun h1 => h1 = h)) := by
  refine GMet.intro RX7 rfl (by decide) (gcats rfl) (Nat.le_of_ble_eq_true rfl) fun K KX S => ?_
  show K 0 [some _] [] _ 0 0
  have g0 := hX.1
  obtain ⟨rc, ac, rs, as_, ⟨e1, ⟨f2, e2, e2f⟩, ⟨f3, e3, e3f⟩, e4, e5⟩, e6⟩ := id hT
  have e2a := e2.1
  have e3a := e3.1
  refine k_aload_n S dX7_erase_0 rfl ?_
  refine k_getf S dX7_erase_1 f_X7_33 (by assumption) (by rfl) ?_
  refine k_getf S dX7_erase_4 f_X7_218 (by assumption) (by rfl) ?_
  refine k_if_gt (tgt := 20) S dX7_erase_7 (by decide) (by omega) (fun c7 => ?_) (fun c7 => ?_)
  · omega
  · exact k_throwN S th_221_173 dX7_erase_10 dX7_erase_13 dX7_erase_14 dX7_erase_16 dX7_erase_19 ⟨rfl, rfl⟩ (by omega) (by omega) (by decide)
/-- erase -/
theorem c_erase_g (D : DD) (hX : XTop h τ A td cu lg sv ex un) (hT : XTxt h τ (A 4) 5 n F m Z c) (hc0 : 1 ≤ c ∧ c ≤ n ∧ n ≤ 80) (hZ : ∀ q, q < m → inR (Z q)) (hF : 0 ≤ F (c - 1) ∧ F (c - 1) < 65536) : GMet D yX7_erase cX7_erase 1 (some .char) [] 5 0 0 [gR (some (A 0))] h (pr (gI (F (c - 1))) (fun h1 => XTop h1 τ A td 0 lg sv ex un ∧ XTxt h1 τ (A 4) 5 (n - 1) (remT F (c - 1)) (m) (shF Z c (-1)) (c - 1) ∧ keeps h h1 (fun q => τ q = 1 ∨ τ q = 5))) := by
  refine GMet.intro RX7 rfl (by decide) (gcats rfl) (Nat.le_of_ble_eq_true rfl) fun K KX S => ?_
  show K 0 [some _] [] _ 0 0
  have g0 := hX.1
  obtain ⟨rc, ac, rs, as_, ⟨e1, ⟨f2, e2, e2f⟩, ⟨f3, e3, e3f⟩, e4, e5⟩, e6⟩ := id hT
  have e2a := e2.1
  have e3a := e3.1
  refine k_aload_n S dX7_erase_0 rfl ?_
  refine k_getf S dX7_erase_1 f_X7_33 (by assumption) (by rfl) ?_
  refine k_getf S dX7_erase_4 f_X7_218 (by assumption) (by rfl) ?_
  refine k_if_gt (tgt := 20) S dX7_erase_7 (by decide) (by omega) (fun c7 => ?_) (fun c7 => ?_)
  · refine k_aload_n S dX7_erase_20 rfl ?_
    refine k_iconst S dX7_erase_21 ?_
    refine k_putf S dX7_erase_22 f_X7_44 (by assumption) (gfit_bool (by omega)) (Nat.le_of_ble_eq_true rfl) ?_
    obtain ⟨hx, ex9, X9, T9, K9⟩ := hX.cu0 hT
    show K 25 _ [] (hput h (A 0) (gObj 7 [gR (some (A 1)), gR (some (A 2)), gR (some (A 3)), gR (some (A 4)), gR (some (A 5)), gI td, gI 0, gI lg, gL sv, gI ex, gI un])) _ _
    rw [← ex9]
    have g0 := X9.1
    obtain ⟨rc, ac, rs, as_, ht9, e6⟩ := id T9
    obtain ⟨e1, ⟨f2, e2, e2f⟩, ⟨f3, e3, e3f⟩, e4, e5⟩ := id ht9
    have e2a := e2.1
    have e3a := e3.1
    refine k_aload_n S dX7_erase_25 rfl ?_
    refine k_getf S dX7_erase_26 f_X7_33 (by assumption) (by rfl) ?_
    refine k_callV_r S dX7_erase_29 v_X7_223 (tx_takeOut D ht9 hZ ⟨by omega, by omega⟩) (by assumption) (fun h29 hp29 => ?_) rfl rfl (by decide) (by omega) (by omega) (Nat.le_of_ble_eq_true rfl)
    refine k_i2c S dX7_erase_32 ?_
    rw [Int.emod_eq_of_lt hF.1 hF.2]
    refine k_creturn S dX7_erase_33 hF ?_ (by omega) (by omega)
    obtain ⟨t1, t2⟩ := hp29
    refine ⟨rfl, X9.kp (t2.mono (fun q z => (e6 q z : τ q = 5))) (fun q z1 z2 => by omega), ⟨rc, ac, rs, as_, t1, e6⟩, K9.tr (t2.mono fun q z => Or.inr (e6 q z))⟩
  · omega
/-- nextStop, none there -/
theorem c_nextStop_x (D : DD) (hX : XTop h τ A td cu lg sv ex un) (hT : XTxt h τ (A 4) 5 n F m Z c) (hm : m = 0) : GMet D yX7_nextStop cX7_nextStop 1 (some .int) [] 7 1 6 [gR (some (A 0))] h (px eNS (fun h1 => h1 = h)) := by
  refine GMet.intro RX7 rfl (by decide) (gcats rfl) (Nat.le_of_ble_eq_true rfl) fun K KX S => ?_
  show K 0 [some _] [] _ 0 0
  have g0 := hX.1
  obtain ⟨rc, ac, rs, as_, ⟨e1, ⟨f2, e2, e2f⟩, ⟨f3, e3, e3f⟩, e4, e5⟩, e6⟩ := id hT
  have e2a := e2.1
  have e3a := e3.1
  refine k_aload_n S dX7_nextStop_0 rfl ?_
  refine k_getf S dX7_nextStop_1 f_X7_33 (by assumption) (by rfl) ?_
  refine k_getf S dX7_nextStop_4 f_X7_228 (by assumption) (by rfl) ?_
  refine k_iconst S dX7_nextStop_7 ?_
  refine k_callV_r S dX7_nextStop_8 v_X7_169 (row_has D e3 (by decide)) (by assumption) (fun h8 hp8 => ?_) rfl rfl (by decide) (by omega) (by omega) (Nat.le_of_ble_eq_true rfl)
  rw [hp8, b01_f (by omega)]
  refine k_if_ne (tgt := 24) S dX7_nextStop_11 (by decide) (by omega) (fun c11 => ?_) (fun c11 => ?_)
  · omega
  · exact k_throwN S th_229_173 dX7_nextStop_14 dX7_nextStop_17 dX7_nextStop_18 dX7_nextStop_20 dX7_nextStop_23 ⟨rfl, rfl⟩ (by omega) (by omega) (by decide)
/-- nextStop -/
theorem c_nextStop_g (D : DD) (hX : XTop h τ A td cu lg sv ex un) (hT : XTxt h τ (A 4) 5 n F m Z c) (hm : 1 ≤ m) (hZ0 : 0 ≤ Z 0) : GMet D yX7_nextStop cX7_nextStop 1 (some .int) [] 3 0 0 [gR (some (A 0))] h (pr (gI (Z 0)) (fun h1 => XTop h1 τ A td 0 lg sv ex un ∧ XTxt h1 τ (A 4) 5 (n) (F) (m - 1) (fun q => Z (q + 1)) ((Z 0).toNat) ∧ keeps h h1 (fun q => τ q = 1 ∨ τ q = 5))) := by
  refine GMet.intro RX7 rfl (by decide) (gcats rfl) (Nat.le_of_ble_eq_true rfl) fun K KX S => ?_
  show K 0 [some _] [] _ 0 0
  have g0 := hX.1
  obtain ⟨rc, ac, rs, as_, ⟨e1, ⟨f2, e2, e2f⟩, ⟨f3, e3, e3f⟩, e4, e5⟩, e6⟩ := id hT
  have e2a := e2.1
  have e3a := e3.1
  refine k_aload_n S dX7_nextStop_0 rfl ?_
  refine k_getf S dX7_nextStop_1 f_X7_33 (by assumption) (by rfl) ?_
  refine k_getf S dX7_nextStop_4 f_X7_228 (by assumption) (by rfl) ?_
  refine k_iconst S dX7_nextStop_7 ?_
  refine k_callV_r S dX7_nextStop_8 v_X7_169 (row_has D e3 (by decide)) (by assumption) (fun h8 hp8 => ?_) rfl rfl (by decide) (by omega) (by omega) (Nat.le_of_ble_eq_true rfl)
  rw [hp8, b01_t (by omega)]
  refine k_if_ne (tgt := 24) S dX7_nextStop_11 (by decide) (by omega) (fun c11 => ?_) (fun c11 => ?_)
  · refine k_aload_n S dX7_nextStop_24 rfl ?_
    refine k_iconst S dX7_nextStop_25 ?_
    refine k_putf S dX7_nextStop_26 f_X7_44 (by assumption) (gfit_bool (by omega)) (Nat.le_of_ble_eq_true rfl) ?_
    obtain ⟨hx, ex9, X9, T9, K9⟩ := hX.cu0 hT
    show K 29 _ [] (hput h (A 0) (gObj 7 [gR (some (A 1)), gR (some (A 2)), gR (some (A 3)), gR (some (A 4)), gR (some (A 5)), gI td, gI 0, gI lg, gL sv, gI ex, gI un])) _ _
    rw [← ex9]
    have g0 := X9.1
    obtain ⟨rc, ac, rs, as_, ht9, e6⟩ := id T9
    obtain ⟨e1, ⟨f2, e2, e2f⟩, ⟨f3, e3, e3f⟩, e4, e5⟩ := id ht9
    have e2a := e2.1
    have e3a := e3.1
    refine k_aload_n S dX7_nextStop_29 rfl ?_
    refine k_getf S dX7_nextStop_30 f_X7_33 (by assumption) (by rfl) ?_
    refine k_aload_n S dX7_nextStop_33 rfl ?_
    refine k_getf S dX7_nextStop_34 f_X7_33 (by assumption) (by rfl) ?_
    refine k_getf S dX7_nextStop_37 f_X7_228 (by assumption) (by rfl) ?_
    refine k_iconst S dX7_nextStop_40 ?_
    refine k_callV_r S dX7_nextStop_41 v_X7_231 (row_removeAt D e3 (by decide)) (by assumption) (fun h41 hp41 => ?_) rfl rfl (by decide) (by omega) (by omega) (Nat.le_of_ble_eq_true rfl)
    rw [if_pos (by omega), show (0 : Int).toNat = 0 from rfl, e3f 0 (by omega)]
    rw [if_pos (by omega), if_pos (by omega), show (0 : Int).toNat = 0 from rfl] at hp41
    obtain ⟨s1, s2⟩ := ht9.stops (m1 := m - 1) (Z1 := fun q => Z (q + 1)) hp41.2.keeps ⟨_, hp41.1, fun q hq => by
      rw [remF, if_pos (by omega), e3f (q + 1) (by omega)]⟩
    have X41 := X9.kp (s2.mono (fun q z => (e6 q z : τ q = 5))) (fun q z1 z2 => by omega)
    have g41 := X41.1
    have t41 := s1.1
    refine k_putf S dX7_nextStop_44 f_X7_218 (by assumption) (gfit_int _) (Nat.le_of_ble_eq_true rfl) ?_
    refine k_aload_n S dX7_nextStop_47 rfl ?_
    refine k_getf S dX7_nextStop_48 f_X7_33 (by rw [hput_n _ _ (by intro z; have z1 := X9.2; have z2 := e6 _ (Or.inl rfl); rw [z] at z1; omega)]; exact g41) (by rfl) ?_
    refine k_getf S dX7_nextStop_51 f_X7_218 (hput_s _ _ _) (by rfl) ?_
    refine k_ireturn S dX7_nextStop_54 ?_ (by omega) (by omega)
    obtain ⟨t1, t2⟩ := s1.care (c1 := (Z 0).toNat) (x := Z 0) (by omega)
    refine ⟨rfl, X41.kp (t2.mono (fun q z => (e6 q z : τ q = 5))) (fun q z1 z2 => by omega), ⟨rc, ac, rs, as_, t1, e6⟩, (K9.tr (s2.mono fun q z => Or.inr (e6 q z))).tr (t2.mono fun q z => Or.inr (e6 q z))⟩
  · omega
/-- setToday, refused -/
theorem c_setToday_x (D : DD) (hX : XTop h τ A td cu lg sv ex un) {u : Int} (hu : inR u) (hb : ¬ (99 ≤ u ∧ u ≤ 9999)) : GMet D yX7_setToday cX7_setToday 3 (some .int) [] 7 1 6 [gR (some (A 0)), gI u] h (px "java/lang/IllegalArgumentException" (fun h1 => h1 = h)) := by
  refine GMet.intro RX7 rfl (by decide) (gcats rfl) (Nat.le_of_ble_eq_true rfl) fun K KX S => ?_
  show K 0 [some _, some _, none] [] _ 0 0
  unfold inR at hu
  refine k_iload_n S dX7_setToday_0 rfl ?_
  refine k_bipush S dX7_setToday_1 ?_
  refine k_icmp_lt (tgt := 13) S dX7_setToday_3 (by decide) (by omega) (by omega) (fun c3 => ?_) (fun c3 => ?_)
  · exact k_throwS S th_160_135 dX7_setToday_13 dX7_setToday_16 dX7_setToday_17 dX7_setToday_19 dX7_setToday_22 ⟨rfl, rfl⟩ (by omega) (by omega) (by decide)
  · refine k_iload_n S dX7_setToday_6 rfl ?_
    refine k_sipush S dX7_setToday_7 ?_
    refine k_icmp_le (tgt := 23) S dX7_setToday_10 (by decide) (by omega) (by omega) (fun c10 => ?_) (fun c10 => ?_)
    · omega
    · exact k_throwS S th_160_135 dX7_setToday_13 dX7_setToday_16 dX7_setToday_17 dX7_setToday_19 dX7_setToday_22 ⟨rfl, rfl⟩ (by omega) (by omega) (by decide)
/-- setToday -/
theorem c_setToday_g (D : DD) (hX : XTop h τ A td cu lg sv ex un) {u : Int} (hu : inR u) (hb : 99 ≤ u ∧ u ≤ 9999) : GMet D yX7_setToday cX7_setToday 3 (some .int) [] 2 0 0 [gR (some (A 0)), gI u] h (pr (gI td) (fun h1 => XTop h1 τ A u cu lg sv ex un ∧ keeps h h1 (fun q => τ q = 1))) := by
  refine GMet.intro RX7 rfl (by decide) (gcats rfl) (Nat.le_of_ble_eq_true rfl) fun K KX S => ?_
  show K 0 [some _, some _, none] [] _ 0 0
  have g0 := hX.1
  refine k_iload_n S dX7_setToday_0 rfl ?_
  refine k_bipush S dX7_setToday_1 ?_
  refine k_icmp_lt (tgt := 13) S dX7_setToday_3 (by decide) (by omega) (by omega) (fun c3 => ?_) (fun c3 => ?_)
  · omega
  · refine k_iload_n S dX7_setToday_6 rfl ?_
    refine k_sipush S dX7_setToday_7 ?_
    refine k_icmp_le (tgt := 23) S dX7_setToday_10 (by decide) (by omega) (by omega) (fun c10 => ?_) (fun c10 => ?_)
    · refine k_aload_n S dX7_setToday_23 rfl ?_
      refine k_getf S dX7_setToday_24 f_X7_40 (by assumption) (by rfl) ?_
      refine k_istore_n S dX7_setToday_27 (by decide) ?_
      refine k_aload_n S dX7_setToday_28 rfl ?_
      refine k_iload_n S dX7_setToday_29 rfl ?_
      refine k_putf S dX7_setToday_30 f_X7_40 (by assumption) (gfit_int _) (Nat.le_of_ble_eq_true rfl) ?_
      refine k_iload_n S dX7_setToday_33 rfl ?_
      exact k_ireturn S dX7_setToday_34 ⟨rfl, ⟨hput_s _ _ _, hX.2⟩, keeps.put (Or.inl hX.2)⟩ (by omega) (by omega)
    · omega
end
