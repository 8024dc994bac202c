section
variable {h : GH} {τ A : Nat → Nat} {td cu lg sv ex un : Int} {n m c : Nat} {F Z : Nat → Int}
/-- isWordStart(p) -/
theorem c_wordStart (D : DD) (hX : XTop h τ A td cu lg sv ex un) (hT : XTxt h τ (A 4) 5 n F m Z c) (hF : ∀ q, q < n → 0 ≤ F q ∧ F q < 65536) {p : Nat} (hp : p ≤ n) : GMet D yX7_isWordStart cX7_isWordStart 2 (some .boolean) [] 3 0 0 [gR (some (A 0)), gI p] h (pr (gI (b01 (p = 0 ∨ ¬ isWd (F (p - 1))))) (fun h1 => h1 = h)) := by
  refine GMet.intro RX7 rfl (by decide) (gcats rfl) (Nat.le_of_ble_eq_true rfl) fun K KX S => ?_
  show K 0 [some _, some _] [] _ 0 0
  have g0 := hX.1
  obtain ⟨rc, ac, rs, as_, ⟨e1, ⟨f2, e2, e2f⟩, ⟨f3, e3, e3f⟩, e4, e5⟩, e6⟩ := id hT
  have e2a := e2.1
  have e2b := e2.2.2.1
  refine k_iload_n S dX7_isWordStart_0 rfl ?_
  refine k_if_le (tgt := 23) S dX7_isWordStart_1 (by decide) (by omega) (fun c1 => ?_) (fun c1 => ?_)
  · refine k_iconst S dX7_isWordStart_23 ?_
    refine k_goto (tgt := 28) S dX7_isWordStart_24 (by decide) ?_
    exact k_zreturn S dX7_isWordStart_28 (by omega) ⟨by rw [b01_t (Or.inl (by omega))], rfl⟩ (by omega) (by omega)
  · have r1 := hF (p - 1) (by omega)
    have ev : (if 0 ≤ ((p : Nat) : Int) - 1 ∧ ((p : Nat) : Int) - 1 < ((n : Nat) : Int) then f2 (((p : Nat) : Int) - 1).toNat else 0) = F (p - 1) := by
      rw [if_pos (by omega), show (((p : Nat) : Int) - 1).toNat = p - 1 by omega, e2f (p - 1) (by omega)]
    refine k_aload_n S dX7_isWordStart_4 rfl ?_
    refine k_getf S dX7_isWordStart_5 f_X7_33 (by assumption) (by rfl) ?_
    refine k_getf S dX7_isWordStart_8 f_X7_205 (by assumption) (by rfl) ?_
    refine k_iload_n S dX7_isWordStart_11 rfl ?_
    refine k_iconst S dX7_isWordStart_12 ?_
    refine k_isub S dX7_isWordStart_13 ?_
    refine k_callV_r S dX7_isWordStart_14 v_X7_178 (row_at D e2 (by unfold inR; omega)) (by assumption) (fun h14 hp14 => ?_) rfl rfl (by decide) (by omega) (by omega) (Nat.le_of_ble_eq_true rfl)
    rw [hp14, ev]
    refine k_callS_r S dX7_isWordStart_17 s_X7_254 (c_isWord D r1) (fun h17 hp17 => ?_) rfl rfl (by decide) (by omega) (by omega) (Nat.le_of_ble_eq_true rfl)
    rw [hp17]
    refine k_if_ne (tgt := 27) S dX7_isWordStart_20 (by decide) (b01_r _) (fun c20 => ?_) (fun c20 => ?_)
    · refine k_iconst S dX7_isWordStart_27 ?_
      exact k_zreturn S dX7_isWordStart_28 (by omega) ⟨by rw [b01_f (fun z => z.elim (fun z => by omega) (fun z => z (b01_n.mp c20)))], rfl⟩ (by omega) (by omega)
    · refine k_iconst S dX7_isWordStart_23 ?_
      refine k_goto (tgt := 28) S dX7_isWordStart_24 (by decide) ?_
      exact k_zreturn S dX7_isWordStart_28 (by omega) ⟨by rw [b01_t (Or.inr (b01_0.mp c20))], rfl⟩ (by omega) (by omega)
/-- isReady(snippet, p) -/
theorem c_isReady (D : DD) (hX : XTop h τ A td cu lg sv ex un) (hT : XTxt h τ (A 4) 5 n F m Z c) (hF : ∀ q, q < n → 0 ≤ F q ∧ F q < 65536) {p : Nat} (hp : p ≤ n) {k : Nat} {fw on sc sz he : Int} {re : Nat} (hs : XSob h τ A k fw on sc sz he re) (hb : (fw = 0 ∨ fw = 1) ∧ (on = 0 ∨ on = 1)) : GMet D yX7_isReady cX7_isReady 3 (some .boolean) [] 4 0 0 [gR (some (A 0)), gR (some (A (10 + k))), gI p] h (pr (gI (b01 (on = 1 ∧ (fw = 0 ∨ p = 0 ∨ ¬ isWd (F (p - 1)))))) (fun h1 => h1 = h)) := by
  refine GMet.intro RX7 rfl (by decide) (gcats rfl) (Nat.le_of_ble_eq_true rfl) fun K KX S => ?_
  show K 0 [some _, some _, some _] [] _ 0 0
  have g0 := hX.1
  have s0 := hs.1
  refine k_aload_n S dX7_isReady_0 rfl ?_
  refine k_getf S dX7_isReady_1 f_X7_113 (by assumption) (by rfl) ?_
  refine k_if_eq (tgt := 26) S dX7_isReady_4 (by decide) (by omega) (fun c4 => ?_) (fun c4 => ?_)
  · refine k_iconst S dX7_isReady_26 ?_
    exact k_zreturn S dX7_isReady_27 (by omega) ⟨by rw [b01_f (fun z => by have := z.1; omega)], rfl⟩ (by omega) (by omega)
  · refine k_aload_n S dX7_isReady_7 rfl ?_
    refine k_getf S dX7_isReady_8 f_X7_352 (by assumption) (by rfl) ?_
    refine k_if_eq (tgt := 22) S dX7_isReady_11 (by decide) (by omega) (fun c11 => ?_) (fun c11 => ?_)
    · refine k_iconst S dX7_isReady_22 ?_
      refine k_goto (tgt := 27) S dX7_isReady_23 (by decide) ?_
      exact k_zreturn S dX7_isReady_27 (by omega) ⟨by rw [b01_t ⟨by omega, Or.inl (by omega)⟩], rfl⟩ (by omega) (by omega)
    · refine k_aload_n S dX7_isReady_14 rfl ?_
      refine k_iload_n S dX7_isReady_15 rfl ?_
      refine k_callV_r S dX7_isReady_16 v_X7_355 (c_wordStart D hX hT hF hp) (by assumption) (fun h16 hp16 => ?_) rfl rfl (by decide) (by omega) (by omega) (Nat.le_of_ble_eq_true rfl)
      rw [hp16]
      refine k_if_eq (tgt := 26) S dX7_isReady_19 (by decide) (b01_r _) (fun c19 => ?_) (fun c19 => ?_)
      · refine k_iconst S dX7_isReady_26 ?_
        exact k_zreturn S dX7_isReady_27 (by omega) ⟨by rw [b01_f (fun z => z.2.elim (fun z => c11 z) (b01_0.mp c19))], rfl⟩ (by omega) (by omega)
      · refine k_iconst S dX7_isReady_22 ?_
        refine k_goto (tgt := 27) S dX7_isReady_23 (by decide) ?_
        exact k_zreturn S dX7_isReady_27 (by omega) ⟨by rw [b01_t ⟨by omega, Or.inr (b01_n.mp c19)⟩], rfl⟩ (by omega) (by omega)
end
