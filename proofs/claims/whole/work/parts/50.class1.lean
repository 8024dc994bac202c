/-- isLetterOrDigit(c) -/
theorem c_isWord (D : DD) {h : GH} {c : Int} (hc : 0 ≤ c ∧ c < 65536) : GMet D yX7_isLetterOrDigit cX7_isLetterOrDigit 1 (some .boolean) [] 1 0 0 [gI c] h (pr (gI (b01 (isWd c))) (fun h1 => h1 = h)) := by
  refine GMet.intro RX7 rfl (by decide) (gcats rfl) (Nat.le_of_ble_eq_true rfl) fun K KX S => ?_
  show K 0 [some _] [] _ 0 0
  have second : ¬ (97 ≤ c ∧ c ≤ 122) → K 12 [some (gI c)] [] h 0 0 := fun z => by
    refine k_iload_n S dX7_isLetterOrDigit_12 rfl ?_
    refine k_bipush S dX7_isLetterOrDigit_13 ?_
    refine k_icmp_lt (tgt := 28) S dX7_isLetterOrDigit_15 (by decide) (by omega) (by omega) (fun c15 => ?_) (fun c15 => ?_)
    · refine k_iconst S dX7_isLetterOrDigit_28 ?_
      exact k_zreturn S dX7_isLetterOrDigit_29 (by omega) ⟨by rw [b01_f (by unfold isWd; omega)], rfl⟩ (by omega) (by omega)
    · refine k_iload_n S dX7_isLetterOrDigit_18 rfl ?_
      refine k_bipush S dX7_isLetterOrDigit_19 ?_
      refine k_icmp_gt (tgt := 28) S dX7_isLetterOrDigit_21 (by decide) (by omega) (by omega) (fun c21 => ?_) (fun c21 => ?_)
      · refine k_iconst S dX7_isLetterOrDigit_28 ?_
        exact k_zreturn S dX7_isLetterOrDigit_29 (by omega) ⟨by rw [b01_f (by unfold isWd; omega)], rfl⟩ (by omega) (by omega)
      · refine k_iconst S dX7_isLetterOrDigit_24 ?_
        refine k_goto (tgt := 29) S dX7_isLetterOrDigit_25 (by decide) ?_
        exact k_zreturn S dX7_isLetterOrDigit_29 (by omega) ⟨by rw [b01_t (by unfold isWd; omega)], rfl⟩ (by omega) (by omega)
  refine k_iload_n S dX7_isLetterOrDigit_0 rfl ?_
  refine k_bipush S dX7_isLetterOrDigit_1 ?_
  refine k_icmp_lt (tgt := 12) S dX7_isLetterOrDigit_3 (by decide) (by omega) (by omega) (fun c3 => ?_) (fun c3 => ?_)
  · exact second (by omega)
  · refine k_iload_n S dX7_isLetterOrDigit_6 rfl ?_
    refine k_bipush S dX7_isLetterOrDigit_7 ?_
    refine k_icmp_le (tgt := 24) S dX7_isLetterOrDigit_9 (by decide) (by omega) (by omega) (fun c9 => ?_) (fun c9 => ?_)
    · refine k_iconst S dX7_isLetterOrDigit_24 ?_
      refine k_goto (tgt := 29) S dX7_isLetterOrDigit_25 (by decide) ?_
      exact k_zreturn S dX7_isLetterOrDigit_29 (by omega) ⟨by rw [b01_t (by unfold isWd; omega)], rfl⟩ (by omega) (by omega)
    · exact second (by omega)
/-- requireTypeable(c), what can be typed -/
theorem c_typeable (D : DD) {h : GH} {c : Int} (hc : 0 ≤ c ∧ c < 65536) (hc2 : canT c) : GMet D yX7_requireTypeable cX7_requireTypeable 2 none [] 2 0 0 [gI c] h (pv (fun h1 => h1 = h)) := by
  refine GMet.intro RX7 rfl (by decide) (gcats rfl) (Nat.le_of_ble_eq_true rfl) fun K KX S => ?_
  show K 0 [some _, none] [] _ 0 0
  have one : K 18 [some (gI c), none] [] h 0 0 := by
    refine k_iconst S dX7_requireTypeable_18 ?_
    refine k_goto (tgt := 23) S dX7_requireTypeable_19 (by decide) ?_
    refine k_istore_n S dX7_requireTypeable_23 (by decide) ?_
    refine k_iload_n S dX7_requireTypeable_24 rfl ?_
    refine k_if_ne (tgt := 46) S dX7_requireTypeable_25 (by decide) (by omega) (fun c25 => ?_) (fun c25 => ?_)
    · exact k_return S dX7_requireTypeable_46 ⟨rfl, rfl⟩ (by omega) (by omega)
    · omega
  refine k_iload_n S dX7_requireTypeable_0 rfl ?_
  refine k_bipush S dX7_requireTypeable_1 ?_
  refine k_icmp_eq (tgt := 18) S dX7_requireTypeable_3 (by decide) (by omega) (by omega) (fun c3 => ?_) (fun c3 => ?_)
  · exact one
  · refine k_iload_n S dX7_requireTypeable_6 rfl ?_
    refine k_bipush S dX7_requireTypeable_7 ?_
    refine k_icmp_eq (tgt := 18) S dX7_requireTypeable_9 (by decide) (by omega) (by omega) (fun c9 => ?_) (fun c9 => ?_)
    · exact one
    · refine k_iload_n S dX7_requireTypeable_12 rfl ?_
      refine k_bipush S dX7_requireTypeable_13 ?_
      refine k_icmp_ne (tgt := 22) S dX7_requireTypeable_15 (by decide) (by omega) (by omega) (fun c15 => ?_) (fun c15 => ?_)
      · have hw : isWd c := hc2.resolve_right (by omega)
        refine k_iconst S dX7_requireTypeable_22 ?_
        refine k_istore_n S dX7_requireTypeable_23 (by decide) ?_
        refine k_iload_n S dX7_requireTypeable_24 rfl ?_
        refine k_if_ne (tgt := 46) S dX7_requireTypeable_25 (by decide) (by omega) (fun c25 => ?_) (fun c25 => ?_)
        · omega
        · refine k_iload_n S dX7_requireTypeable_28 rfl ?_
          refine k_callS_r S dX7_requireTypeable_29 s_X7_254 (c_isWord D hc) (fun h29 hp29 => ?_) rfl rfl (by decide) (by omega) (by omega) (Nat.le_of_ble_eq_true rfl)
          rw [hp29, b01_t hw]
          refine k_if_ne (tgt := 46) S dX7_requireTypeable_32 (by decide) (by omega) (fun c32 => ?_) (fun c32 => ?_)
          · exact k_return S dX7_requireTypeable_46 ⟨rfl, rfl⟩ (by omega) (by omega)
          · omega
      · exact one
/-- requireTypeable(c), what cannot be typed -/
theorem c_typeable_x (D : DD) {h : GH} {c : Int} (hc : 0 ≤ c ∧ c < 65536) (hc2 : ¬ canT c) : GMet D yX7_requireTypeable cX7_requireTypeable 2 none [] 7 1 6 [gI c] h (px "java/lang/IllegalArgumentException" (fun h1 => h1 = h)) := by
  refine GMet.intro RX7 rfl (by decide) (gcats rfl) (Nat.le_of_ble_eq_true rfl) fun K KX S => ?_
  show K 0 [some _, none] [] _ 0 0
  have hw : ¬ isWd c := fun z => hc2 (Or.inl z)
  have h3 : c ≠ 32 ∧ c ≠ 59 ∧ c ≠ 46 := ⟨fun z => hc2 (Or.inr (Or.inl z)), fun z => hc2 (Or.inr (Or.inr (Or.inl z))), fun z => hc2 (Or.inr (Or.inr (Or.inr z)))⟩
  refine k_iload_n S dX7_requireTypeable_0 rfl ?_
  refine k_bipush S dX7_requireTypeable_1 ?_
  refine k_icmp_eq (tgt := 18) S dX7_requireTypeable_3 (by decide) (by omega) (by omega) (fun c3 => ?_) (fun c3 => ?_)
  · omega
  · refine k_iload_n S dX7_requireTypeable_6 rfl ?_
    refine k_bipush S dX7_requireTypeable_7 ?_
    refine k_icmp_eq (tgt := 18) S dX7_requireTypeable_9 (by decide) (by omega) (by omega) (fun c9 => ?_) (fun c9 => ?_)
    · omega
    · refine k_iload_n S dX7_requireTypeable_12 rfl ?_
      refine k_bipush S dX7_requireTypeable_13 ?_
      refine k_icmp_ne (tgt := 22) S dX7_requireTypeable_15 (by decide) (by omega) (by omega) (fun c15 => ?_) (fun c15 => ?_)
      · refine k_iconst S dX7_requireTypeable_22 ?_
        refine k_istore_n S dX7_requireTypeable_23 (by decide) ?_
        refine k_iload_n S dX7_requireTypeable_24 rfl ?_
        refine k_if_ne (tgt := 46) S dX7_requireTypeable_25 (by decide) (by omega) (fun c25 => ?_) (fun c25 => ?_)
        · omega
        · refine k_iload_n S dX7_requireTypeable_28 rfl ?_
          refine k_callS_r S dX7_requireTypeable_29 s_X7_254 (c_isWord D hc) (fun h29 hp29 => ?_) rfl rfl (by decide) (by omega) (by omega) (Nat.le_of_ble_eq_true rfl)
          rw [hp29, b01_f hw]
          refine k_if_ne (tgt := 46) S dX7_requireTypeable_32 (by decide) (by omega) (fun c32 => ?_) (fun c32 => ?_)
          · omega
          · exact k_throwSW S th_257_135 dX7_requireTypeable_35 dX7_requireTypeable_38 dX7_requireTypeable_39 dX7_requireTypeable_42 dX7_requireTypeable_45 ⟨rfl, rfl⟩ (by omega) (by omega) (by decide)
      · omega
