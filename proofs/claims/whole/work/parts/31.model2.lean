section
variable {h : GH} {mo : Nat} {am : Nat → Nat} {th sn td ln ca st ld ls wl wc ws ex kp la sv cu : Int} {tg kd tx wa ou le pn on ot sp wp op fw of sc : Nat → Int}
/-- letters and digits, and the signs beside them -/
def isWd (c : Int) : Prop := (97 ≤ c ∧ c ≤ 122) ∨ (48 ≤ c ∧ c ≤ 57)
def canT (c : Int) : Prop := isWd c ∨ c = 32 ∨ c = 59 ∨ c = 46
/-- noSnippet(s), where there is none -/
theorem m_noSn_b (D : DD) (hM : IsM h h mo am [gI th, gI sn, gI td, gI ln, gI ca, gI st, gI ld, gI ls, gI wl, gI wc, gI ws, gI ex, gI kp, gI la, gL sv, gI cu] [tg, kd, tx, wa, ou, le, pn, on, ot, sp, wp, op, fw, of, sc]) {s : Int} (hs : inR s) (hn : 0 ≤ sn ∧ sn ≤ 8) (hb : ¬ (0 ≤ s ∧ s < sn)) : GMet D yX8_noSnippet cX8_noSnippet 2 (some .boolean) [] 2 0 0 [gR (some mo), gI s] h (pr (gI 1) (fun h1 => IsM h h1 mo am [gI (1), gI sn, gI td, gI ln, gI ca, gI st, gI ld, gI ls, gI wl, gI wc, gI ws, gI ex, gI kp, gI la, gL sv, gI cu] [tg, kd, tx, wa, ou, le, pn, on, ot, sp, wp, op, fw, of, sc])) := by
  have := m_noSnippet D hM hs hn
  rw [b01_t hb] at this
  exact this
/-- noSnippet(s), where there is one -/
theorem m_noSn_g (D : DD) (hM : IsM h h mo am [gI th, gI sn, gI td, gI ln, gI ca, gI st, gI ld, gI ls, gI wl, gI wc, gI ws, gI ex, gI kp, gI la, gL sv, gI cu] [tg, kd, tx, wa, ou, le, pn, on, ot, sp, wp, op, fw, of, sc]) {s : Nat} (hn : 0 ≤ sn ∧ sn ≤ 8) (hs : (s : Int) < sn) : GMet D yX8_noSnippet cX8_noSnippet 2 (some .boolean) [] 2 0 0 [gR (some mo), gI s] h (pr (gI 0) (fun h1 => IsM h h1 mo am [gI (0), gI sn, gI td, gI ln, gI ca, gI st, gI ld, gI ls, gI wl, gI wc, gI ws, gI ex, gI kp, gI la, gL sv, gI cu] [tg, kd, tx, wa, ou, le, pn, on, ot, sp, wp, op, fw, of, sc])) := by
  have := m_noSnippet D hM (s := s) (by unfold inR; omega) hn
  rw [b01_f (by omega)] at this
  exact this
/-- isWord(c) -/
theorem m_isWord (D : DD) {c : Int} (hc : 0 ≤ c ∧ c < 65536) : GMet D yX8_isWord cX8_isWord 1 (some .boolean) [] 1 0 0 [gI c] h (pr (gI (b01 (isWd c))) (fun h1 => h1 = h)) := by
  refine GMet.intro RX8 rfl (by decide) (gcats rfl) (Nat.le_of_ble_eq_true rfl) fun K KX S => ?_
  show K 0 [some _] [] _ 0 0
  have second : ¬ (97 ≤ c ∧ c ≤ 122) → K 12 [some (gI c)] [] h 0 0 := fun z => by
    refine k_iload_n S dX8_isWord_12 rfl ?_
    refine k_bipush S dX8_isWord_13 ?_
    refine k_icmp_lt (tgt := 28) S dX8_isWord_15 (by decide) (by omega) (by omega) (fun c15 => ?_) (fun c15 => ?_)
    · refine k_iconst S dX8_isWord_28 ?_
      exact k_zreturn S dX8_isWord_29 (by omega) ⟨by rw [b01_f (by unfold isWd; omega)], rfl⟩ (by omega) (by omega)
    · refine k_iload_n S dX8_isWord_18 rfl ?_
      refine k_bipush S dX8_isWord_19 ?_
      refine k_icmp_gt (tgt := 28) S dX8_isWord_21 (by decide) (by omega) (by omega) (fun c21 => ?_) (fun c21 => ?_)
      · refine k_iconst S dX8_isWord_28 ?_
        exact k_zreturn S dX8_isWord_29 (by omega) ⟨by rw [b01_f (by unfold isWd; omega)], rfl⟩ (by omega) (by omega)
      · refine k_iconst S dX8_isWord_24 ?_
        refine k_goto (tgt := 29) S dX8_isWord_25 (by decide) ?_
        exact k_zreturn S dX8_isWord_29 (by omega) ⟨by rw [b01_t (by unfold isWd; omega)], rfl⟩ (by omega) (by omega)
  refine k_iload_n S dX8_isWord_0 rfl ?_
  refine k_bipush S dX8_isWord_1 ?_
  refine k_icmp_lt (tgt := 12) S dX8_isWord_3 (by decide) (by omega) (by omega) (fun c3 => ?_) (fun c3 => ?_)
  · exact second (by omega)
  · refine k_iload_n S dX8_isWord_6 rfl ?_
    refine k_bipush S dX8_isWord_7 ?_
    refine k_icmp_le (tgt := 24) S dX8_isWord_9 (by decide) (by omega) (by omega) (fun c9 => ?_) (fun c9 => ?_)
    · refine k_iconst S dX8_isWord_24 ?_
      refine k_goto (tgt := 29) S dX8_isWord_25 (by decide) ?_
      exact k_zreturn S dX8_isWord_29 (by omega) ⟨by rw [b01_t (by unfold isWd; omega)], rfl⟩ (by omega) (by omega)
    · exact second (by omega)
/-- canType(c) -/
theorem m_canType (D : DD) {c : Int} (hc : 0 ≤ c ∧ c < 65536) : GMet D yX8_canType cX8_canType 1 (some .boolean) [] 2 0 0 [gI c] h (pr (gI (b01 (canT c))) (fun h1 => h1 = h)) := by
  refine GMet.intro RX8 rfl (by decide) (gcats rfl) (Nat.le_of_ble_eq_true rfl) fun K KX S => ?_
  show K 0 [some _] [] _ 0 0
  refine k_iload_n S dX8_canType_0 rfl ?_
  refine k_callS_r S dX8_canType_1 s_X8_71 (m_isWord D hc) (fun h1 hp1 => ?_) rfl rfl (by decide) (by omega) (by omega) (Nat.le_of_ble_eq_true rfl)
  rw [hp1]
  refine k_if_ne (tgt := 25) S dX8_canType_4 (by decide) (b01_r _) (fun c4 => ?_) (fun c4 => ?_)
  · have c4 := b01_n.mp c4
    refine k_iconst S dX8_canType_25 ?_
    refine k_goto (tgt := 30) S dX8_canType_26 (by decide) ?_
    exact k_zreturn S dX8_canType_30 (by omega) ⟨by rw [b01_t (p := canT c) (Or.inl c4)], rfl⟩ (by omega) (by omega)
  · have c4 := b01_0.mp c4
    refine k_iload_n S dX8_canType_7 rfl ?_
    refine k_bipush S dX8_canType_8 ?_
    refine k_icmp_eq (tgt := 25) S dX8_canType_10 (by decide) (by omega) (by omega) (fun c10 => ?_) (fun c10 => ?_)
    · refine k_iconst S dX8_canType_25 ?_
      refine k_goto (tgt := 30) S dX8_canType_26 (by decide) ?_
      exact k_zreturn S dX8_canType_30 (by omega) ⟨by rw [b01_t (p := canT c) (Or.inr (by omega))], rfl⟩ (by omega) (by omega)
    · refine k_iload_n S dX8_canType_13 rfl ?_
      refine k_bipush S dX8_canType_14 ?_
      refine k_icmp_eq (tgt := 25) S dX8_canType_16 (by decide) (by omega) (by omega) (fun c16 => ?_) (fun c16 => ?_)
      · refine k_iconst S dX8_canType_25 ?_
        refine k_goto (tgt := 30) S dX8_canType_26 (by decide) ?_
        exact k_zreturn S dX8_canType_30 (by omega) ⟨by rw [b01_t (p := canT c) (Or.inr (by omega))], rfl⟩ (by omega) (by omega)
      · refine k_iload_n S dX8_canType_19 rfl ?_
        refine k_bipush S dX8_canType_20 ?_
        refine k_icmp_ne (tgt := 29) S dX8_canType_22 (by decide) (by omega) (by omega) (fun c22 => ?_) (fun c22 => ?_)
        · refine k_iconst S dX8_canType_29 ?_
          exact k_zreturn S dX8_canType_30 (by omega) ⟨by rw [b01_f (fun z => z.elim c4 (by omega))], rfl⟩ (by omega) (by omega)
        · refine k_iconst S dX8_canType_25 ?_
          refine k_goto (tgt := 30) S dX8_canType_26 (by decide) ?_
          exact k_zreturn S dX8_canType_30 (by omega) ⟨by rw [b01_t (p := canT c) (Or.inr (by omega))], rfl⟩ (by omega) (by omega)
/-- length() -/
theorem m_length (D : DD) (hM : IsM h h mo am [gI th, gI sn, gI td, gI ln, gI ca, gI st, gI ld, gI ls, gI wl, gI wc, gI ws, gI ex, gI kp, gI la, gL sv, gI cu] [tg, kd, tx, wa, ou, le, pn, on, ot, sp, wp, op, fw, of, sc]) : GMet D yX8_length cX8_length 1 (some .int) [] 1 0 0 [gR (some mo)] h (pr (gI ln) (fun h1 => h1 = h)) := by
  refine GMet.intro RX8 rfl (by decide) (gcats rfl) (Nat.le_of_ble_eq_true rfl) fun K KX S => ?_
  show K 0 [some _] [] _ 0 0
  refine k_aload_n S dX8_length_0 rfl ?_
  refine k_getf S dX8_length_1 f_X8_146 hM.1 (by rfl) ?_
  exact k_ireturn S dX8_length_4 ⟨rfl, rfl⟩ (by omega) (by omega)
/-- caret() -/
theorem m_caret (D : DD) (hM : IsM h h mo am [gI th, gI sn, gI td, gI ln, gI ca, gI st, gI ld, gI ls, gI wl, gI wc, gI ws, gI ex, gI kp, gI la, gL sv, gI cu] [tg, kd, tx, wa, ou, le, pn, on, ot, sp, wp, op, fw, of, sc]) : GMet D yX8_caret cX8_caret 1 (some .int) [] 1 0 0 [gR (some mo)] h (pr (gI ca) (fun h1 => h1 = h)) := by
  refine GMet.intro RX8 rfl (by decide) (gcats rfl) (Nat.le_of_ble_eq_true rfl) fun K KX S => ?_
  show K 0 [some _] [] _ 0 0
  refine k_aload_n S dX8_caret_0 rfl ?_
  refine k_getf S dX8_caret_1 f_X8_136 hM.1 (by rfl) ?_
  exact k_ireturn S dX8_caret_4 ⟨rfl, rfl⟩ (by omega) (by omega)
/-- stops() -/
theorem m_stops (D : DD) (hM : IsM h h mo am [gI th, gI sn, gI td, gI ln, gI ca, gI st, gI ld, gI ls, gI wl, gI wc, gI ws, gI ex, gI kp, gI la, gL sv, gI cu] [tg, kd, tx, wa, ou, le, pn, on, ot, sp, wp, op, fw, of, sc]) : GMet D yX8_stops cX8_stops 1 (some .int) [] 1 0 0 [gR (some mo)] h (pr (gI st) (fun h1 => h1 = h)) := by
  refine GMet.intro RX8 rfl (by decide) (gcats rfl) (Nat.le_of_ble_eq_true rfl) fun K KX S => ?_
  show K 0 [some _] [] _ 0 0
  refine k_aload_n S dX8_stops_0 rfl ?_
  refine k_getf S dX8_stops_1 f_X8_149 hM.1 (by rfl) ?_
  exact k_ireturn S dX8_stops_4 ⟨rfl, rfl⟩ (by omega) (by omega)
/-- saved() -/
theorem m_saved (D : DD) (hM : IsM h h mo am [gI th, gI sn, gI td, gI ln, gI ca, gI st, gI ld, gI ls, gI wl, gI wc, gI ws, gI ex, gI kp, gI la, gL sv, gI cu] [tg, kd, tx, wa, ou, le, pn, on, ot, sp, wp, op, fw, of, sc]) : GMet D yX8_saved cX8_saved 1 (some .long) [] 1 0 0 [gR (some mo)] h (pr (gL sv) (fun h1 => h1 = h)) := by
  refine GMet.intro RX8 rfl (by decide) (gcats rfl) (Nat.le_of_ble_eq_true rfl) fun K KX S => ?_
  show K 0 [some _] [] _ 0 0
  refine k_aload_n S dX8_saved_0 rfl ?_
  refine k_getf S dX8_saved_1 f_X8_179 hM.1 (by rfl) ?_
  exact k_lreturn S dX8_saved_4 ⟨rfl, rfl⟩ (by omega) (by omega)
/-- addSnippet, 8 there -/
theorem m_addSn_b (D : DD) (hM : IsM h h mo am [gI th, gI sn, gI td, gI ln, gI ca, gI st, gI ld, gI ls, gI wl, gI wc, gI ws, gI ex, gI kp, gI la, gL sv, gI cu] [tg, kd, tx, wa, ou, le, pn, on, ot, sp, wp, op, fw, of, sc]) {p : Int} (hn : sn = 8) : GMet D yX8_addSnippet cX8_addSnippet 2 (some .int) [] 2 0 0 [gR (some mo), gI p] h (pr (gI 0) (fun h1 => IsM h h1 mo am [gI (1), gI sn, gI td, gI ln, gI ca, gI st, gI ld, gI ls, gI wl, gI wc, gI ws, gI ex, gI kp, gI la, gL sv, gI cu] [tg, kd, tx, wa, ou, le, pn, on, ot, sp, wp, op, fw, of, sc])) := by
  refine GMet.intro RX8 rfl (by decide) (gcats rfl) (Nat.le_of_ble_eq_true rfl) fun K KX S => ?_
  show K 0 [some _, some _] [] _ 0 0
  refine k_aload_n S dX8_addSnippet_0 rfl ?_
  refine k_getf S dX8_addSnippet_1 f_X8_64 hM.1 (by rfl) ?_
  refine k_bipush S dX8_addSnippet_4 ?_
  refine k_icmp_ne (tgt := 15) S dX8_addSnippet_6 (by decide) (by omega) (by omega) (fun c6 => ?_) (fun c6 => ?_)
  · omega
  · refine k_aload_n S dX8_addSnippet_9 rfl ?_
    refine k_iconst S dX8_addSnippet_10 ?_
    refine k_callV_r S dX8_addSnippet_11 v_X8_75 (m_fail D hM) hM.1 (fun h11 hp11 => ?_) rfl rfl (by decide) (by omega) (by omega) (Nat.le_of_ble_eq_true rfl)
    exact k_ireturn S dX8_addSnippet_14 ⟨rfl, hp11⟩ (by omega) (by omega)
/-- addSnippet -/
theorem m_addSn_g (D : DD) (hM : IsM h h mo am [gI th, gI sn, gI td, gI ln, gI ca, gI st, gI ld, gI ls, gI wl, gI wc, gI ws, gI ex, gI kp, gI la, gL sv, gI cu] [tg, kd, tx, wa, ou, le, pn, on, ot, sp, wp, op, fw, of, sc]) {p : Int} (hp : p = 0 ∨ p = 1) (hn : 0 ≤ sn ∧ sn < 8) : GMet D yX8_addSnippet cX8_addSnippet 2 (some .int) [] 2 0 0 [gR (some mo), gI p] h (pr (gI sn) (fun h1 => IsM h h1 mo am [gI (0), gI (sn + 1), gI td, gI ln, gI ca, gI st, gI ld, gI ls, gI wl, gI wc, gI ws, gI ex, gI kp, gI la, gL sv, gI cu] [tg, kd, tx, wa, ou, le, pn, on, ot, sp, wp, op, (gupd fw sn.toNat p), of, sc])) := by
  refine GMet.intro RX8 rfl (by decide) (gcats rfl) (Nat.le_of_ble_eq_true rfl) fun K KX S => ?_
  show K 0 [some _, some _] [] _ 0 0
  refine k_aload_n S dX8_addSnippet_0 rfl ?_
  refine k_getf S dX8_addSnippet_1 f_X8_64 hM.1 (by rfl) ?_
  refine k_bipush S dX8_addSnippet_4 ?_
  refine k_icmp_ne (tgt := 15) S dX8_addSnippet_6 (by decide) (by omega) (by omega) (fun c6 => ?_) (fun c6 => ?_)
  · refine k_aload_n S dX8_addSnippet_15 rfl ?_
    refine k_iconst S dX8_addSnippet_16 ?_
    refine k_mput S dX8_addSnippet_17 f_X8_61 hM (gfit_int _) (Nat.le_of_ble_eq_true rfl) (fun h17 M17 => ?_)
    simp only [List.set_cons_succ, List.set_cons_zero] at M17
    refine k_aload_n S dX8_addSnippet_20 rfl ?_
    refine k_getf S dX8_addSnippet_21 f_X8_51 M17.1 (by rfl) ?_
    refine k_aload_n S dX8_addSnippet_24 rfl ?_
    refine k_getf S dX8_addSnippet_25 f_X8_64 M17.1 (by rfl) ?_
    refine k_iload_n S dX8_addSnippet_28 rfl ?_
    refine k_mzst (j := 12) S dX8_addSnippet_29 M17 rfl rfl (by omega) (by omega) (fun h29 M29 => ?_)
    simp only [List.set_cons_succ, List.set_cons_zero] at M29
    refine k_aload_n S dX8_addSnippet_30 rfl ?_
    refine k_dup S dX8_addSnippet_31 ?_
    refine k_getf S dX8_addSnippet_32 f_X8_64 M29.1 (by rfl) ?_
    refine k_dup_x1 S dX8_addSnippet_35 ?_
    refine k_iconst S dX8_addSnippet_36 ?_
    refine k_iadd S dX8_addSnippet_37 ?_
    refine k_mput S dX8_addSnippet_38 f_X8_64 M29 (gfit_int _) (Nat.le_of_ble_eq_true rfl) (fun h38 M38 => ?_)
    simp only [List.set_cons_succ, List.set_cons_zero] at M38
    exact k_ireturn S dX8_addSnippet_41 ⟨rfl, M38⟩ (by omega) (by omega)
  · omega
/-- addToTrigger, no such snippet -/
theorem m_addToTrigger_b (D : DD) (hM : IsM h h mo am [gI th, gI sn, gI td, gI ln, gI ca, gI st, gI ld, gI ls, gI wl, gI wc, gI ws, gI ex, gI kp, gI la, gL sv, gI cu] [tg, kd, tx, wa, ou, le, pn, on, ot, sp, wp, op, fw, of, sc]) {s : Int} (hs : inR s) (hn : 0 ≤ sn ∧ sn ≤ 8) (hb : ¬ (0 ≤ s ∧ s < sn)) {p0 : Int} : GMet D yX8_addToTrigger cX8_addToTrigger 3 (some .int) [] 3 0 0 [gR (some mo), gI s, gI p0] h (pr (gI 0) (fun h1 => IsM h h1 mo am [gI (1), gI sn, gI td, gI ln, gI ca, gI st, gI ld, gI ls, gI wl, gI wc, gI ws, gI ex, gI kp, gI la, gL sv, gI cu] [tg, kd, tx, wa, ou, le, pn, on, ot, sp, wp, op, fw, of, sc])) := by
  refine GMet.intro RX8 rfl (by decide) (gcats rfl) (Nat.le_of_ble_eq_true rfl) fun K KX S => ?_
  show K 0 [some _, some _, some _] [] _ 0 0
  refine k_aload_n S dX8_addToTrigger_0 rfl ?_
  refine k_iload_n S dX8_addToTrigger_1 rfl ?_
  refine k_callV_r S dX8_addToTrigger_2 v_X8_79 (m_noSn_b D hM hs hn hb) hM.1 (fun h2 hp2 => ?_) rfl rfl (by decide) (by omega) (by omega) (Nat.le_of_ble_eq_true rfl)
  refine k_if_eq (tgt := 10) S dX8_addToTrigger_5 (by decide) (by omega) (fun c5 => ?_) (fun c5 => ?_)
  · omega
  · refine k_iconst S dX8_addToTrigger_8 ?_
    exact k_ireturn S dX8_addToTrigger_9 ⟨rfl, hp2⟩ (by omega) (by omega)
/-- addToTrigger, a character that cannot be typed -/
theorem m_addToTrigger_c (D : DD) (hM : IsM h h mo am [gI th, gI sn, gI td, gI ln, gI ca, gI st, gI ld, gI ls, gI wl, gI wc, gI ws, gI ex, gI kp, gI la, gL sv, gI cu] [tg, kd, tx, wa, ou, le, pn, on, ot, sp, wp, op, fw, of, sc]) {s : Nat} (hn : 0 ≤ sn ∧ sn ≤ 8) (hs : (s : Int) < sn) {c : Int} (hc : 0 ≤ c ∧ c < 65536) (hc2 : ¬ canT c) : GMet D yX8_addToTrigger cX8_addToTrigger 3 (some .int) [] 3 0 0 [gR (some mo), gI s, gI c] h (pr (gI 0) (fun h1 => IsM h h1 mo am [gI (2), gI sn, gI td, gI ln, gI ca, gI st, gI ld, gI ls, gI wl, gI wc, gI ws, gI ex, gI kp, gI la, gL sv, gI cu] [tg, kd, tx, wa, ou, le, pn, on, ot, sp, wp, op, fw, of, sc])) := by
  refine GMet.intro RX8 rfl (by decide) (gcats rfl) (Nat.le_of_ble_eq_true rfl) fun K KX S => ?_
  show K 0 [some _, some _, some _] [] _ 0 0
  refine k_aload_n S dX8_addToTrigger_0 rfl ?_
  refine k_iload_n S dX8_addToTrigger_1 rfl ?_
  refine k_callV_r S dX8_addToTrigger_2 v_X8_79 (m_noSn_g D hM hn hs) hM.1 (fun h2 hp2 => ?_) rfl rfl (by decide) (by omega) (by omega) (Nat.le_of_ble_eq_true rfl)
  refine k_if_eq (tgt := 10) S dX8_addToTrigger_5 (by decide) (by omega) (fun c5 => ?_) (fun c5 => ?_)
  · refine k_iload_n S dX8_addToTrigger_10 rfl ?_
    refine k_callS_r S dX8_addToTrigger_11 s_X8_83 (m_canType D hc) (fun h11 hp11 => ?_) rfl rfl (by decide) (by omega) (by omega) (Nat.le_of_ble_eq_true rfl)
    rw [hp11, b01_f hc2]
    refine k_if_ne (tgt := 23) S dX8_addToTrigger_14 (by decide) (by omega) (fun c14 => ?_) (fun c14 => ?_)
    · omega
    · refine k_aload_n S dX8_addToTrigger_17 rfl ?_
      refine k_iconst S dX8_addToTrigger_18 ?_
      refine k_callV_r S dX8_addToTrigger_19 v_X8_75 (m_fail D hp2.rb) hp2.1 (fun h19 hp19 => ?_) rfl rfl (by decide) (by omega) (by omega) (Nat.le_of_ble_eq_true rfl)
      exact k_ireturn S dX8_addToTrigger_22 ⟨rfl, hp2.tr hp19⟩ (by omega) (by omega)
  · omega
/-- addToTrigger, 6 there -/
theorem m_addToTrigger_f (D : DD) (hM : IsM h h mo am [gI th, gI sn, gI td, gI ln, gI ca, gI st, gI ld, gI ls, gI wl, gI wc, gI ws, gI ex, gI kp, gI la, gL sv, gI cu] [tg, kd, tx, wa, ou, le, pn, on, ot, sp, wp, op, fw, of, sc]) {s : Nat} (hn : 0 ≤ sn ∧ sn ≤ 8) (hs : (s : Int) < sn) {c : Int} (hc : 0 ≤ c ∧ c < 65536) (hc2 : canT c) (hl : le s = 6) : GMet D yX8_addToTrigger cX8_addToTrigger 3 (some .int) [] 3 0 0 [gR (some mo), gI s, gI c] h (pr (gI 0) (fun h1 => IsM h h1 mo am [gI (3), gI sn, gI td, gI ln, gI ca, gI st, gI ld, gI ls, gI wl, gI wc, gI ws, gI ex, gI kp, gI la, gL sv, gI cu] [tg, kd, tx, wa, ou, le, pn, on, ot, sp, wp, op, fw, of, sc])) := by
  refine GMet.intro RX8 rfl (by decide) (gcats rfl) (Nat.le_of_ble_eq_true rfl) fun K KX S => ?_
  show K 0 [some _, some _, some _] [] _ 0 0
  have es : ((s : Nat) : Int).toNat = s := by omega
  refine k_aload_n S dX8_addToTrigger_0 rfl ?_
  refine k_iload_n S dX8_addToTrigger_1 rfl ?_
  refine k_callV_r S dX8_addToTrigger_2 v_X8_79 (m_noSn_g D hM hn hs) hM.1 (fun h2 hp2 => ?_) rfl rfl (by decide) (by omega) (by omega) (Nat.le_of_ble_eq_true rfl)
  refine k_if_eq (tgt := 10) S dX8_addToTrigger_5 (by decide) (by omega) (fun c5 => ?_) (fun c5 => ?_)
  · refine k_iload_n S dX8_addToTrigger_10 rfl ?_
    refine k_callS_r S dX8_addToTrigger_11 s_X8_83 (m_canType D hc) (fun h11 hp11 => ?_) rfl rfl (by decide) (by omega) (by omega) (Nat.le_of_ble_eq_true rfl)
    rw [hp11, b01_t hc2]
    refine k_if_ne (tgt := 23) S dX8_addToTrigger_14 (by decide) (by omega) (fun c14 => ?_) (fun c14 => ?_)
    · refine k_aload_n S dX8_addToTrigger_23 rfl ?_
      refine k_getf S dX8_addToTrigger_24 f_X8_29 hp2.1 (by rfl) ?_
      refine k_iload_n S dX8_addToTrigger_27 rfl ?_
      refine k_iaload S dX8_addToTrigger_28 (hp2.ld (j := 5) rfl rfl) (by omega) ?_
      rw [es, hl]
      refine k_bipush S dX8_addToTrigger_29 ?_
      refine k_icmp_ne (tgt := 40) S dX8_addToTrigger_31 (by decide) (by omega) (by omega) (fun c31 => ?_) (fun c31 => ?_)
      · omega
      · refine k_aload_n S dX8_addToTrigger_34 rfl ?_
        refine k_iconst S dX8_addToTrigger_35 ?_
        refine k_callV_r S dX8_addToTrigger_36 v_X8_75 (m_fail D hp2.rb) hp2.1 (fun h36 hp36 => ?_) rfl rfl (by decide) (by omega) (by omega) (Nat.le_of_ble_eq_true rfl)
        exact k_ireturn S dX8_addToTrigger_39 ⟨rfl, hp2.tr hp36⟩ (by omega) (by omega)
    · omega
  · omega
/-- addToTrigger -/
theorem m_addToTrigger_g (D : DD) (hM : IsM h h mo am [gI th, gI sn, gI td, gI ln, gI ca, gI st, gI ld, gI ls, gI wl, gI wc, gI ws, gI ex, gI kp, gI la, gL sv, gI cu] [tg, kd, tx, wa, ou, le, pn, on, ot, sp, wp, op, fw, of, sc]) {s : Nat} (hn : 0 ≤ sn ∧ sn ≤ 8) (hs : (s : Int) < sn) {c : Int} (hc : 0 ≤ c ∧ c < 65536) (hc2 : canT c) (hl : 0 ≤ le s ∧ le s < 6) : GMet D yX8_addToTrigger cX8_addToTrigger 3 (some .int) [] 3 0 0 [gR (some mo), gI s, gI c] h (pr (gI (le s + 1)) (fun h1 => IsM h h1 mo am [gI (0), gI sn, gI td, gI ln, gI ca, gI st, gI ld, gI ls, gI wl, gI wc, gI ws, gI ex, gI kp, gI la, gL sv, gI cu] [(gupd tg (6 * (s : Nat) + le s).toNat c), kd, tx, wa, ou, (gupd le s (le s + 1)), pn, on, ot, sp, wp, op, fw, of, sc])) := by
  refine GMet.intro RX8 rfl (by decide) (gcats rfl) (Nat.le_of_ble_eq_true rfl) fun K KX S => ?_
  show K 0 [some _, some _, some _] [] _ 0 0
  have es : ((s : Nat) : Int).toNat = s := by omega
  refine k_aload_n S dX8_addToTrigger_0 rfl ?_
  refine k_iload_n S dX8_addToTrigger_1 rfl ?_
  refine k_callV_r S dX8_addToTrigger_2 v_X8_79 (m_noSn_g D hM hn hs) hM.1 (fun h2 hp2 => ?_) rfl rfl (by decide) (by omega) (by omega) (Nat.le_of_ble_eq_true rfl)
  refine k_if_eq (tgt := 10) S dX8_addToTrigger_5 (by decide) (by omega) (fun c5 => ?_) (fun c5 => ?_)
  · refine k_iload_n S dX8_addToTrigger_10 rfl ?_
    refine k_callS_r S dX8_addToTrigger_11 s_X8_83 (m_canType D hc) (fun h11 hp11 => ?_) rfl rfl (by decide) (by omega) (by omega) (Nat.le_of_ble_eq_true rfl)
    rw [hp11, b01_t hc2]
    refine k_if_ne (tgt := 23) S dX8_addToTrigger_14 (by decide) (by omega) (fun c14 => ?_) (fun c14 => ?_)
    · refine k_aload_n S dX8_addToTrigger_23 rfl ?_
      refine k_getf S dX8_addToTrigger_24 f_X8_29 hp2.1 (by rfl) ?_
      refine k_iload_n S dX8_addToTrigger_27 rfl ?_
      refine k_iaload S dX8_addToTrigger_28 (hp2.ld (j := 5) rfl rfl) (by omega) ?_
      rw [es]
      refine k_bipush S dX8_addToTrigger_29 ?_
      refine k_icmp_ne (tgt := 40) S dX8_addToTrigger_31 (by decide) (by omega) (by omega) (fun c31 => ?_) (fun c31 => ?_)
      · refine k_aload_n S dX8_addToTrigger_40 rfl ?_
        refine k_getf S dX8_addToTrigger_41 f_X8_13 hp2.1 (by rfl) ?_
        refine k_bipush S dX8_addToTrigger_44 ?_
        refine k_iload_n S dX8_addToTrigger_46 rfl ?_
        refine k_imul S dX8_addToTrigger_47 ?_
        refine k_aload_n S dX8_addToTrigger_48 rfl ?_
        refine k_getf S dX8_addToTrigger_49 f_X8_29 hp2.1 (by rfl) ?_
        refine k_iload_n S dX8_addToTrigger_52 rfl ?_
        refine k_iaload S dX8_addToTrigger_53 (hp2.ld (j := 5) rfl rfl) (by omega) ?_
        rw [es]
        refine k_iadd S dX8_addToTrigger_54 ?_
        refine k_iload_n S dX8_addToTrigger_55 rfl ?_
        refine k_mcst (j := 0) S dX8_addToTrigger_56 hp2 rfl rfl (by omega) (by omega) (fun h56 M56 => ?_)
        simp only [List.set_cons_succ, List.set_cons_zero] at M56
        refine k_aload_n S dX8_addToTrigger_57 rfl ?_
        refine k_getf S dX8_addToTrigger_58 f_X8_29 M56.1 (by rfl) ?_
        refine k_iload_n S dX8_addToTrigger_61 rfl ?_
        refine k_dup2 S dX8_addToTrigger_62 ?_
        refine k_iaload S dX8_addToTrigger_63 (M56.ld (j := 5) rfl rfl) (by omega) ?_
        rw [es]
        refine k_iconst S dX8_addToTrigger_64 ?_
        refine k_iadd S dX8_addToTrigger_65 ?_
        refine k_dup_x2 S dX8_addToTrigger_66 ?_
        refine k_mist (j := 5) S dX8_addToTrigger_67 M56 rfl rfl (by omega) (fun h67 M67 => ?_)
        simp only [List.set_cons_succ, List.set_cons_zero] at M67
        rw [es] at M67
        exact k_ireturn S dX8_addToTrigger_68 ⟨rfl, M67⟩ (by omega) (by omega)
      · omega
    · omega
  · omega
/-- clearTrigger, no such snippet -/
theorem m_clearTrigger_b (D : DD) (hM : IsM h h mo am [gI th, gI sn, gI td, gI ln, gI ca, gI st, gI ld, gI ls, gI wl, gI wc, gI ws, gI ex, gI kp, gI la, gL sv, gI cu] [tg, kd, tx, wa, ou, le, pn, on, ot, sp, wp, op, fw, of, sc]) {s : Int} (hs : inR s) (hn : 0 ≤ sn ∧ sn ≤ 8) (hb : ¬ (0 ≤ s ∧ s < sn)) : GMet D yX8_clearTrigger cX8_clearTrigger 3 (some .int) [] 3 0 0 [gR (some mo), gI s] h (pr (gI 0) (fun h1 => IsM h h1 mo am [gI (1), gI sn, gI td, gI ln, gI ca, gI st, gI ld, gI ls, gI wl, gI wc, gI ws, gI ex, gI kp, gI la, gL sv, gI cu] [tg, kd, tx, wa, ou, le, pn, on, ot, sp, wp, op, fw, of, sc])) := by
  refine GMet.intro RX8 rfl (by decide) (gcats rfl) (Nat.le_of_ble_eq_true rfl) fun K KX S => ?_
  show K 0 [some _, some _, none] [] _ 0 0
  refine k_aload_n S dX8_clearTrigger_0 rfl ?_
  refine k_iload_n S dX8_clearTrigger_1 rfl ?_
  refine k_callV_r S dX8_clearTrigger_2 v_X8_79 (m_noSn_b D hM hs hn hb) hM.1 (fun h2 hp2 => ?_) rfl rfl (by decide) (by omega) (by omega) (Nat.le_of_ble_eq_true rfl)
  refine k_if_eq (tgt := 10) S dX8_clearTrigger_5 (by decide) (by omega) (fun c5 => ?_) (fun c5 => ?_)
  · omega
  · refine k_iconst S dX8_clearTrigger_8 ?_
    exact k_ireturn S dX8_clearTrigger_9 ⟨rfl, hp2⟩ (by omega) (by omega)
/-- clearBody, no such snippet -/
theorem m_clearBody_b (D : DD) (hM : IsM h h mo am [gI th, gI sn, gI td, gI ln, gI ca, gI st, gI ld, gI ls, gI wl, gI wc, gI ws, gI ex, gI kp, gI la, gL sv, gI cu] [tg, kd, tx, wa, ou, le, pn, on, ot, sp, wp, op, fw, of, sc]) {s : Int} (hs : inR s) (hn : 0 ≤ sn ∧ sn ≤ 8) (hb : ¬ (0 ≤ s ∧ s < sn)) : GMet D yX8_clearBody cX8_clearBody 3 (some .int) [] 3 0 0 [gR (some mo), gI s] h (pr (gI 0) (fun h1 => IsM h h1 mo am [gI (1), gI sn, gI td, gI ln, gI ca, gI st, gI ld, gI ls, gI wl, gI wc, gI ws, gI ex, gI kp, gI la, gL sv, gI cu] [tg, kd, tx, wa, ou, le, pn, on, ot, sp, wp, op, fw, of, sc])) := by
  refine GMet.intro RX8 rfl (by decide) (gcats rfl) (Nat.le_of_ble_eq_true rfl) fun K KX S => ?_
  show K 0 [some _, some _, none] [] _ 0 0
  refine k_aload_n S dX8_clearBody_0 rfl ?_
  refine k_iload_n S dX8_clearBody_1 rfl ?_
  refine k_callV_r S dX8_clearBody_2 v_X8_79 (m_noSn_b D hM hs hn hb) hM.1 (fun h2 hp2 => ?_) rfl rfl (by decide) (by omega) (by omega) (Nat.le_of_ble_eq_true rfl)
  refine k_if_eq (tgt := 10) S dX8_clearBody_5 (by decide) (by omega) (fun c5 => ?_) (fun c5 => ?_)
  · omega
  · refine k_iconst S dX8_clearBody_8 ?_
    exact k_ireturn S dX8_clearBody_9 ⟨rfl, hp2⟩ (by omega) (by omega)
/-- setOn, no such snippet -/
theorem m_setOn_b (D : DD) (hM : IsM h h mo am [gI th, gI sn, gI td, gI ln, gI ca, gI st, gI ld, gI ls, gI wl, gI wc, gI ws, gI ex, gI kp, gI la, gL sv, gI cu] [tg, kd, tx, wa, ou, le, pn, on, ot, sp, wp, op, fw, of, sc]) {s : Int} (hs : inR s) (hn : 0 ≤ sn ∧ sn ≤ 8) (hb : ¬ (0 ≤ s ∧ s < sn)) {p0 : Int} : GMet D yX8_setOn cX8_setOn 4 (some .boolean) [] 3 0 0 [gR (some mo), gI s, gI p0] h (pr (gI 0) (fun h1 => IsM h h1 mo am [gI (1), gI sn, gI td, gI ln, gI ca, gI st, gI ld, gI ls, gI wl, gI wc, gI ws, gI ex, gI kp, gI la, gL sv, gI cu] [tg, kd, tx, wa, ou, le, pn, on, ot, sp, wp, op, fw, of, sc])) := by
  refine GMet.intro RX8 rfl (by decide) (gcats rfl) (Nat.le_of_ble_eq_true rfl) fun K KX S => ?_
  show K 0 [some _, some _, some _, none] [] _ 0 0
  refine k_aload_n S dX8_setOn_0 rfl ?_
  refine k_iload_n S dX8_setOn_1 rfl ?_
  refine k_callV_r S dX8_setOn_2 v_X8_79 (m_noSn_b D hM hs hn hb) hM.1 (fun h2 hp2 => ?_) rfl rfl (by decide) (by omega) (by omega) (Nat.le_of_ble_eq_true rfl)
  refine k_if_eq (tgt := 10) S dX8_setOn_5 (by decide) (by omega) (fun c5 => ?_) (fun c5 => ?_)
  · omega
  · refine k_iconst S dX8_setOn_8 ?_
    exact k_zreturn S dX8_setOn_9 (by omega) ⟨rfl, hp2⟩ (by omega) (by omega)
/-- choose, no such snippet -/
theorem m_choose_b (D : DD) (hM : IsM h h mo am [gI th, gI sn, gI td, gI ln, gI ca, gI st, gI ld, gI ls, gI wl, gI wc, gI ws, gI ex, gI kp, gI la, gL sv, gI cu] [tg, kd, tx, wa, ou, le, pn, on, ot, sp, wp, op, fw, of, sc]) {s : Int} (hs : inR s) (hn : 0 ≤ sn ∧ sn ≤ 8) (hb : ¬ (0 ≤ s ∧ s < sn)) {p0 : Int} : GMet D yX8_choose cX8_choose 4 (some .boolean) [] 3 0 0 [gR (some mo), gI s, gI p0] h (pr (gI 0) (fun h1 => IsM h h1 mo am [gI (1), gI sn, gI td, gI ln, gI ca, gI st, gI ld, gI ls, gI wl, gI wc, gI ws, gI ex, gI kp, gI la, gL sv, gI cu] [tg, kd, tx, wa, ou, le, pn, on, ot, sp, wp, op, fw, of, sc])) := by
  refine GMet.intro RX8 rfl (by decide) (gcats rfl) (Nat.le_of_ble_eq_true rfl) fun K KX S => ?_
  show K 0 [some _, some _, some _, none] [] _ 0 0
  refine k_aload_n S dX8_choose_0 rfl ?_
  refine k_iload_n S dX8_choose_1 rfl ?_
  refine k_callV_r S dX8_choose_2 v_X8_79 (m_noSn_b D hM hs hn hb) hM.1 (fun h2 hp2 => ?_) rfl rfl (by decide) (by omega) (by omega) (Nat.le_of_ble_eq_true rfl)
  refine k_if_eq (tgt := 10) S dX8_choose_5 (by decide) (by omega) (fun c5 => ?_) (fun c5 => ?_)
  · omega
  · refine k_iconst S dX8_choose_8 ?_
    exact k_zreturn S dX8_choose_9 (by omega) ⟨rfl, hp2⟩ (by omega) (by omega)
/-- clearTrigger -/
theorem m_clearTrigger_g (D : DD) (hM : IsM h h mo am [gI th, gI sn, gI td, gI ln, gI ca, gI st, gI ld, gI ls, gI wl, gI wc, gI ws, gI ex, gI kp, gI la, gL sv, gI cu] [tg, kd, tx, wa, ou, le, pn, on, ot, sp, wp, op, fw, of, sc]) {s : Nat} (hn : 0 ≤ sn ∧ sn ≤ 8) (hs : (s : Int) < sn) : GMet D yX8_clearTrigger cX8_clearTrigger 3 (some .int) [] 3 0 0 [gR (some mo), gI s] h (pr (gI (le s)) (fun h1 => IsM h h1 mo am [gI (0), gI sn, gI td, gI ln, gI ca, gI st, gI ld, gI ls, gI wl, gI wc, gI ws, gI ex, gI kp, gI la, gL sv, gI cu] [tg, kd, tx, wa, ou, (gupd le s 0), pn, on, ot, sp, wp, op, fw, of, sc])) := by
  refine GMet.intro RX8 rfl (by decide) (gcats rfl) (Nat.le_of_ble_eq_true rfl) fun K KX S => ?_
  show K 0 [some _, some _, none] [] _ 0 0
  have es : ((s : Nat) : Int).toNat = s := by omega
  refine k_aload_n S dX8_clearTrigger_0 rfl ?_
  refine k_iload_n S dX8_clearTrigger_1 rfl ?_
  refine k_callV_r S dX8_clearTrigger_2 v_X8_79 (m_noSn_g D hM hn hs) hM.1 (fun h2 hp2 => ?_) rfl rfl (by decide) (by omega) (by omega) (Nat.le_of_ble_eq_true rfl)
  refine k_if_eq (tgt := 10) S dX8_clearTrigger_5 (by decide) (by omega) (fun c5 => ?_) (fun c5 => ?_)
  · refine k_aload_n S dX8_clearTrigger_10 rfl ?_
    refine k_getf S dX8_clearTrigger_11 f_X8_29 hp2.1 (by rfl) ?_
    refine k_iload_n S dX8_clearTrigger_14 rfl ?_
    refine k_iaload S dX8_clearTrigger_15 (hp2.ld (j := 5) rfl rfl) (by omega) ?_
    rw [es]
    refine k_istore_n S dX8_clearTrigger_16 (by decide) ?_
    refine k_aload_n S dX8_clearTrigger_17 rfl ?_
    refine k_getf S dX8_clearTrigger_18 f_X8_29 hp2.1 (by rfl) ?_
    refine k_iload_n S dX8_clearTrigger_21 rfl ?_
    refine k_iconst S dX8_clearTrigger_22 ?_
    refine k_mist (j := 5) S dX8_clearTrigger_23 hp2 rfl rfl (by omega) (fun h23 M23 => ?_)
    simp only [List.set_cons_succ, List.set_cons_zero] at M23
    rw [es] at M23
    refine k_iload_n S dX8_clearTrigger_24 rfl ?_
    exact k_ireturn S dX8_clearTrigger_25 ⟨rfl, M23⟩ (by omega) (by omega)
  · omega
/-- clearBody -/
theorem m_clearBody_g (D : DD) (hM : IsM h h mo am [gI th, gI sn, gI td, gI ln, gI ca, gI st, gI ld, gI ls, gI wl, gI wc, gI ws, gI ex, gI kp, gI la, gL sv, gI cu] [tg, kd, tx, wa, ou, le, pn, on, ot, sp, wp, op, fw, of, sc]) {s : Nat} (hn : 0 ≤ sn ∧ sn ≤ 8) (hs : (s : Int) < sn) : GMet D yX8_clearBody cX8_clearBody 3 (some .int) [] 3 0 0 [gR (some mo), gI s] h (pr (gI (pn s)) (fun h1 => IsM h h1 mo am [gI (0), gI sn, gI td, gI ln, gI ca, gI st, gI ld, gI ls, gI wl, gI wc, gI ws, gI ex, gI kp, gI la, gL sv, gI cu] [tg, kd, tx, wa, ou, le, (gupd pn s 0), on, ot, sp, wp, op, fw, of, sc])) := by
  refine GMet.intro RX8 rfl (by decide) (gcats rfl) (Nat.le_of_ble_eq_true rfl) fun K KX S => ?_
  show K 0 [some _, some _, none] [] _ 0 0
  have es : ((s : Nat) : Int).toNat = s := by omega
  refine k_aload_n S dX8_clearBody_0 rfl ?_
  refine k_iload_n S dX8_clearBody_1 rfl ?_
  refine k_callV_r S dX8_clearBody_2 v_X8_79 (m_noSn_g D hM hn hs) hM.1 (fun h2 hp2 => ?_) rfl rfl (by decide) (by omega) (by omega) (Nat.le_of_ble_eq_true rfl)
  refine k_if_eq (tgt := 10) S dX8_clearBody_5 (by decide) (by omega) (fun c5 => ?_) (fun c5 => ?_)
  · refine k_aload_n S dX8_clearBody_10 rfl ?_
    refine k_getf S dX8_clearBody_11 f_X8_33 hp2.1 (by rfl) ?_
    refine k_iload_n S dX8_clearBody_14 rfl ?_
    refine k_iaload S dX8_clearBody_15 (hp2.ld (j := 6) rfl rfl) (by omega) ?_
    rw [es]
    refine k_istore_n S dX8_clearBody_16 (by decide) ?_
    refine k_aload_n S dX8_clearBody_17 rfl ?_
    refine k_getf S dX8_clearBody_18 f_X8_33 hp2.1 (by rfl) ?_
    refine k_iload_n S dX8_clearBody_21 rfl ?_
    refine k_iconst S dX8_clearBody_22 ?_
    refine k_mist (j := 6) S dX8_clearBody_23 hp2 rfl rfl (by omega) (fun h23 M23 => ?_)
    simp only [List.set_cons_succ, List.set_cons_zero] at M23
    rw [es] at M23
    refine k_iload_n S dX8_clearBody_24 rfl ?_
    exact k_ireturn S dX8_clearBody_25 ⟨rfl, M23⟩ (by omega) (by omega)
  · omega
/-- choose -/
theorem m_choose_g (D : DD) (hM : IsM h h mo am [gI th, gI sn, gI td, gI ln, gI ca, gI st, gI ld, gI ls, gI wl, gI wc, gI ws, gI ex, gI kp, gI la, gL sv, gI cu] [tg, kd, tx, wa, ou, le, pn, on, ot, sp, wp, op, fw, of, sc]) {s : Nat} (hn : 0 ≤ sn ∧ sn ≤ 8) (hs : (s : Int) < sn) {p : Int} (hp : p = 0 ∨ p = 1) (hsc : sc s = 0 ∨ sc s = 1) : GMet D yX8_choose cX8_choose 4 (some .boolean) [] 3 0 0 [gR (some mo), gI s, gI p] h (pr (gI (sc s)) (fun h1 => IsM h h1 mo am [gI (0), gI sn, gI td, gI ln, gI ca, gI st, gI ld, gI ls, gI wl, gI wc, gI ws, gI ex, gI kp, gI la, gL sv, gI cu] [tg, kd, tx, wa, ou, le, pn, on, ot, sp, wp, op, fw, of, (gupd sc s p)])) := by
  refine GMet.intro RX8 rfl (by decide) (gcats rfl) (Nat.le_of_ble_eq_true rfl) fun K KX S => ?_
  show K 0 [some _, some _, some _, none] [] _ 0 0
  have es : ((s : Nat) : Int).toNat = s := by omega
  refine k_aload_n S dX8_choose_0 rfl ?_
  refine k_iload_n S dX8_choose_1 rfl ?_
  refine k_callV_r S dX8_choose_2 v_X8_79 (m_noSn_g D hM hn hs) hM.1 (fun h2 hp2 => ?_) rfl rfl (by decide) (by omega) (by omega) (Nat.le_of_ble_eq_true rfl)
  refine k_if_eq (tgt := 10) S dX8_choose_5 (by decide) (by omega) (fun c5 => ?_) (fun c5 => ?_)
  · refine k_aload_n S dX8_choose_10 rfl ?_
    refine k_getf S dX8_choose_11 f_X8_58 hp2.1 (by rfl) ?_
    refine k_iload_n S dX8_choose_14 rfl ?_
    refine k_baloadz S dX8_choose_15 (hp2.ld (j := 14) rfl rfl) (by omega) ?_
    rw [es]
    refine k_istore_n S dX8_choose_16 (by decide) ?_
    refine k_aload_n S dX8_choose_17 rfl ?_
    refine k_getf S dX8_choose_18 f_X8_58 hp2.1 (by rfl) ?_
    refine k_iload_n S dX8_choose_21 rfl ?_
    refine k_iload_n S dX8_choose_22 rfl ?_
    refine k_mzst (j := 14) S dX8_choose_23 hp2 rfl rfl (by omega) (by omega) (fun h23 M23 => ?_)
    simp only [List.set_cons_succ, List.set_cons_zero] at M23
    rw [es] at M23
    refine k_iload_n S dX8_choose_24 rfl ?_
    exact k_zreturn S dX8_choose_25 hsc ⟨rfl, M23⟩ (by omega) (by omega)
  · omega
/-- setOn -/
theorem m_setOn_g (D : DD) (hM : IsM h h mo am [gI th, gI sn, gI td, gI ln, gI ca, gI st, gI ld, gI ls, gI wl, gI wc, gI ws, gI ex, gI kp, gI la, gL sv, gI cu] [tg, kd, tx, wa, ou, le, pn, on, ot, sp, wp, op, fw, of, sc]) {s : Nat} (hn : 0 ≤ sn ∧ sn ≤ 8) (hs : (s : Int) < sn) {p : Int} (hp : p = 0 ∨ p = 1) (hof : of s = 0 ∨ of s = 1) : GMet D yX8_setOn cX8_setOn 4 (some .boolean) [] 3 0 0 [gR (some mo), gI s, gI p] h (pr (gI (1 - of s)) (fun h1 => IsM h h1 mo am [gI (0), gI sn, gI td, gI ln, gI ca, gI st, gI ld, gI ls, gI wl, gI wc, gI ws, gI ex, gI kp, gI la, gL sv, gI cu] [tg, kd, tx, wa, ou, le, pn, on, ot, sp, wp, op, fw, (gupd of s (1 - p)), sc])) := by
  refine GMet.intro RX8 rfl (by decide) (gcats rfl) (Nat.le_of_ble_eq_true rfl) fun K KX S => ?_
  show K 0 [some _, some _, some _, none] [] _ 0 0
  have es : ((s : Nat) : Int).toNat = s := by omega
  refine k_aload_n S dX8_setOn_0 rfl ?_
  refine k_iload_n S dX8_setOn_1 rfl ?_
  refine k_callV_r S dX8_setOn_2 v_X8_79 (m_noSn_g D hM hn hs) hM.1 (fun h2 hp2 => ?_) rfl rfl (by decide) (by omega) (by omega) (Nat.le_of_ble_eq_true rfl)
  refine k_if_eq (tgt := 10) S dX8_setOn_5 (by decide) (by omega) (fun c5 => ?_) (fun c5 => ?_)
  · have rest : K 24 [some (gR (some mo)), some (gI s), some (gI p), none] [gI (1 - of s)] h2 0 0 := by
      refine k_istore_n S dX8_setOn_24 (by decide) ?_
      refine k_aload_n S dX8_setOn_25 rfl ?_
      refine k_getf S dX8_setOn_26 f_X8_55 hp2.1 (by rfl) ?_
      refine k_iload_n S dX8_setOn_29 rfl ?_
      refine k_iload_n S dX8_setOn_30 rfl ?_
      refine k_if_ne (tgt := 38) S dX8_setOn_31 (by decide) (by omega) (fun c31 => ?_) (fun c31 => ?_)
      · refine k_iconst S dX8_setOn_38 ?_
        refine k_mzst (j := 13) S dX8_setOn_39 hp2 rfl rfl (by omega) (by omega) (fun h39 M39 => ?_)
        simp only [List.set_cons_succ, List.set_cons_zero] at M39
        rw [es] at M39
        have e9 : (0 : Int) = 1 - p := by omega
        rw [show gupd of s (0 : Int) = gupd of s (1 - p) by rw [← e9]] at M39
        refine k_iload_n S dX8_setOn_40 rfl ?_
        exact k_zreturn S dX8_setOn_41 (by omega) ⟨rfl, M39⟩ (by omega) (by omega)
      · refine k_iconst S dX8_setOn_34 ?_
        refine k_goto (tgt := 39) S dX8_setOn_35 (by decide) ?_
        refine k_mzst (j := 13) S dX8_setOn_39 hp2 rfl rfl (by omega) (by omega) (fun h39 M39 => ?_)
        simp only [List.set_cons_succ, List.set_cons_zero] at M39
        rw [es, show gupd of s (1 : Int) = gupd of s (1 - p) by rw [show (1 : Int) - p = 1 by omega]] at M39
        refine k_iload_n S dX8_setOn_40 rfl ?_
        exact k_zreturn S dX8_setOn_41 (by omega) ⟨rfl, M39⟩ (by omega) (by omega)
    refine k_aload_n S dX8_setOn_10 rfl ?_
    refine k_getf S dX8_setOn_11 f_X8_55 hp2.1 (by rfl) ?_
    refine k_iload_n S dX8_setOn_14 rfl ?_
    refine k_baloadz S dX8_setOn_15 (hp2.ld (j := 13) rfl rfl) (by omega) ?_
    rw [es]
    refine k_if_ne (tgt := 23) S dX8_setOn_16 (by decide) (by omega) (fun c16 => ?_) (fun c16 => ?_)
    · refine k_iconst S dX8_setOn_23 ?_
      rw [show (1 : Int) - of s = 0 by omega] at rest
      exact rest
    · refine k_iconst S dX8_setOn_19 ?_
      refine k_goto (tgt := 24) S dX8_setOn_20 (by decide) ?_
      rw [show (1 : Int) - of s = 1 by omega] at rest
      exact rest
  · omega
/-- setToday, refused -/
theorem m_setToday_b (D : DD) (hM : IsM h h mo am [gI th, gI sn, gI td, gI ln, gI ca, gI st, gI ld, gI ls, gI wl, gI wc, gI ws, gI ex, gI kp, gI la, gL sv, gI cu] [tg, kd, tx, wa, ou, le, pn, on, ot, sp, wp, op, fw, of, sc]) {x : Int} (hx : inR x) (hb : ¬ (99 ≤ x ∧ x ≤ 9999)) : GMet D yX8_setToday cX8_setToday 3 (some .int) [] 2 0 0 [gR (some mo), gI x] h (pr (gI 0) (fun h1 => IsM h h1 mo am [gI (1), gI sn, gI td, gI ln, gI ca, gI st, gI ld, gI ls, gI wl, gI wc, gI ws, gI ex, gI kp, gI la, gL sv, gI cu] [tg, kd, tx, wa, ou, le, pn, on, ot, sp, wp, op, fw, of, sc])) := by
  refine GMet.intro RX8 rfl (by decide) (gcats rfl) (Nat.le_of_ble_eq_true rfl) fun K KX S => ?_
  show K 0 [some _, some _, none] [] _ 0 0
  refine k_iload_n S dX8_setToday_0 rfl ?_
  refine k_bipush S dX8_setToday_1 ?_
  refine k_sipush S dX8_setToday_3 ?_
  refine k_callS_r S dX8_setToday_6 s_X8_67 (m_isIn D hx (by decide) (by decide)) (fun h6 hp6 => ?_) rfl rfl (by decide) (by omega) (by omega) (Nat.le_of_ble_eq_true rfl)
  rw [hp6, b01_f hb]
  refine k_if_ne (tgt := 18) S dX8_setToday_9 (by decide) (by omega) (fun c9 => ?_) (fun c9 => ?_)
  · omega
  · refine k_aload_n S dX8_setToday_12 rfl ?_
    refine k_iconst S dX8_setToday_13 ?_
    refine k_callV_r S dX8_setToday_14 v_X8_75 (m_fail D hM) hM.1 (fun h14 hp14 => ?_) rfl rfl (by decide) (by omega) (by omega) (Nat.le_of_ble_eq_true rfl)
    exact k_ireturn S dX8_setToday_17 ⟨rfl, hp14⟩ (by omega) (by omega)
/-- setToday -/
theorem m_setToday_g (D : DD) (hM : IsM h h mo am [gI th, gI sn, gI td, gI ln, gI ca, gI st, gI ld, gI ls, gI wl, gI wc, gI ws, gI ex, gI kp, gI la, gL sv, gI cu] [tg, kd, tx, wa, ou, le, pn, on, ot, sp, wp, op, fw, of, sc]) {x : Int} (hx : inR x) (hb : 99 ≤ x ∧ x ≤ 9999) : GMet D yX8_setToday cX8_setToday 3 (some .int) [] 2 0 0 [gR (some mo), gI x] h (pr (gI td) (fun h1 => IsM h h1 mo am [gI (0), gI sn, gI (x), gI ln, gI ca, gI st, gI ld, gI ls, gI wl, gI wc, gI ws, gI ex, gI kp, gI la, gL sv, gI cu] [tg, kd, tx, wa, ou, le, pn, on, ot, sp, wp, op, fw, of, sc])) := by
  refine GMet.intro RX8 rfl (by decide) (gcats rfl) (Nat.le_of_ble_eq_true rfl) fun K KX S => ?_
  show K 0 [some _, some _, none] [] _ 0 0
  refine k_iload_n S dX8_setToday_0 rfl ?_
  refine k_bipush S dX8_setToday_1 ?_
  refine k_sipush S dX8_setToday_3 ?_
  refine k_callS_r S dX8_setToday_6 s_X8_67 (m_isIn D hx (by decide) (by decide)) (fun h6 hp6 => ?_) rfl rfl (by decide) (by omega) (by omega) (Nat.le_of_ble_eq_true rfl)
  rw [hp6, b01_t hb]
  refine k_if_ne (tgt := 18) S dX8_setToday_9 (by decide) (by omega) (fun c9 => ?_) (fun c9 => ?_)
  · refine k_aload_n S dX8_setToday_18 rfl ?_
    refine k_iconst S dX8_setToday_19 ?_
    refine k_mput S dX8_setToday_20 f_X8_61 hM (gfit_int _) (Nat.le_of_ble_eq_true rfl) (fun h20 M20 => ?_)
    simp only [List.set_cons_succ, List.set_cons_zero] at M20
    refine k_aload_n S dX8_setToday_23 rfl ?_
    refine k_getf S dX8_setToday_24 f_X8_7 M20.1 (by rfl) ?_
    refine k_istore_n S dX8_setToday_27 (by decide) ?_
    refine k_aload_n S dX8_setToday_28 rfl ?_
    refine k_iload_n S dX8_setToday_29 rfl ?_
    refine k_mput S dX8_setToday_30 f_X8_7 M20 (gfit_int _) (Nat.le_of_ble_eq_true rfl) (fun h30 M30 => ?_)
    simp only [List.set_cons_succ, List.set_cons_zero] at M30
    refine k_iload_n S dX8_setToday_33 rfl ?_
    exact k_ireturn S dX8_setToday_34 ⟨rfl, M30⟩ (by omega) (by omega)
  · omega
/-- lay(c) -/
theorem m_lay (D : DD) (hM : IsM h h mo am [gI th, gI sn, gI td, gI ln, gI ca, gI st, gI ld, gI ls, gI wl, gI wc, gI ws, gI ex, gI kp, gI la, gL sv, gI cu] [tg, kd, tx, wa, ou, le, pn, on, ot, sp, wp, op, fw, of, sc]) {c : Int} (hc : 0 ≤ c ∧ c < 65536) (hl : 0 ≤ ld ∧ ld < 400) : GMet D yX8_lay cX8_lay 2 none [] 1 0 0 [gR (some mo), gI c] h (pv (fun h1 => IsM h h1 mo am [gI th, gI sn, gI td, gI ln, gI ca, gI st, gI (ld + 1), gI ls, gI wl, gI wc, gI ws, gI ex, gI kp, gI la, gL sv, gI cu] [tg, kd, tx, wa, (gupd ou ld.toNat c), le, pn, on, ot, sp, wp, op, fw, of, sc])) := by
  refine GMet.intro RX8 rfl (by decide) (gcats rfl) (Nat.le_of_ble_eq_true rfl) fun K KX S => ?_
  show K 0 [some _, some _] [] _ 0 0
  refine k_aload_n S dX8_lay_0 rfl ?_
  refine k_getf S dX8_lay_1 f_X8_26 hM.1 (by rfl) ?_
  refine k_aload_n S dX8_lay_4 rfl ?_
  refine k_getf S dX8_lay_5 f_X8_97 hM.1 (by rfl) ?_
  refine k_iload_n S dX8_lay_8 rfl ?_
  refine k_mcst (j := 4) S dX8_lay_9 hM rfl rfl (by omega) (by omega) (fun h9 M9 => ?_)
  simp only [List.set_cons_succ, List.set_cons_zero] at M9
  refine k_aload_n S dX8_lay_10 rfl ?_
  refine k_dup S dX8_lay_11 ?_
  refine k_getf S dX8_lay_12 f_X8_97 M9.1 (by rfl) ?_
  refine k_iconst S dX8_lay_15 ?_
  refine k_iadd S dX8_lay_16 ?_
  refine k_mput S dX8_lay_17 f_X8_97 M9 (gfit_int _) (Nat.le_of_ble_eq_true rfl) (fun h17 M17 => ?_)
  simp only [List.set_cons_succ, List.set_cons_zero] at M17
  exact k_return S dX8_lay_20 ⟨rfl, M17⟩ (by omega) (by omega)
/-- characterAt, none there -/
theorem m_characterAt_b (D : DD) (hM : IsM h h mo am [gI th, gI sn, gI td, gI ln, gI ca, gI st, gI ld, gI ls, gI wl, gI wc, gI ws, gI ex, gI kp, gI la, gL sv, gI cu] [tg, kd, tx, wa, ou, le, pn, on, ot, sp, wp, op, fw, of, sc]) {x : Int} (hx : inR x) (hl : 0 ≤ ln ∧ ln ≤ 80) (hb : ¬ (0 ≤ x ∧ x < ln)) : GMet D yX8_characterAt cX8_characterAt 2 (some .char) [] 2 0 0 [gR (some mo), gI x] h (pr (gI 32) (fun h1 => IsM h h1 mo am [gI (1), gI sn, gI td, gI ln, gI ca, gI st, gI ld, gI ls, gI wl, gI wc, gI ws, gI ex, gI kp, gI la, gL sv, gI cu] [tg, kd, tx, wa, ou, le, pn, on, ot, sp, wp, op, fw, of, sc])) := by
  refine GMet.intro RX8 rfl (by decide) (gcats rfl) (Nat.le_of_ble_eq_true rfl) fun K KX S => ?_
  show K 0 [some _, some _] [] _ 0 0
  refine k_aload_n S dX8_characterAt_0 rfl ?_
  refine k_iload_n S dX8_characterAt_1 rfl ?_
  refine k_iconst S dX8_characterAt_2 ?_
  refine k_aload_n S dX8_characterAt_3 rfl ?_
  refine k_getf S dX8_characterAt_4 f_X8_146 hM.1 (by rfl) ?_
  refine k_iconst S dX8_characterAt_7 ?_
  refine k_isub S dX8_characterAt_8 ?_
  refine k_callS_r S dX8_characterAt_9 s_X8_67 (m_isIn D hx (by decide) (by unfold inR; omega)) (fun h9 hp9 => ?_) rfl rfl (by decide) (by omega) (by omega) (Nat.le_of_ble_eq_true rfl)
  rw [hp9, b01_f (by omega)]
  refine k_if_eq (tgt := 19) S dX8_characterAt_12 (by decide) (by omega) (fun c12 => ?_) (fun c12 => ?_)
  · refine k_iconst S dX8_characterAt_19 ?_
    refine k_mput S dX8_characterAt_20 f_X8_61 hM (gfit_int _) (Nat.le_of_ble_eq_true rfl) (fun h20 M20 => ?_)
    simp only [List.set_cons_succ, List.set_cons_zero] at M20
    refine k_aload_n S dX8_characterAt_23 rfl ?_
    refine k_getf S dX8_characterAt_24 f_X8_61 M20.1 (by rfl) ?_
    refine k_if_ne (tgt := 39) S dX8_characterAt_27 (by decide) (by omega) (fun c27 => ?_) (fun c27 => ?_)
    · refine k_bipush S dX8_characterAt_39 ?_
      exact k_creturn S dX8_characterAt_41 (by omega) ⟨rfl, M20⟩ (by omega) (by omega)
    · omega
  · omega
/-- characterAt -/
theorem m_characterAt_g (D : DD) (hM : IsM h h mo am [gI th, gI sn, gI td, gI ln, gI ca, gI st, gI ld, gI ls, gI wl, gI wc, gI ws, gI ex, gI kp, gI la, gL sv, gI cu] [tg, kd, tx, wa, ou, le, pn, on, ot, sp, wp, op, fw, of, sc]) {x : Int} (hx : inR x) (hl : 0 ≤ ln ∧ ln ≤ 80) (hb : 0 ≤ x ∧ x < ln) (hc : 0 ≤ tx x.toNat ∧ tx x.toNat < 65536) : GMet D yX8_characterAt cX8_characterAt 2 (some .char) [] 2 0 0 [gR (some mo), gI x] h (pr (gI (tx x.toNat)) (fun h1 => IsM h h1 mo am [gI (0), gI sn, gI td, gI ln, gI ca, gI st, gI ld, gI ls, gI wl, gI wc, gI ws, gI ex, gI kp, gI la, gL sv, gI cu] [tg, kd, tx, wa, ou, le, pn, on, ot, sp, wp, op, fw, of, sc])) := by
  refine GMet.intro RX8 rfl (by decide) (gcats rfl) (Nat.le_of_ble_eq_true rfl) fun K KX S => ?_
  show K 0 [some _, some _] [] _ 0 0
  refine k_aload_n S dX8_characterAt_0 rfl ?_
  refine k_iload_n S dX8_characterAt_1 rfl ?_
  refine k_iconst S dX8_characterAt_2 ?_
  refine k_aload_n S dX8_characterAt_3 rfl ?_
  refine k_getf S dX8_characterAt_4 f_X8_146 hM.1 (by rfl) ?_
  refine k_iconst S dX8_characterAt_7 ?_
  refine k_isub S dX8_characterAt_8 ?_
  refine k_callS_r S dX8_characterAt_9 s_X8_67 (m_isIn D hx (by decide) (by unfold inR; omega)) (fun h9 hp9 => ?_) rfl rfl (by decide) (by omega) (by omega) (Nat.le_of_ble_eq_true rfl)
  rw [hp9, b01_t (by omega)]
  refine k_if_eq (tgt := 19) S dX8_characterAt_12 (by decide) (by omega) (fun c12 => ?_) (fun c12 => ?_)
  · omega
  · refine k_iconst S dX8_characterAt_15 ?_
    refine k_goto (tgt := 20) S dX8_characterAt_16 (by decide) ?_
    refine k_mput S dX8_characterAt_20 f_X8_61 hM (gfit_int _) (Nat.le_of_ble_eq_true rfl) (fun h20 M20 => ?_)
    simp only [List.set_cons_succ, List.set_cons_zero] at M20
    refine k_aload_n S dX8_characterAt_23 rfl ?_
    refine k_getf S dX8_characterAt_24 f_X8_61 M20.1 (by rfl) ?_
    refine k_if_ne (tgt := 39) S dX8_characterAt_27 (by decide) (by omega) (fun c27 => ?_) (fun c27 => ?_)
    · omega
    · refine k_aload_n S dX8_characterAt_30 rfl ?_
      refine k_getf S dX8_characterAt_31 f_X8_20 M20.1 (by rfl) ?_
      refine k_iload_n S dX8_characterAt_34 rfl ?_
      refine k_caload S dX8_characterAt_35 (M20.ld (j := 2) rfl rfl) (by omega) ?_
      refine k_goto (tgt := 41) S dX8_characterAt_36 (by decide) ?_
      exact k_creturn S dX8_characterAt_41 hc ⟨rfl, M20⟩ (by omega) (by omega)
/-- stopAt, none there -/
theorem m_stopAt_b (D : DD) (hM : IsM h h mo am [gI th, gI sn, gI td, gI ln, gI ca, gI st, gI ld, gI ls, gI wl, gI wc, gI ws, gI ex, gI kp, gI la, gL sv, gI cu] [tg, kd, tx, wa, ou, le, pn, on, ot, sp, wp, op, fw, of, sc]) {x : Int} (hx : inR x) (hl : 0 ≤ st ∧ st ≤ 400) (hb : ¬ (0 ≤ x ∧ x < st)) : GMet D yX8_stopAt cX8_stopAt 2 (some .int) [] 2 0 0 [gR (some mo), gI x] h (pr (gI 0) (fun h1 => IsM h h1 mo am [gI (1), gI sn, gI td, gI ln, gI ca, gI st, gI ld, gI ls, gI wl, gI wc, gI ws, gI ex, gI kp, gI la, gL sv, gI cu] [tg, kd, tx, wa, ou, le, pn, on, ot, sp, wp, op, fw, of, sc])) := by
  refine GMet.intro RX8 rfl (by decide) (gcats rfl) (Nat.le_of_ble_eq_true rfl) fun K KX S => ?_
  show K 0 [some _, some _] [] _ 0 0
  refine k_iload_n S dX8_stopAt_0 rfl ?_
  refine k_iconst S dX8_stopAt_1 ?_
  refine k_aload_n S dX8_stopAt_2 rfl ?_
  refine k_getf S dX8_stopAt_3 f_X8_149 hM.1 (by rfl) ?_
  refine k_iconst S dX8_stopAt_6 ?_
  refine k_isub S dX8_stopAt_7 ?_
  refine k_callS_r S dX8_stopAt_8 s_X8_67 (m_isIn D hx (by decide) (by unfold inR; omega)) (fun h8 hp8 => ?_) rfl rfl (by decide) (by omega) (by omega) (Nat.le_of_ble_eq_true rfl)
  rw [hp8, b01_f (by omega)]
  refine k_if_ne (tgt := 20) S dX8_stopAt_11 (by decide) (by omega) (fun c11 => ?_) (fun c11 => ?_)
  · omega
  · refine k_aload_n S dX8_stopAt_14 rfl ?_
    refine k_iconst S dX8_stopAt_15 ?_
    refine k_callV_r S dX8_stopAt_16 v_X8_75 (m_fail D hM) hM.1 (fun h16 hp16 => ?_) rfl rfl (by decide) (by omega) (by omega) (Nat.le_of_ble_eq_true rfl)
    exact k_ireturn S dX8_stopAt_19 ⟨rfl, hp16⟩ (by omega) (by omega)
/-- stopAt -/
theorem m_stopAt_g (D : DD) (hM : IsM h h mo am [gI th, gI sn, gI td, gI ln, gI ca, gI st, gI ld, gI ls, gI wl, gI wc, gI ws, gI ex, gI kp, gI la, gL sv, gI cu] [tg, kd, tx, wa, ou, le, pn, on, ot, sp, wp, op, fw, of, sc]) {x : Int} (hx : inR x) (hl : 0 ≤ st ∧ st ≤ 400) (hb : 0 ≤ x ∧ x < st) : GMet D yX8_stopAt cX8_stopAt 2 (some .int) [] 2 0 0 [gR (some mo), gI x] h (pr (gI (sp x.toNat)) (fun h1 => IsM h h1 mo am [gI (0), gI sn, gI td, gI ln, gI ca, gI st, gI ld, gI ls, gI wl, gI wc, gI ws, gI ex, gI kp, gI la, gL sv, gI cu] [tg, kd, tx, wa, ou, le, pn, on, ot, sp, wp, op, fw, of, sc])) := by
  refine GMet.intro RX8 rfl (by decide) (gcats rfl) (Nat.le_of_ble_eq_true rfl) fun K KX S => ?_
  show K 0 [some _, some _] [] _ 0 0
  refine k_iload_n S dX8_stopAt_0 rfl ?_
  refine k_iconst S dX8_stopAt_1 ?_
  refine k_aload_n S dX8_stopAt_2 rfl ?_
  refine k_getf S dX8_stopAt_3 f_X8_149 hM.1 (by rfl) ?_
  refine k_iconst S dX8_stopAt_6 ?_
  refine k_isub S dX8_stopAt_7 ?_
  refine k_callS_r S dX8_stopAt_8 s_X8_67 (m_isIn D hx (by decide) (by unfold inR; omega)) (fun h8 hp8 => ?_) rfl rfl (by decide) (by omega) (by omega) (Nat.le_of_ble_eq_true rfl)
  rw [hp8, b01_t (by omega)]
  refine k_if_ne (tgt := 20) S dX8_stopAt_11 (by decide) (by omega) (fun c11 => ?_) (fun c11 => ?_)
  · refine k_aload_n S dX8_stopAt_20 rfl ?_
    refine k_iconst S dX8_stopAt_21 ?_
    refine k_mput S dX8_stopAt_22 f_X8_61 hM (gfit_int _) (Nat.le_of_ble_eq_true rfl) (fun h22 M22 => ?_)
    simp only [List.set_cons_succ, List.set_cons_zero] at M22
    refine k_aload_n S dX8_stopAt_25 rfl ?_
    refine k_getf S dX8_stopAt_26 f_X8_42 M22.1 (by rfl) ?_
    refine k_iload_n S dX8_stopAt_29 rfl ?_
    refine k_iaload S dX8_stopAt_30 (M22.ld (j := 9) rfl rfl) (by omega) ?_
    exact k_ireturn S dX8_stopAt_31 ⟨rfl, M22⟩ (by omega) (by omega)
  · omega
/-- moveCaret, refused -/
theorem m_moveCaret_b (D : DD) (hM : IsM h h mo am [gI th, gI sn, gI td, gI ln, gI ca, gI st, gI ld, gI ls, gI wl, gI wc, gI ws, gI ex, gI kp, gI la, gL sv, gI cu] [tg, kd, tx, wa, ou, le, pn, on, ot, sp, wp, op, fw, of, sc]) {x : Int} (hx : inR x) (hl : 0 ≤ ca ∧ ca ≤ ln ∧ ln ≤ 80) (hb : ¬ (-ca ≤ x ∧ x ≤ ln - ca)) : GMet D yX8_moveCaret cX8_moveCaret 2 (some .int) [] 2 0 0 [gR (some mo), gI x] h (pr (gI 0) (fun h1 => IsM h h1 mo am [gI (1), gI sn, gI td, gI ln, gI ca, gI st, gI ld, gI ls, gI wl, gI wc, gI ws, gI ex, gI kp, gI la, gL sv, gI cu] [tg, kd, tx, wa, ou, le, pn, on, ot, sp, wp, op, fw, of, sc])) := by
  refine GMet.intro RX8 rfl (by decide) (gcats rfl) (Nat.le_of_ble_eq_true rfl) fun K KX S => ?_
  show K 0 [some _, some _] [] _ 0 0
  refine k_iload_n S dX8_moveCaret_0 rfl ?_
  refine k_aload_n S dX8_moveCaret_1 rfl ?_
  refine k_getf S dX8_moveCaret_2 f_X8_136 hM.1 (by rfl) ?_
  refine k_ineg S dX8_moveCaret_5 ?_
  refine k_aload_n S dX8_moveCaret_6 rfl ?_
  refine k_getf S dX8_moveCaret_7 f_X8_146 hM.1 (by rfl) ?_
  refine k_aload_n S dX8_moveCaret_10 rfl ?_
  refine k_getf S dX8_moveCaret_11 f_X8_136 hM.1 (by rfl) ?_
  refine k_isub S dX8_moveCaret_14 ?_
  refine k_callS_r S dX8_moveCaret_15 s_X8_67 (m_isIn D hx (by unfold inR; omega) (by unfold inR; omega)) (fun h15 hp15 => ?_) rfl rfl (by decide) (by omega) (by omega) (Nat.le_of_ble_eq_true rfl)
  rw [hp15, b01_f (by omega)]
  refine k_if_ne (tgt := 27) S dX8_moveCaret_18 (by decide) (by omega) (fun c18 => ?_) (fun c18 => ?_)
  · omega
  · refine k_aload_n S dX8_moveCaret_21 rfl ?_
    refine k_iconst S dX8_moveCaret_22 ?_
    refine k_callV_r S dX8_moveCaret_23 v_X8_75 (m_fail D hM) hM.1 (fun h23 hp23 => ?_) rfl rfl (by decide) (by omega) (by omega) (Nat.le_of_ble_eq_true rfl)
    exact k_ireturn S dX8_moveCaret_26 ⟨rfl, hp23⟩ (by omega) (by omega)
/-- moveCaret -/
theorem m_moveCaret_g (D : DD) (hM : IsM h h mo am [gI th, gI sn, gI td, gI ln, gI ca, gI st, gI ld, gI ls, gI wl, gI wc, gI ws, gI ex, gI kp, gI la, gL sv, gI cu] [tg, kd, tx, wa, ou, le, pn, on, ot, sp, wp, op, fw, of, sc]) {x : Int} (hx : inR x) (hl : 0 ≤ ca ∧ ca ≤ ln ∧ ln ≤ 80) (hb : -ca ≤ x ∧ x ≤ ln - ca) : GMet D yX8_moveCaret cX8_moveCaret 2 (some .int) [] 2 0 0 [gR (some mo), gI x] h (pr (gI (ca + x)) (fun h1 => IsM h h1 mo am [gI (0), gI sn, gI td, gI ln, gI (ca + x), gI st, gI ld, gI ls, gI wl, gI wc, gI ws, gI ex, gI kp, gI la, gL sv, gI (0)] [tg, kd, tx, wa, ou, le, pn, on, ot, sp, wp, op, fw, of, sc])) := by
  refine GMet.intro RX8 rfl (by decide) (gcats rfl) (Nat.le_of_ble_eq_true rfl) fun K KX S => ?_
  show K 0 [some _, some _] [] _ 0 0
  refine k_iload_n S dX8_moveCaret_0 rfl ?_
  refine k_aload_n S dX8_moveCaret_1 rfl ?_
  refine k_getf S dX8_moveCaret_2 f_X8_136 hM.1 (by rfl) ?_
  refine k_ineg S dX8_moveCaret_5 ?_
  refine k_aload_n S dX8_moveCaret_6 rfl ?_
  refine k_getf S dX8_moveCaret_7 f_X8_146 hM.1 (by rfl) ?_
  refine k_aload_n S dX8_moveCaret_10 rfl ?_
  refine k_getf S dX8_moveCaret_11 f_X8_136 hM.1 (by rfl) ?_
  refine k_isub S dX8_moveCaret_14 ?_
  refine k_callS_r S dX8_moveCaret_15 s_X8_67 (m_isIn D hx (by unfold inR; omega) (by unfold inR; omega)) (fun h15 hp15 => ?_) rfl rfl (by decide) (by omega) (by omega) (Nat.le_of_ble_eq_true rfl)
  rw [hp15, b01_t (by omega)]
  refine k_if_ne (tgt := 27) S dX8_moveCaret_18 (by decide) (by omega) (fun c18 => ?_) (fun c18 => ?_)
  · refine k_aload_n S dX8_moveCaret_27 rfl ?_
    refine k_iconst S dX8_moveCaret_28 ?_
    refine k_mput S dX8_moveCaret_29 f_X8_61 hM (gfit_int _) (Nat.le_of_ble_eq_true rfl) (fun h29 M29 => ?_)
    simp only [List.set_cons_succ, List.set_cons_zero] at M29
    refine k_aload_n S dX8_moveCaret_32 rfl ?_
    refine k_dup S dX8_moveCaret_33 ?_
    refine k_getf S dX8_moveCaret_34 f_X8_136 M29.1 (by rfl) ?_
    refine k_iload_n S dX8_moveCaret_37 rfl ?_
    refine k_iadd S dX8_moveCaret_38 ?_
    refine k_mput S dX8_moveCaret_39 f_X8_136 M29 (gfit_int _) (Nat.le_of_ble_eq_true rfl) (fun h39 M39 => ?_)
    simp only [List.set_cons_succ, List.set_cons_zero] at M39
    refine k_aload_n S dX8_moveCaret_42 rfl ?_
    refine k_iconst S dX8_moveCaret_43 ?_
    refine k_mput S dX8_moveCaret_44 f_X8_183 M39 (gfit_bool (by omega)) (Nat.le_of_ble_eq_true rfl) (fun h44 M44 => ?_)
    simp only [List.set_cons_succ, List.set_cons_zero] at M44
    refine k_aload_n S dX8_moveCaret_47 rfl ?_
    refine k_getf S dX8_moveCaret_48 f_X8_136 M44.1 (by rfl) ?_
    exact k_ireturn S dX8_moveCaret_51 ⟨rfl, M44⟩ (by omega) (by omega)
  · omega
end
