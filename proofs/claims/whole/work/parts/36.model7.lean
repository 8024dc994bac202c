section
variable {mo : Nat} {am : Nat → Nat} {th sn td ld ls wl wc ws ex kp la sv cu : Int} {n a m : Nat} {tg kd tx wa ou le pn on ot sp wp op fw of sc : Nat → Int}
/-- key, a character that cannot be typed -/
theorem m_key_c (D : DD) {h : GH} (hM : IsM h h mo am [gI th, gI sn, gI td, gI ((n : Nat)), gI ((a : Nat)), gI ((m : Nat)), gI ld, gI ls, gI wl, gI wc, gI ws, gI ex, gI kp, gI la, gL sv, gI cu] [tg, kd, tx, wa, ou, le, pn, on, ot, sp, wp, op, fw, of, sc]) {c : Int} (hc : 0 ≤ c ∧ c < 65536) (hc2 : ¬ canT c) : GMet D yX8_key cX8_key 3 (some .int) [] 3 0 0 [gR (some mo), gI c] h (pr (gI 0) (fun h1 => IsM h h1 mo am [gI (1), gI sn, gI td, gI ((n : Nat)), gI ((a : Nat)), gI ((m : Nat)), gI ld, gI ls, gI wl, gI wc, gI ws, gI ex, gI kp, gI la, gL sv, gI cu] [tg, kd, tx, wa, ou, le, pn, on, ot, sp, wp, op, fw, of, sc])) := by
  refine GMet.intro RX8 rfl (by decide) (gcats rfl) (Nat.le_of_ble_eq_true rfl) fun K KX S => ?_
  show K 0 [some _, some _, none] [] _ 0 0
  refine k_iload_n S dX8_key_0 rfl ?_
  refine k_callS_r S dX8_key_1 s_X8_83 (m_canType D hc) (fun h1 hp1 => ?_) rfl rfl (by decide) (by omega) (by omega) (Nat.le_of_ble_eq_true rfl)
  rw [hp1, b01_f hc2]
  refine k_if_ne (tgt := 13) S dX8_key_4 (by decide) (by omega) (fun c4 => ?_) (fun c4 => ?_)
  · omega
  · refine k_aload_n S dX8_key_7 rfl ?_
    refine k_iconst S dX8_key_8 ?_
    refine k_callV_r S dX8_key_9 v_X8_75 (m_fail D hM) hM.1 (fun h9 hp9 => ?_) rfl rfl (by decide) (by omega) (by omega) (Nat.le_of_ble_eq_true rfl)
    exact k_ireturn S dX8_key_12 ⟨rfl, hp9⟩ (by omega) (by omega)
/-- key, the text is full -/
theorem m_key_f (D : DD) {h : GH} (hM : IsM h h mo am [gI th, gI sn, gI td, gI ((n : Nat)), gI ((a : Nat)), gI ((m : Nat)), gI ld, gI ls, gI wl, gI wc, gI ws, gI ex, gI kp, gI la, gL sv, gI cu] [tg, kd, tx, wa, ou, le, pn, on, ot, sp, wp, op, fw, of, sc]) {c : Int} (hc : 0 ≤ c ∧ c < 65536) (hc2 : canT c) (hn : n = 80) : GMet D yX8_key cX8_key 3 (some .int) [] 3 0 0 [gR (some mo), gI c] h (pr (gI 0) (fun h1 => IsM h h1 mo am [gI (2), gI sn, gI td, gI ((n : Nat)), gI ((a : Nat)), gI ((m : Nat)), gI ld, gI ls, gI wl, gI wc, gI ws, gI ex, gI kp, gI la, gL sv, gI cu] [tg, kd, tx, wa, ou, le, pn, on, ot, sp, wp, op, fw, of, sc])) := by
  refine GMet.intro RX8 rfl (by decide) (gcats rfl) (Nat.le_of_ble_eq_true rfl) fun K KX S => ?_
  show K 0 [some _, some _, none] [] _ 0 0
  refine k_iload_n S dX8_key_0 rfl ?_
  refine k_callS_r S dX8_key_1 s_X8_83 (m_canType D hc) (fun h1 hp1 => ?_) rfl rfl (by decide) (by omega) (by omega) (Nat.le_of_ble_eq_true rfl)
  rw [hp1, b01_t hc2]
  refine k_if_ne (tgt := 13) S dX8_key_4 (by decide) (by omega) (fun c4 => ?_) (fun c4 => ?_)
  · refine k_aload_n S dX8_key_13 rfl ?_
    refine k_getf S dX8_key_14 f_X8_146 hM.1 (by rfl) ?_
    refine k_bipush S dX8_key_17 ?_
    refine k_icmp_ne (tgt := 28) S dX8_key_19 (by decide) (by omega) (by omega) (fun c19 => ?_) (fun c19 => ?_)
    · omega
    · refine k_aload_n S dX8_key_22 rfl ?_
      refine k_iconst S dX8_key_23 ?_
      refine k_callV_r S dX8_key_24 v_X8_75 (m_fail D hM) hM.1 (fun h24 hp24 => ?_) rfl rfl (by decide) (by omega) (by omega) (Nat.le_of_ble_eq_true rfl)
      exact k_ireturn S dX8_key_27 ⟨rfl, hp24⟩ (by omega) (by omega)
  · omega
/-- key, nothing matches -/
theorem m_key_n (D : DD) {h : GH} (hM : IsM h h mo am [gI th, gI sn, gI td, gI ((n : Nat)), gI ((a : Nat)), gI ((m : Nat)), gI ld, gI ls, gI wl, gI wc, gI ws, gI ex, gI kp, gI la, gL sv, gI cu] [tg, kd, tx, wa, ou, le, pn, on, ot, sp, wp, op, fw, of, sc]) {c : Int} (hc : 0 ≤ c ∧ c < 65536) (hc2 : canT c) (hn8 : n < 80) (ha : a ≤ n) (hm : m ≤ 400) (hx : allC tx) (hZ : ∀ q, q < m → inR (sp q)) (hn : 0 ≤ sn ∧ sn ≤ 8) (hT : TOk sn le of fw) (hg : allC tg) (hv : bsF (mtP of le tg (insM tx n a c) fw ((a + 1 : Nat))) le sn.toNat 0 (-1) = -1) : GMet D yX8_key cX8_key 3 (some .int) [] 5 0 0 [gR (some mo), gI c] h (pr (gI (-1)) (fun h1 => IsM h h1 mo am [gI (0), gI sn, gI td, gI (((n + 1 : Nat))), gI (((a + 1 : Nat))), gI ((m : Nat)), gI ld, gI ls, gI wl, gI wc, gI ws, gI ex, gI kp, gI la, gL sv, gI (0)] [tg, kd, (insM tx n a c), wa, ou, le, pn, on, ot, (shM sp m a 1), wp, op, fw, of, sc])) := by
  refine GMet.intro RX8 rfl (by decide) (gcats rfl) (Nat.le_of_ble_eq_true rfl) fun K KX S => ?_
  show K 0 [some _, some _, none] [] _ 0 0
  have hx1 : allC (insM tx n a c) := allC_ins hx hc
  have at87 : ∀ h9, IsM h h9 mo am [gI (0), gI sn, gI td, gI (((n + 1 : Nat))), gI (((a + 1 : Nat))), gI ((m : Nat)), gI ld, gI ls, gI wl, gI wc, gI ws, gI ex, gI kp, gI la, gL sv, gI (0)] [tg, kd, (insM tx n a c), wa, ou, le, pn, on, ot, (shM sp m a 1), wp, op, fw, of, sc] → K 87 [some (gR (some mo)), some (gI c), some (gI (bsF (mtP of le tg (insM tx n a c) fw ((a + 1 : Nat))) le sn.toNat 0 (-1)))] [] h9 0 0 := fun h9 M9 => by
    rw [hv]
    refine k_iload_n S dX8_key_87 rfl ?_
    refine k_if_ge (tgt := 93) S dX8_key_88 (by decide) (by omega) (fun c88 => ?_) (fun c88 => ?_)
    · omega
    · refine k_iconst S dX8_key_91 ?_
      exact k_ireturn S dX8_key_92 ⟨rfl, M9⟩ (by omega) (by omega)
  have loop : ∀ (d k : Nat) (h5 : GH), k + d = m → IsM h h5 mo am [gI (0), gI sn, gI td, gI ((n : Nat)), gI ((a : Nat)), gI ((m : Nat)), gI ld, gI ls, gI wl, gI wc, gI ws, gI ex, gI kp, gI la, gL sv, gI cu] [tg, kd, tx, wa, ou, le, pn, on, ot, (shM sp k a 1), wp, op, fw, of, sc] → K 35 [some (gR (some mo)), some (gI c), some (gI k)] [] h5 0 0 := by
    intro d
    induction d with
    | zero =>
      intro k h5 hk M5
      have ek : k = m := by omega
      subst ek
      refine k_iload_n S dX8_key_35 rfl ?_
      refine k_aload_n S dX8_key_36 rfl ?_
      refine k_getf S dX8_key_37 f_X8_149 M5.1 (by rfl) ?_
      refine k_icmp_ge (tgt := 72) S dX8_key_40 (by decide) (by omega) (by omega) (fun c40 => ?_) (fun c40 => ?_)
      · refine k_aload_n S dX8_key_72 rfl ?_
        refine k_iload_n S dX8_key_73 rfl ?_
        refine k_callV_v S dX8_key_74 v_X8_170 (m_insert D M5.rb hx hc (by omega)) M5.1 (fun h74 hp74 => ?_) rfl rfl (by decide) (by omega) (by omega) (Nat.le_of_ble_eq_true rfl)
        have M74 := M5.tr hp74
        refine k_aload_n S dX8_key_77 rfl ?_
        refine k_iconst S dX8_key_78 ?_
        refine k_mput S dX8_key_79 f_X8_183 M74 (gfit_bool (by omega)) (Nat.le_of_ble_eq_true rfl) (fun h79 M79 => ?_)
        simp only [List.set_cons_succ, List.set_cons_zero] at M79
        refine k_aload_n S dX8_key_82 rfl ?_
        refine k_callV_r S dX8_key_83 v_X8_142 (m_matching D M79.rb hn hT hg hx1 (by omega)) M79.1 (fun h83 hp83 => ?_) rfl rfl (by decide) (by omega) (by omega) (Nat.le_of_ble_eq_true rfl)
        rw [hp83]
        refine k_istore_n S dX8_key_86 (by decide) ?_
        exact at87 _ M79
      · omega
    | succ d ih =>
      intro k h5 hk M5
      have e1 : ((k : Nat) : Int).toNat = k := by omega
      have r1 := hZ k (by omega)
      unfold inR at r1
      refine k_iload_n S dX8_key_35 rfl ?_
      refine k_aload_n S dX8_key_36 rfl ?_
      refine k_getf S dX8_key_37 f_X8_149 M5.1 (by rfl) ?_
      refine k_icmp_ge (tgt := 72) S dX8_key_40 (by decide) (by omega) (by omega) (fun c40 => ?_) (fun c40 => ?_)
      · omega
      · refine k_aload_n S dX8_key_43 rfl ?_
        refine k_getf S dX8_key_44 f_X8_42 M5.1 (by rfl) ?_
        refine k_iload_n S dX8_key_47 rfl ?_
        refine k_iaload S dX8_key_48 (M5.ld (j := 9) rfl rfl) (by omega) ?_
        rw [e1, shM_at]
        refine k_aload_n S dX8_key_49 rfl ?_
        refine k_getf S dX8_key_50 f_X8_136 M5.1 (by rfl) ?_
        refine k_icmp_lt (tgt := 66) S dX8_key_53 (by decide) (by omega) (by omega) (fun c53 => ?_) (fun c53 => ?_)
        · refine k_iinc S dX8_key_66 rfl (by decide) ?_
          refine k_goto (tgt := 35) S dX8_key_69 (by decide) ?_
          exact ih (k + 1) h5 (by omega) (by rw [← shM_f (by omega)]; exact M5)
        · refine k_aload_n S dX8_key_56 rfl ?_
          refine k_getf S dX8_key_57 f_X8_42 M5.1 (by rfl) ?_
          refine k_iload_n S dX8_key_60 rfl ?_
          refine k_dup2 S dX8_key_61 ?_
          refine k_iaload S dX8_key_62 (M5.ld (j := 9) rfl rfl) (by omega) ?_
          rw [e1, shM_at]
          refine k_iconst S dX8_key_63 ?_
          refine k_iadd S dX8_key_64 ?_
          refine k_mist (j := 9) S dX8_key_65 M5 rfl rfl (by omega) (fun h65 M65 => ?_)
          simp only [List.set_cons_succ, List.set_cons_zero] at M65
          rw [e1, shM_t (by omega)] at M65
          refine k_iinc S dX8_key_66 rfl (by decide) ?_
          refine k_goto (tgt := 35) S dX8_key_69 (by decide) ?_
          exact ih (k + 1) h65 (by omega) M65
  refine k_iload_n S dX8_key_0 rfl ?_
  refine k_callS_r S dX8_key_1 s_X8_83 (m_canType D hc) (fun h1 hp1 => ?_) rfl rfl (by decide) (by omega) (by omega) (Nat.le_of_ble_eq_true rfl)
  rw [hp1, b01_t hc2]
  refine k_if_ne (tgt := 13) S dX8_key_4 (by decide) (by omega) (fun c4 => ?_) (fun c4 => ?_)
  · refine k_aload_n S dX8_key_13 rfl ?_
    refine k_getf S dX8_key_14 f_X8_146 hM.1 (by rfl) ?_
    refine k_bipush S dX8_key_17 ?_
    refine k_icmp_ne (tgt := 28) S dX8_key_19 (by decide) (by omega) (by omega) (fun c19 => ?_) (fun c19 => ?_)
    · refine k_aload_n S dX8_key_28 rfl ?_
      refine k_iconst S dX8_key_29 ?_
      refine k_mput S dX8_key_30 f_X8_61 hM (gfit_int _) (Nat.le_of_ble_eq_true rfl) (fun h30 M30 => ?_)
      simp only [List.set_cons_succ, List.set_cons_zero] at M30
      refine k_iconst S dX8_key_33 ?_
      refine k_istore_n S dX8_key_34 (by decide) ?_
      exact loop m 0 h30 (by omega) (by rw [shM_0]; exact M30)
    · omega
  · omega
/-- key, no room for what matches -/
theorem m_key_o (D : DD) {h : GH} (hM : IsM h h mo am [gI th, gI sn, gI td, gI ((n : Nat)), gI ((a : Nat)), gI ((m : Nat)), gI ld, gI ls, gI wl, gI wc, gI ws, gI ex, gI kp, gI la, gL sv, gI cu] [tg, kd, tx, wa, ou, le, pn, on, ot, sp, wp, op, fw, of, sc]) {c : Int} (hc : 0 ≤ c ∧ c < 65536) (hc2 : canT c) (hn8 : n < 80) (ha : a ≤ n) (hm : m ≤ 400) (hx : allC tx) (hZ : ∀ q, q < m → inR (sp q)) (hn : 0 ≤ sn ∧ sn ≤ 8) (hT : TOk sn le of fw) (hg : allC tg) {rk : Nat → Nat} (hk : allC kd) (hB : BOk sn pn kd on ot rk) (hB2 : BOk2 sn pn kd on ot) (htd : 99 ≤ td ∧ td ≤ 9999) (hsc : ∀ s : Nat, (s : Int) < sn → sc s = 0 ∨ sc s = 1) (hr8 : ∀ s, rk s < 8) (h200 : ∀ s : Nat, (s : Int) < sn → szF pn kd on ot 8 s ≤ 200) {s u : Nat} (hs : (s : Int) < sn) (hv : bsF (mtP of le tg (insM tx n a c) fw ((a + 1 : Nat))) le sn.toNat 0 (-1) = (s : Nat)) (hu : le s = (u : Nat)) (hua : u ≤ a + 1) (hroom : 80 < n + 1 - u + (lyF pn kd on ot sc td 8 s ([], [])).1.length) : GMet D yX8_key cX8_key 3 (some .int) [] 18 0 0 [gR (some mo), gI c] h (pr (gI (-1)) (fun h1 => IsM h h1 mo am [gI (0), gI sn, gI td, gI (((n + 1 : Nat))), gI (((a + 1 : Nat))), gI ((m : Nat)), gI (((lyF pn kd on ot sc td 8 s ([], [])).1.length : Nat)), gI (((lyF pn kd on ot sc td 8 s ([], [])).2.length : Nat)), gI wl, gI wc, gI ws, gI ex, gI kp, gI la, gL sv, gI (0)] [tg, kd, (insM tx n a c), wa, (wrF ou 0 (lyF pn kd on ot sc td 8 s ([], [])).1), le, pn, on, ot, (shM sp m a 1), wp, (wrF op 0 (lyF pn kd on ot sc td 8 s ([], [])).2), fw, of, sc])) := by
  refine GMet.intro RX8 rfl (by decide) (gcats rfl) (Nat.le_of_ble_eq_true rfl) fun K KX S => ?_
  show K 0 [some _, some _, none] [] _ 0 0
  have hx1 : allC (insM tx n a c) := allC_ins hx hc
  have at87 : ∀ h9, IsM h h9 mo am [gI (0), gI sn, gI td, gI (((n + 1 : Nat))), gI (((a + 1 : Nat))), gI ((m : Nat)), gI ld, gI ls, gI wl, gI wc, gI ws, gI ex, gI kp, gI la, gL sv, gI (0)] [tg, kd, (insM tx n a c), wa, ou, le, pn, on, ot, (shM sp m a 1), wp, op, fw, of, sc] → K 87 [some (gR (some mo)), some (gI c), some (gI (bsF (mtP of le tg (insM tx n a c) fw ((a + 1 : Nat))) le sn.toNat 0 (-1)))] [] h9 0 0 := fun h9 M9 => by
    rw [hv]
    have es : ((s : Nat) : Int).toNat = s := by omega
    have ln := lyF_len (sc := sc) hB hB2 htd 8 s hs ([], [])
    dsimp only at ln
    simp only [List.length_nil] at ln
    have z2 := h200 s hs
    refine k_iload_n S dX8_key_87 rfl ?_
    refine k_if_ge (tgt := 93) S dX8_key_88 (by decide) (by omega) (fun c88 => ?_) (fun c88 => ?_)
    · refine k_aload_n S dX8_key_93 rfl ?_
      refine k_iload_n S dX8_key_94 rfl ?_
      refine k_callV_v S dX8_key_95 v_X8_118 (m_gives D M9.rb hn hk hB hB2 htd hsc hr8 h200 hs) M9.1 (fun h95 hp95 => ?_) rfl rfl (by decide) (by omega) (by omega) (Nat.le_of_ble_eq_true rfl)
      have M95 := M9.tr hp95
      refine k_aload_n S dX8_key_98 rfl ?_
      refine k_getf S dX8_key_99 f_X8_146 M95.1 (by rfl) ?_
      refine k_aload_n S dX8_key_102 rfl ?_
      refine k_getf S dX8_key_103 f_X8_29 M95.1 (by rfl) ?_
      refine k_iload_n S dX8_key_106 rfl ?_
      refine k_iaload S dX8_key_107 (M95.ld (j := 5) rfl rfl) (by omega) ?_
      rw [es, hu]
      refine k_isub S dX8_key_108 ?_
      refine k_aload_n S dX8_key_109 rfl ?_
      refine k_getf S dX8_key_110 f_X8_97 M95.1 (by rfl) ?_
      refine k_iadd S dX8_key_113 ?_
      refine k_bipush S dX8_key_114 ?_
      refine k_icmp_le (tgt := 121) S dX8_key_116 (by decide) (by omega) (by omega) (fun c116 => ?_) (fun c116 => ?_)
      · omega
      · refine k_iconst S dX8_key_119 ?_
        exact k_ireturn S dX8_key_120 ⟨rfl, M95⟩ (by omega) (by omega)
    · omega
  have loop : ∀ (d k : Nat) (h5 : GH), k + d = m → IsM h h5 mo am [gI (0), gI sn, gI td, gI ((n : Nat)), gI ((a : Nat)), gI ((m : Nat)), gI ld, gI ls, gI wl, gI wc, gI ws, gI ex, gI kp, gI la, gL sv, gI cu] [tg, kd, tx, wa, ou, le, pn, on, ot, (shM sp k a 1), wp, op, fw, of, sc] → K 35 [some (gR (some mo)), some (gI c), some (gI k)] [] h5 0 0 := by
    intro d
    induction d with
    | zero =>
      intro k h5 hk M5
      have ek : k = m := by omega
      subst ek
      refine k_iload_n S dX8_key_35 rfl ?_
      refine k_aload_n S dX8_key_36 rfl ?_
      refine k_getf S dX8_key_37 f_X8_149 M5.1 (by rfl) ?_
      refine k_icmp_ge (tgt := 72) S dX8_key_40 (by decide) (by omega) (by omega) (fun c40 => ?_) (fun c40 => ?_)
      · refine k_aload_n S dX8_key_72 rfl ?_
        refine k_iload_n S dX8_key_73 rfl ?_
        refine k_callV_v S dX8_key_74 v_X8_170 (m_insert D M5.rb hx hc (by omega)) M5.1 (fun h74 hp74 => ?_) rfl rfl (by decide) (by omega) (by omega) (Nat.le_of_ble_eq_true rfl)
        have M74 := M5.tr hp74
        refine k_aload_n S dX8_key_77 rfl ?_
        refine k_iconst S dX8_key_78 ?_
        refine k_mput S dX8_key_79 f_X8_183 M74 (gfit_bool (by omega)) (Nat.le_of_ble_eq_true rfl) (fun h79 M79 => ?_)
        simp only [List.set_cons_succ, List.set_cons_zero] at M79
        refine k_aload_n S dX8_key_82 rfl ?_
        refine k_callV_r S dX8_key_83 v_X8_142 (m_matching D M79.rb hn hT hg hx1 (by omega)) M79.1 (fun h83 hp83 => ?_) rfl rfl (by decide) (by omega) (by omega) (Nat.le_of_ble_eq_true rfl)
        rw [hp83]
        refine k_istore_n S dX8_key_86 (by decide) ?_
        exact at87 _ M79
      · omega
    | succ d ih =>
      intro k h5 hk M5
      have e1 : ((k : Nat) : Int).toNat = k := by omega
      have r1 := hZ k (by omega)
      unfold inR at r1
      refine k_iload_n S dX8_key_35 rfl ?_
      refine k_aload_n S dX8_key_36 rfl ?_
      refine k_getf S dX8_key_37 f_X8_149 M5.1 (by rfl) ?_
      refine k_icmp_ge (tgt := 72) S dX8_key_40 (by decide) (by omega) (by omega) (fun c40 => ?_) (fun c40 => ?_)
      · omega
      · refine k_aload_n S dX8_key_43 rfl ?_
        refine k_getf S dX8_key_44 f_X8_42 M5.1 (by rfl) ?_
        refine k_iload_n S dX8_key_47 rfl ?_
        refine k_iaload S dX8_key_48 (M5.ld (j := 9) rfl rfl) (by omega) ?_
        rw [e1, shM_at]
        refine k_aload_n S dX8_key_49 rfl ?_
        refine k_getf S dX8_key_50 f_X8_136 M5.1 (by rfl) ?_
        refine k_icmp_lt (tgt := 66) S dX8_key_53 (by decide) (by omega) (by omega) (fun c53 => ?_) (fun c53 => ?_)
        · refine k_iinc S dX8_key_66 rfl (by decide) ?_
          refine k_goto (tgt := 35) S dX8_key_69 (by decide) ?_
          exact ih (k + 1) h5 (by omega) (by rw [← shM_f (by omega)]; exact M5)
        · refine k_aload_n S dX8_key_56 rfl ?_
          refine k_getf S dX8_key_57 f_X8_42 M5.1 (by rfl) ?_
          refine k_iload_n S dX8_key_60 rfl ?_
          refine k_dup2 S dX8_key_61 ?_
          refine k_iaload S dX8_key_62 (M5.ld (j := 9) rfl rfl) (by omega) ?_
          rw [e1, shM_at]
          refine k_iconst S dX8_key_63 ?_
          refine k_iadd S dX8_key_64 ?_
          refine k_mist (j := 9) S dX8_key_65 M5 rfl rfl (by omega) (fun h65 M65 => ?_)
          simp only [List.set_cons_succ, List.set_cons_zero] at M65
          rw [e1, shM_t (by omega)] at M65
          refine k_iinc S dX8_key_66 rfl (by decide) ?_
          refine k_goto (tgt := 35) S dX8_key_69 (by decide) ?_
          exact ih (k + 1) h65 (by omega) M65
  refine k_iload_n S dX8_key_0 rfl ?_
  refine k_callS_r S dX8_key_1 s_X8_83 (m_canType D hc) (fun h1 hp1 => ?_) rfl rfl (by decide) (by omega) (by omega) (Nat.le_of_ble_eq_true rfl)
  rw [hp1, b01_t hc2]
  refine k_if_ne (tgt := 13) S dX8_key_4 (by decide) (by omega) (fun c4 => ?_) (fun c4 => ?_)
  · refine k_aload_n S dX8_key_13 rfl ?_
    refine k_getf S dX8_key_14 f_X8_146 hM.1 (by rfl) ?_
    refine k_bipush S dX8_key_17 ?_
    refine k_icmp_ne (tgt := 28) S dX8_key_19 (by decide) (by omega) (by omega) (fun c19 => ?_) (fun c19 => ?_)
    · refine k_aload_n S dX8_key_28 rfl ?_
      refine k_iconst S dX8_key_29 ?_
      refine k_mput S dX8_key_30 f_X8_61 hM (gfit_int _) (Nat.le_of_ble_eq_true rfl) (fun h30 M30 => ?_)
      simp only [List.set_cons_succ, List.set_cons_zero] at M30
      refine k_iconst S dX8_key_33 ?_
      refine k_istore_n S dX8_key_34 (by decide) ?_
      exact loop m 0 h30 (by omega) (by rw [shM_0]; exact M30)
    · omega
  · omega
theorem dg_ok (y : Nat) : ∀ x ∈ digits y, 48 ≤ x ∧ x ≤ 57 := by
  induction y using Nat.strongRecOn with
  | _ y ih =>
    intro x hx
    rw [digits] at hx
    split at hx
    · rcases List.mem_singleton.mp hx with rfl; omega
    · rcases List.mem_append.mp hx with h | h
      · exact ih (y / 10) (by omega) x h
      · rcases List.mem_singleton.mp h with rfl; omega
theorem dateT_ok (day : Nat) (fo : Int) : ∀ x ∈ dateT day fo, 0 ≤ x ∧ x < 65536 := by
  intro x hx
  unfold dateT at hx
  have dg : ∀ y, x ∈ digits y → 0 ≤ x ∧ x < 65536 := fun y h => by have := dg_ok y x h; omega
  split at hx
  · exact dg _ hx
  · split at hx
    · have hd := Nat.mod_lt day (show 0 < 7 by omega)
      rcases List.mem_cons.mp hx with rfl | hx
      · exact (wkc_ok _ (by omega)).2
      · rcases List.mem_singleton.mp hx with rfl
        exact (wkc_ok _ (by omega)).2
    · rcases List.mem_append.mp hx with h | h
      · rcases List.mem_append.mp h with h | h
        · exact dg _ h
        · rcases List.mem_singleton.mp h with rfl; omega
      · exact dg _ h
def lyP (w : List Int × List Int) : Prop := (∀ x ∈ w.1, 0 ≤ x ∧ x < 65536) ∧ ∀ x ∈ w.2, 0 ≤ x ∧ x ≤ w.1.length
theorem lyP_app {c s l : List Int} (h : lyP (c, s)) (hl : ∀ x ∈ l, 0 ≤ x ∧ x < 65536) : lyP (c ++ l, s) := by
  obtain ⟨h1, h2⟩ := h
  dsimp only at h1 h2
  refine ⟨fun x hx => (List.mem_append.mp hx).elim (h1 x) (hl x), fun x hx => ?_⟩
  have := h2 x hx
  simp only [List.length_append]
  omega
theorem lyR_inv {G : Nat → List Int × List Int → List Int × List Int} : ∀ n p w, (∀ q, p ≤ q → q < p + n → ∀ w, lyP w → lyP (G q w)) → lyP w → lyP (lyR G n p w)
  | 0, _, _, _, h => h
  | n + 1, p, w, hg, h => lyR_inv n (p + 1) (G p w) (fun q h1 h2 => hg q (by omega) (by omega)) (hg p (by omega) (by omega) w h)
theorem lyF_inv {pn kd on ot sc : Nat → Int} {sn td : Int} {rk : Nat → Nat} (hB : BOk sn pn kd on ot rk) (hB2 : BOk2 sn pn kd on ot) : ∀ (f s : Nat), (s : Int) < sn → ∀ w : List Int × List Int, lyP w → lyP (lyF pn kd on ot sc td f s w)
  | 0, _, _, _, h => h
  | f + 1, s, hs, w, h => by
    unfold lyF
    refine lyR_inv _ _ _ (fun q h1 h2 w hw => ?_) h
    obtain ⟨⟨p0, p1⟩, hb⟩ := hB s hs
    obtain ⟨b1, b2⟩ := hb q h1 (by omega)
    obtain ⟨b3, b4⟩ := hB2 s hs q h1 (by omega)
    by_cases e1 : kd q = 99
    · rw [if_pos e1]
      exact lyP_app hw (fun x hx => by rcases List.mem_singleton.mp hx with rfl; exact b3 e1)
    rw [if_neg e1]
    by_cases e2 : kd q = 115
    · obtain ⟨o1, o2, -⟩ := b1 (Or.inl e2)
      rw [if_pos e2]
      exact lyF_inv hB hB2 f _ (by omega) w hw
    rw [if_neg e2]
    by_cases e3 : kd q = 111
    · obtain ⟨o1, o2, -⟩ := b1 (Or.inr e3)
      obtain ⟨o3, o4, -⟩ := b2 e3
      rw [if_pos e3]
      by_cases e4 : sc s = 0
      · rw [if_pos e4]; exact lyF_inv hB hB2 f _ (by omega) w hw
      · rw [if_neg e4]; exact lyF_inv hB hB2 f _ (by omega) w hw
    rw [if_neg e3]
    by_cases e4 : kd q = 100
    · rw [if_pos e4]
      exact lyP_app hw (dateT_ok _ _)
    · rw [if_neg e4]
      refine ⟨hw.1, fun x hx => ?_⟩
      rcases List.mem_append.mp hx with h | h
      · exact hw.2 x h
      · rcases List.mem_singleton.mp h with rfl
        dsimp only
        omega
theorem lyF_ok {pn kd on ot sc : Nat → Int} {sn td : Int} {rk : Nat → Nat} (hB : BOk sn pn kd on ot rk) (hB2 : BOk2 sn pn kd on ot) (htd : 99 ≤ td ∧ td ≤ 9999) (f s : Nat) (hs : (s : Int) < sn) (w : List Int × List Int) (h1 : ∀ x ∈ w.1, 0 ≤ x ∧ x < 65536) (h2 : ∀ x ∈ w.2, 0 ≤ x ∧ x ≤ w.1.length) : (∀ x ∈ (lyF pn kd on ot sc td f s w).1, 0 ≤ x ∧ x < 65536) ∧ (∀ x ∈ (lyF pn kd on ot sc td f s w).2, 0 ≤ x ∧ x ≤ (lyF pn kd on ot sc td f s w).1.length) := lyF_inv hB hB2 f s hs w ⟨h1, h2⟩
/-- key, expanded -/
theorem m_key_e (D : DD) {h : GH} (hM : IsM h h mo am [gI th, gI sn, gI td, gI ((n : Nat)), gI ((a : Nat)), gI ((m : Nat)), gI ld, gI ls, gI wl, gI wc, gI ws, gI ex, gI kp, gI la, gL sv, gI cu] [tg, kd, tx, wa, ou, le, pn, on, ot, sp, wp, op, fw, of, sc]) {c : Int} (hc : 0 ≤ c ∧ c < 65536) (hc2 : canT c) (hn8 : n < 80) (ha : a ≤ n) (hm : m ≤ 400) (hx : allC tx) (hZ : ∀ q, q < m → inR (sp q)) (hn : 0 ≤ sn ∧ sn ≤ 8) (hT : TOk sn le of fw) (hg : allC tg) {rk : Nat → Nat} (hk : allC kd) (hB : BOk sn pn kd on ot rk) (hB2 : BOk2 sn pn kd on ot) (htd : 99 ≤ td ∧ td ≤ 9999) (hsc : ∀ s : Nat, (s : Int) < sn → sc s = 0 ∨ sc s = 1) (hr8 : ∀ s, rk s < 8) (h200 : ∀ s : Nat, (s : Int) < sn → szF pn kd on ot 8 s ≤ 200) {s u : Nat} (hs : (s : Int) < sn) (hv : bsF (mtP of le tg (insM tx n a c) fw ((a + 1 : Nat))) le sn.toNat 0 (-1) = (s : Nat)) (hu : le s = (u : Nat)) (hua : u ≤ a + 1) (hroom : n + 1 - u + (lyF pn kd on ot sc td 8 s ([], [])).1.length ≤ 80) (hou : allC ou) : GMet D yX8_key cX8_key 3 (some .int) [] 18 0 0 [gR (some mo), gI c] h (pr (gI (s : Nat)) (fun h1 => ∃ TX SP : Nat → Int, IsM h h1 mo am [gI (0), gI sn, gI td, gI (((n + 1 - u + (lyF pn kd on ot sc td 8 s ([], [])).1.length : Nat))), gI (((carT (a + 1 - u) (lyF pn kd on ot sc td 8 s ([], [])).1.length (lyF pn kd on ot sc td 8 s ([], [])).2 : Nat))), gI ((((lyF pn kd on ot sc td 8 s ([], [])).2.length - 1 : Nat))), gI (((lyF pn kd on ot sc td 8 s ([], [])).1.length : Nat)), gI (((lyF pn kd on ot sc td 8 s ([], [])).2.length : Nat)), gI (((n + 1 : Nat))), gI (((a + 1 : Nat))), gI ((m : Nat)), gI (ex + 1), gI (kp + 1), gI (((lyF pn kd on ot sc td 8 s ([], [])).1.length : Nat) - le s), gL (sv + (((lyF pn kd on ot sc td 8 s ([], [])).1.length : Nat) - le s)), gI (1)] [tg, kd, TX, (cpM (insM tx n a c) wa (n + 1)), (wrF ou 0 (lyF pn kd on ot sc td 8 s ([], [])).1), le, pn, on, ot, SP, (cpM (shM sp m a 1) wp m), (wrF op 0 (lyF pn kd on ot sc td 8 s ([], [])).2), fw, of, sc] ∧ (∀ q, q < n + 1 - u + (lyF pn kd on ot sc td 8 s ([], [])).1.length → TX q = splT (insM tx n a c) (a + 1 - u) u (lyF pn kd on ot sc td 8 s ([], [])).1 (lyF pn kd on ot sc td 8 s ([], [])).1.length q) ∧ (∀ q, q < (lyF pn kd on ot sc td 8 s ([], [])).2.length - 1 → SP q = ((a + 1 - u : Nat) : Int) + (lyF pn kd on ot sc td 8 s ([], [])).2.getD (q + 1) 0) ∧ allC TX)) := by
  refine GMet.intro RX8 rfl (by decide) (gcats rfl) (Nat.le_of_ble_eq_true rfl) fun K KX S => ?_
  show K 0 [some _, some _, none] [] _ 0 0
  have hx1 : allC (insM tx n a c) := allC_ins hx hc
  have at87 : ∀ h9, IsM h h9 mo am [gI (0), gI sn, gI td, gI (((n + 1 : Nat))), gI (((a + 1 : Nat))), gI ((m : Nat)), gI ld, gI ls, gI wl, gI wc, gI ws, gI ex, gI kp, gI la, gL sv, gI (0)] [tg, kd, (insM tx n a c), wa, ou, le, pn, on, ot, (shM sp m a 1), wp, op, fw, of, sc] → K 87 [some (gR (some mo)), some (gI c), some (gI (bsF (mtP of le tg (insM tx n a c) fw ((a + 1 : Nat))) le sn.toNat 0 (-1)))] [] h9 0 0 := fun h9 M9 => by
    rw [hv]
    have es : ((s : Nat) : Int).toNat = s := by omega
    have ln := lyF_len (sc := sc) hB hB2 htd 8 s hs ([], [])
    dsimp only at ln
    simp only [List.length_nil] at ln
    have z2 := h200 s hs
    obtain ⟨ok1, ok2⟩ := lyF_ok (sc := sc) hB hB2 htd 8 s hs ([], []) (fun x hx => by cases hx) (fun x hx => by cases hx)
    have hcl : allC (wrF ou 0 (lyF pn kd on ot sc td 8 s ([], [])).1) := fun q => by
      unfold wrF
      by_cases e : 0 ≤ q ∧ q < 0 + (lyF pn kd on ot sc td 8 s ([], [])).1.length
      · rw [if_pos e, List.getD_eq_getElem?_getD, List.getElem?_eq_getElem (by omega)]
        exact ok1 _ (List.getElem_mem _)
      · rw [if_neg e]; exact hou q
    have w1 : ∀ q, q < (lyF pn kd on ot sc td 8 s ([], [])).1.length → wrF ou 0 (lyF pn kd on ot sc td 8 s ([], [])).1 q = (lyF pn kd on ot sc td 8 s ([], [])).1.getD q 0 := fun q hq => by rw [wrF, if_pos (by omega), Nat.sub_zero]
    have w2 : ∀ q, q < (lyF pn kd on ot sc td 8 s ([], [])).2.length → wrF op 0 (lyF pn kd on ot sc td 8 s ([], [])).2 q = (lyF pn kd on ot sc td 8 s ([], [])).2.getD q 0 := fun q hq => by rw [wrF, if_pos (by omega), Nat.sub_zero]
    have w3 : ∀ x ∈ (lyF pn kd on ot sc td 8 s ([], [])).2, 0 ≤ x ∧ x ≤ 200 := fun x hx => by have := ok2 x hx; omega
    refine k_iload_n S dX8_key_87 rfl ?_
    refine k_if_ge (tgt := 93) S dX8_key_88 (by decide) (by omega) (fun c88 => ?_) (fun c88 => ?_)
    · refine k_aload_n S dX8_key_93 rfl ?_
      refine k_iload_n S dX8_key_94 rfl ?_
      refine k_callV_v S dX8_key_95 v_X8_118 (m_gives D M9.rb hn hk hB hB2 htd hsc hr8 h200 hs) M9.1 (fun h95 hp95 => ?_) rfl rfl (by decide) (by omega) (by omega) (Nat.le_of_ble_eq_true rfl)
      have M95 := M9.tr hp95
      refine k_aload_n S dX8_key_98 rfl ?_
      refine k_getf S dX8_key_99 f_X8_146 M95.1 (by rfl) ?_
      refine k_aload_n S dX8_key_102 rfl ?_
      refine k_getf S dX8_key_103 f_X8_29 M95.1 (by rfl) ?_
      refine k_iload_n S dX8_key_106 rfl ?_
      refine k_iaload S dX8_key_107 (M95.ld (j := 5) rfl rfl) (by omega) ?_
      rw [es, hu]
      refine k_isub S dX8_key_108 ?_
      refine k_aload_n S dX8_key_109 rfl ?_
      refine k_getf S dX8_key_110 f_X8_97 M95.1 (by rfl) ?_
      refine k_iadd S dX8_key_113 ?_
      refine k_bipush S dX8_key_114 ?_
      refine k_icmp_le (tgt := 121) S dX8_key_116 (by decide) (by omega) (by omega) (fun c116 => ?_) (fun c116 => ?_)
      · refine k_aload_n S dX8_key_121 rfl ?_
        refine k_iload_n S dX8_key_122 rfl ?_
        refine k_callV_v S dX8_key_123 v_X8_187 (m_expands D M95.rb (by omega) hu hx1 hcl w1 w2 w3 (by omega) (by omega) hm (by omega)) M95.1 (fun h123 hp123 => ?_) rfl rfl (by decide) (by omega) (by omega) (Nat.le_of_ble_eq_true rfl)
        obtain ⟨TX, SP, hp123, q123⟩ := hp123
        have M123 := M95.tr hp123
        refine k_aload_n S dX8_key_126 rfl ?_
        refine k_iconst S dX8_key_127 ?_
        refine k_mput S dX8_key_128 f_X8_183 M123 (gfit_bool (by omega)) (Nat.le_of_ble_eq_true rfl) (fun h128 M128 => ?_)
        simp only [List.set_cons_succ, List.set_cons_zero] at M128
        refine k_iload_n S dX8_key_131 rfl ?_
        exact k_ireturn S dX8_key_132 ⟨rfl, TX, SP, M128, q123⟩ (by omega) (by omega)
      · omega
    · omega
  have loop : ∀ (d k : Nat) (h5 : GH), k + d = m → IsM h h5 mo am [gI (0), gI sn, gI td, gI ((n : Nat)), gI ((a : Nat)), gI ((m : Nat)), gI ld, gI ls, gI wl, gI wc, gI ws, gI ex, gI kp, gI la, gL sv, gI cu] [tg, kd, tx, wa, ou, le, pn, on, ot, (shM sp k a 1), wp, op, fw, of, sc] → K 35 [some (gR (some mo)), some (gI c), some (gI k)] [] h5 0 0 := by
    intro d
    induction d with
    | zero =>
      intro k h5 hk M5
      have ek : k = m := by omega
      subst ek
      refine k_iload_n S dX8_key_35 rfl ?_
      refine k_aload_n S dX8_key_36 rfl ?_
      refine k_getf S dX8_key_37 f_X8_149 M5.1 (by rfl) ?_
      refine k_icmp_ge (tgt := 72) S dX8_key_40 (by decide) (by omega) (by omega) (fun c40 => ?_) (fun c40 => ?_)
      · refine k_aload_n S dX8_key_72 rfl ?_
        refine k_iload_n S dX8_key_73 rfl ?_
        refine k_callV_v S dX8_key_74 v_X8_170 (m_insert D M5.rb hx hc (by omega)) M5.1 (fun h74 hp74 => ?_) rfl rfl (by decide) (by omega) (by omega) (Nat.le_of_ble_eq_true rfl)
        have M74 := M5.tr hp74
        refine k_aload_n S dX8_key_77 rfl ?_
        refine k_iconst S dX8_key_78 ?_
        refine k_mput S dX8_key_79 f_X8_183 M74 (gfit_bool (by omega)) (Nat.le_of_ble_eq_true rfl) (fun h79 M79 => ?_)
        simp only [List.set_cons_succ, List.set_cons_zero] at M79
        refine k_aload_n S dX8_key_82 rfl ?_
        refine k_callV_r S dX8_key_83 v_X8_142 (m_matching D M79.rb hn hT hg hx1 (by omega)) M79.1 (fun h83 hp83 => ?_) rfl rfl (by decide) (by omega) (by omega) (Nat.le_of_ble_eq_true rfl)
        rw [hp83]
        refine k_istore_n S dX8_key_86 (by decide) ?_
        exact at87 _ M79
      · omega
    | succ d ih =>
      intro k h5 hk M5
      have e1 : ((k : Nat) : Int).toNat = k := by omega
      have r1 := hZ k (by omega)
      unfold inR at r1
      refine k_iload_n S dX8_key_35 rfl ?_
      refine k_aload_n S dX8_key_36 rfl ?_
      refine k_getf S dX8_key_37 f_X8_149 M5.1 (by rfl) ?_
      refine k_icmp_ge (tgt := 72) S dX8_key_40 (by decide) (by omega) (by omega) (fun c40 => ?_) (fun c40 => ?_)
      · omega
      · refine k_aload_n S dX8_key_43 rfl ?_
        refine k_getf S dX8_key_44 f_X8_42 M5.1 (by rfl) ?_
        refine k_iload_n S dX8_key_47 rfl ?_
        refine k_iaload S dX8_key_48 (M5.ld (j := 9) rfl rfl) (by omega) ?_
        rw [e1, shM_at]
        refine k_aload_n S dX8_key_49 rfl ?_
        refine k_getf S dX8_key_50 f_X8_136 M5.1 (by rfl) ?_
        refine k_icmp_lt (tgt := 66) S dX8_key_53 (by decide) (by omega) (by omega) (fun c53 => ?_) (fun c53 => ?_)
        · refine k_iinc S dX8_key_66 rfl (by decide) ?_
          refine k_goto (tgt := 35) S dX8_key_69 (by decide) ?_
          exact ih (k + 1) h5 (by omega) (by rw [← shM_f (by omega)]; exact M5)
        · refine k_aload_n S dX8_key_56 rfl ?_
          refine k_getf S dX8_key_57 f_X8_42 M5.1 (by rfl) ?_
          refine k_iload_n S dX8_key_60 rfl ?_
          refine k_dup2 S dX8_key_61 ?_
          refine k_iaload S dX8_key_62 (M5.ld (j := 9) rfl rfl) (by omega) ?_
          rw [e1, shM_at]
          refine k_iconst S dX8_key_63 ?_
          refine k_iadd S dX8_key_64 ?_
          refine k_mist (j := 9) S dX8_key_65 M5 rfl rfl (by omega) (fun h65 M65 => ?_)
          simp only [List.set_cons_succ, List.set_cons_zero] at M65
          rw [e1, shM_t (by omega)] at M65
          refine k_iinc S dX8_key_66 rfl (by decide) ?_
          refine k_goto (tgt := 35) S dX8_key_69 (by decide) ?_
          exact ih (k + 1) h65 (by omega) M65
  refine k_iload_n S dX8_key_0 rfl ?_
  refine k_callS_r S dX8_key_1 s_X8_83 (m_canType D hc) (fun h1 hp1 => ?_) rfl rfl (by decide) (by omega) (by omega) (Nat.le_of_ble_eq_true rfl)
  rw [hp1, b01_t hc2]
  refine k_if_ne (tgt := 13) S dX8_key_4 (by decide) (by omega) (fun c4 => ?_) (fun c4 => ?_)
  · refine k_aload_n S dX8_key_13 rfl ?_
    refine k_getf S dX8_key_14 f_X8_146 hM.1 (by rfl) ?_
    refine k_bipush S dX8_key_17 ?_
    refine k_icmp_ne (tgt := 28) S dX8_key_19 (by decide) (by omega) (by omega) (fun c19 => ?_) (fun c19 => ?_)
    · refine k_aload_n S dX8_key_28 rfl ?_
      refine k_iconst S dX8_key_29 ?_
      refine k_mput S dX8_key_30 f_X8_61 hM (gfit_int _) (Nat.le_of_ble_eq_true rfl) (fun h30 M30 => ?_)
      simp only [List.set_cons_succ, List.set_cons_zero] at M30
      refine k_iconst S dX8_key_33 ?_
      refine k_istore_n S dX8_key_34 (by decide) ?_
      exact loop m 0 h30 (by omega) (by rw [shM_0]; exact M30)
    · omega
  · omega
end
