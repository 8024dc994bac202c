section
variable {mo : Nat} {am : Nat → Nat} {th sn td ln ca st ld ls wl wc ws ex kp la sv cu : Int} {tg kd tx wa ou le pn on ot sp wp op fw of sc : Nat → Int}
/-- puts, 12 parts there -/
theorem m_puts_f (D : DD) {h : GH} (hM : IsM h h mo am [gI th, gI sn, gI td, gI ln, gI ca, gI st, gI ld, gI ls, gI wl, gI wc, gI ws, gI ex, gI kp, gI la, gL sv, gI cu] [tg, kd, tx, wa, ou, le, pn, on, ot, sp, wp, op, fw, of, sc]) (hn : 0 ≤ sn ∧ sn ≤ 8) {s n : Nat} (hs : (s : Int) < sn) (hp : pn s = (n : Nat)) {so x y re : Int} (hf : n = 12) : GMet D yX8_puts cX8_puts 8 (some .int) [] 9 0 0 [gR (some mo), gI s, gI so, gI x, gI y, gI re] h (pr (gI 0) (fun h1 => IsM h h1 mo am [gI (re), gI sn, gI td, gI ln, gI ca, gI st, gI ld, gI ls, gI wl, gI wc, gI ws, gI ex, gI kp, gI la, gL sv, gI cu] [tg, kd, tx, wa, ou, le, pn, on, ot, sp, wp, op, fw, of, sc])) := by
  refine GMet.intro RX8 rfl (by decide) (gcats rfl) (Nat.le_of_ble_eq_true rfl) fun K KX S => ?_
  show K 0 [some _, some _, some _, some _, some _, some _, none, none] [] _ 0 0
  have es : ((s : Nat) : Int).toNat = s := by omega
  refine k_aload_n S dX8_puts_0 rfl ?_
  refine k_getf S dX8_puts_1 f_X8_33 hM.1 (by rfl) ?_
  refine k_iload_n S dX8_puts_4 rfl ?_
  refine k_iaload S dX8_puts_5 (hM.ld (j := 6) rfl rfl) (by omega) ?_
  rw [es, hp]
  refine k_bipush S dX8_puts_6 ?_
  refine k_icmp_ne (tgt := 18) S dX8_puts_8 (by decide) (by omega) (by omega) (fun c8 => ?_) (fun c8 => ?_)
  · omega
  · refine k_aload_n S dX8_puts_11 rfl ?_
    refine k_iload S dX8_puts_12 rfl ?_
    refine k_callV_r S dX8_puts_14 v_X8_75 (m_fail D hM) hM.1 (fun h14 hp14 => ?_) rfl rfl (by decide) (by omega) (by omega) (Nat.le_of_ble_eq_true rfl)
    exact k_ireturn S dX8_puts_17 ⟨rfl, hp14⟩ (by omega) (by omega)
/-- puts -/
theorem m_puts_g (D : DD) {h : GH} (hM : IsM h h mo am [gI th, gI sn, gI td, gI ln, gI ca, gI st, gI ld, gI ls, gI wl, gI wc, gI ws, gI ex, gI kp, gI la, gL sv, gI cu] [tg, kd, tx, wa, ou, le, pn, on, ot, sp, wp, op, fw, of, sc]) (hn : 0 ≤ sn ∧ sn ≤ 8) {s n : Nat} (hs : (s : Int) < sn) (hp : pn s = (n : Nat)) {so x y re : Int} (hf : n < 12) (hso : 0 ≤ so ∧ so < 65536) {rk : Nat → Nat} (hk : allC (gupd kd (12 * s + n) so)) (hB : BOk sn (gupd pn s ((n : Nat) + 1)) (gupd kd (12 * s + n) so) (gupd on (12 * s + n) x) (gupd ot (12 * s + n) y) rk) (hr8 : ∀ s, rk s < 8) (hR : ∀ f z : Nat, (z : Int) < sn → 0 ≤ szF (gupd pn s ((n : Nat) + 1)) (gupd kd (12 * s + n) so) (gupd on (12 * s + n) x) (gupd ot (12 * s + n) y) f z ∧ szF (gupd pn s ((n : Nat) + 1)) (gupd kd (12 * s + n) so) (gupd on (12 * s + n) x) (gupd ot (12 * s + n) y) f z < 2147483648) (hall : ∀ q : Nat, (q : Int) < sn → szF (gupd pn s ((n : Nat) + 1)) (gupd kd (12 * s + n) so) (gupd on (12 * s + n) x) (gupd ot (12 * s + n) y) 8 q ≤ 200) : GMet D yX8_puts cX8_puts 8 (some .int) [] 9 0 0 [gR (some mo), gI s, gI so, gI x, gI y, gI re] h (pr (gI ((n : Nat) + 1)) (fun h1 => IsM h h1 mo am [gI (0), gI sn, gI td, gI ln, gI ca, gI st, gI ld, gI ls, gI wl, gI wc, gI ws, gI ex, gI kp, gI la, gL sv, gI cu] [tg, (gupd kd (12 * s + n) so), tx, wa, ou, le, (gupd pn s ((n : Nat) + 1)), (gupd on (12 * s + n) x), (gupd ot (12 * s + n) y), sp, wp, op, fw, of, sc])) := by
  refine GMet.intro RX8 rfl (by decide) (gcats rfl) (Nat.le_of_ble_eq_true rfl) fun K KX S => ?_
  show K 0 [some _, some _, some _, some _, some _, some _, none, none] [] _ 0 0
  have es : ((s : Nat) : Int).toNat = s := by omega
  have ei : (12 * ((s : Nat) : Int) + (n : Nat)).toNat = 12 * s + n := by omega
  have e9 : (gupd pn s ((n : Nat) + 1)) s = (n : Nat) + 1 := gupd_s _ _ _
  have loop : ∀ (d k : Nat) (h5 : GH), k + d = sn.toNat → IsM h h5 mo am [gI th, gI sn, gI td, gI ln, gI ca, gI st, gI ld, gI ls, gI wl, gI wc, gI ws, gI ex, gI kp, gI la, gL sv, gI cu] [tg, (gupd kd (12 * s + n) so), tx, wa, ou, le, (gupd pn s ((n : Nat) + 1)), (gupd on (12 * s + n) x), (gupd ot (12 * s + n) y), sp, wp, op, fw, of, sc] → (∀ q : Nat, q < k → szF (gupd pn s ((n : Nat) + 1)) (gupd kd (12 * s + n) so) (gupd on (12 * s + n) x) (gupd ot (12 * s + n) y) 8 q ≤ 200) → K 69 [some (gR (some mo)), some (gI s), some (gI so), some (gI x), some (gI y), some (gI re), some (gI (12 * (s : Nat) + (n : Nat))), some (gI k)] [] h5 0 0 := by
    intro d
    induction d with
    | zero =>
      intro k h5 hk5 M5 hq
      refine k_iload S dX8_puts_69 rfl ?_
      refine k_aload_n S dX8_puts_71 rfl ?_
      refine k_getf S dX8_puts_72 f_X8_64 M5.1 (by rfl) ?_
      refine k_icmp_ge (tgt := 116) S dX8_puts_75 (by decide) (by omega) (by omega) (fun c75 => ?_) (fun c75 => ?_)
      · refine k_aload_n S dX8_puts_116 rfl ?_
        refine k_iconst S dX8_puts_117 ?_
        refine k_mput S dX8_puts_118 f_X8_61 M5 (gfit_int _) (Nat.le_of_ble_eq_true rfl) (fun h118 M118 => ?_)
        simp only [List.set_cons_succ, List.set_cons_zero] at M118
        refine k_aload_n S dX8_puts_121 rfl ?_
        refine k_getf S dX8_puts_122 f_X8_33 M118.1 (by rfl) ?_
        refine k_iload_n S dX8_puts_125 rfl ?_
        refine k_iaload S dX8_puts_126 (M118.ld (j := 6) rfl rfl) (by omega) ?_
        rw [es, e9]
        exact k_ireturn S dX8_puts_127 ⟨rfl, M118⟩ (by omega) (by omega)
      · omega
    | succ d ih =>
      intro k h5 hk5 M5 hq
      have r1 := hR 8 k (by omega)
      refine k_iload S dX8_puts_69 rfl ?_
      refine k_aload_n S dX8_puts_71 rfl ?_
      refine k_getf S dX8_puts_72 f_X8_64 M5.1 (by rfl) ?_
      refine k_icmp_ge (tgt := 116) S dX8_puts_75 (by decide) (by omega) (by omega) (fun c75 => ?_) (fun c75 => ?_)
      · omega
      · refine k_aload_n S dX8_puts_78 rfl ?_
        refine k_iload S dX8_puts_79 rfl ?_
        refine k_callV_r S dX8_puts_81 v_X8_86 (m_size D M5.rb hn hk hB hR 8 k (by omega) (hr8 k)) M5.1 (fun h81 hp81 => ?_) rfl rfl (by decide) (by omega) (by omega) (Nat.le_of_ble_eq_true rfl)
        rw [hp81]
        refine k_sipush S dX8_puts_84 ?_
        refine k_icmp_gt (tgt := 93) S dX8_puts_87 (by decide) (by omega) (by omega) (fun c87 => ?_) (fun c87 => ?_)
        · exact absurd (hall k (by omega)) (by omega)
        · refine k_goto (tgt := 110) S dX8_puts_90 (by decide) ?_
          refine k_iinc S dX8_puts_110 rfl (by decide) ?_
          refine k_goto (tgt := 69) S dX8_puts_113 (by decide) ?_
          refine ih (k + 1) h5 (by omega) M5 (fun q h1 => ?_)
          by_cases e : q = k
          · subst e; omega
          · exact hq q (by omega)
  refine k_aload_n S dX8_puts_0 rfl ?_
  refine k_getf S dX8_puts_1 f_X8_33 hM.1 (by rfl) ?_
  refine k_iload_n S dX8_puts_4 rfl ?_
  refine k_iaload S dX8_puts_5 (hM.ld (j := 6) rfl rfl) (by omega) ?_
  rw [es, hp]
  refine k_bipush S dX8_puts_6 ?_
  refine k_icmp_ne (tgt := 18) S dX8_puts_8 (by decide) (by omega) (by omega) (fun c8 => ?_) (fun c8 => ?_)
  · refine k_bipush S dX8_puts_18 ?_
    refine k_iload_n S dX8_puts_20 rfl ?_
    refine k_imul S dX8_puts_21 ?_
    refine k_aload_n S dX8_puts_22 rfl ?_
    refine k_getf S dX8_puts_23 f_X8_33 hM.1 (by rfl) ?_
    refine k_iload_n S dX8_puts_26 rfl ?_
    refine k_iaload S dX8_puts_27 (hM.ld (j := 6) rfl rfl) (by omega) ?_
    rw [es, hp]
    refine k_iadd S dX8_puts_28 ?_
    refine k_istore S dX8_puts_29 (by decide) ?_
    refine k_aload_n S dX8_puts_31 rfl ?_
    refine k_getf S dX8_puts_32 f_X8_17 hM.1 (by rfl) ?_
    refine k_iload S dX8_puts_35 rfl ?_
    refine k_iload_n S dX8_puts_37 rfl ?_
    refine k_mcst (j := 1) S dX8_puts_38 hM rfl rfl (by omega) (by omega) (fun h38 M38 => ?_)
    simp only [List.set_cons_succ, List.set_cons_zero] at M38
    rw [ei] at M38
    refine k_aload_n S dX8_puts_39 rfl ?_
    refine k_getf S dX8_puts_40 f_X8_36 M38.1 (by rfl) ?_
    refine k_iload S dX8_puts_43 rfl ?_
    refine k_iload_n S dX8_puts_45 rfl ?_
    refine k_mist (j := 7) S dX8_puts_46 M38 rfl rfl (by omega) (fun h46 M46 => ?_)
    simp only [List.set_cons_succ, List.set_cons_zero] at M46
    rw [ei] at M46
    refine k_aload_n S dX8_puts_47 rfl ?_
    refine k_getf S dX8_puts_48 f_X8_39 M46.1 (by rfl) ?_
    refine k_iload S dX8_puts_51 rfl ?_
    refine k_iload S dX8_puts_53 rfl ?_
    refine k_mist (j := 8) S dX8_puts_55 M46 rfl rfl (by omega) (fun h55 M55 => ?_)
    simp only [List.set_cons_succ, List.set_cons_zero] at M55
    rw [ei] at M55
    refine k_aload_n S dX8_puts_56 rfl ?_
    refine k_getf S dX8_puts_57 f_X8_33 M55.1 (by rfl) ?_
    refine k_iload_n S dX8_puts_60 rfl ?_
    refine k_dup2 S dX8_puts_61 ?_
    refine k_iaload S dX8_puts_62 (M55.ld (j := 6) rfl rfl) (by omega) ?_
    rw [es, hp]
    refine k_iconst S dX8_puts_63 ?_
    refine k_iadd S dX8_puts_64 ?_
    refine k_mist (j := 6) S dX8_puts_65 M55 rfl rfl (by omega) (fun h65 M65 => ?_)
    simp only [List.set_cons_succ, List.set_cons_zero] at M65
    rw [es] at M65
    refine k_iconst S dX8_puts_66 ?_
    refine k_istore S dX8_puts_67 (by decide) ?_
    exact loop sn.toNat 0 h65 (by omega) M65 (fun q h1 => by omega)
  · omega
/-- puts, too large -/
theorem m_puts_l (D : DD) {h : GH} (hM : IsM h h mo am [gI th, gI sn, gI td, gI ln, gI ca, gI st, gI ld, gI ls, gI wl, gI wc, gI ws, gI ex, gI kp, gI la, gL sv, gI cu] [tg, kd, tx, wa, ou, le, pn, on, ot, sp, wp, op, fw, of, sc]) (hn : 0 ≤ sn ∧ sn ≤ 8) {s n : Nat} (hs : (s : Int) < sn) (hp : pn s = (n : Nat)) {so x y re : Int} (hf : n < 12) (hso : 0 ≤ so ∧ so < 65536) {rk : Nat → Nat} (hk : allC (gupd kd (12 * s + n) so)) (hB : BOk sn (gupd pn s ((n : Nat) + 1)) (gupd kd (12 * s + n) so) (gupd on (12 * s + n) x) (gupd ot (12 * s + n) y) rk) (hr8 : ∀ s, rk s < 8) (hR : ∀ f z : Nat, (z : Int) < sn → 0 ≤ szF (gupd pn s ((n : Nat) + 1)) (gupd kd (12 * s + n) so) (gupd on (12 * s + n) x) (gupd ot (12 * s + n) y) f z ∧ szF (gupd pn s ((n : Nat) + 1)) (gupd kd (12 * s + n) so) (gupd on (12 * s + n) x) (gupd ot (12 * s + n) y) f z < 2147483648) (hbig : ∃ q : Nat, (q : Int) < sn ∧ 200 < szF (gupd pn s ((n : Nat) + 1)) (gupd kd (12 * s + n) so) (gupd on (12 * s + n) x) (gupd ot (12 * s + n) y) 8 q) : GMet D yX8_puts cX8_puts 8 (some .int) [] 9 0 0 [gR (some mo), gI s, gI so, gI x, gI y, gI re] h (pr (gI 0) (fun h1 => IsM h h1 mo am [gI (re), gI sn, gI td, gI ln, gI ca, gI st, gI ld, gI ls, gI wl, gI wc, gI ws, gI ex, gI kp, gI la, gL sv, gI cu] [tg, (gupd kd (12 * s + n) so), tx, wa, ou, le, pn, (gupd on (12 * s + n) x), (gupd ot (12 * s + n) y), sp, wp, op, fw, of, sc])) := by
  refine GMet.intro RX8 rfl (by decide) (gcats rfl) (Nat.le_of_ble_eq_true rfl) fun K KX S => ?_
  show K 0 [some _, some _, some _, some _, some _, some _, none, none] [] _ 0 0
  have eb : gupd (gupd pn s ((n : Nat) + 1)) s ((n : Nat) + 1 - 1) = pn := by
    funext q
    by_cases e : q = s
    · subst e; rw [gupd_s]; omega
    · rw [gupd_n _ _ e, gupd_n _ _ e]
  have es : ((s : Nat) : Int).toNat = s := by omega
  have ei : (12 * ((s : Nat) : Int) + (n : Nat)).toNat = 12 * s + n := by omega
  have e9 : (gupd pn s ((n : Nat) + 1)) s = (n : Nat) + 1 := gupd_s _ _ _
  have loop : ∀ (d k : Nat) (h5 : GH), k + d = sn.toNat → IsM h h5 mo am [gI th, gI sn, gI td, gI ln, gI ca, gI st, gI ld, gI ls, gI wl, gI wc, gI ws, gI ex, gI kp, gI la, gL sv, gI cu] [tg, (gupd kd (12 * s + n) so), tx, wa, ou, le, (gupd pn s ((n : Nat) + 1)), (gupd on (12 * s + n) x), (gupd ot (12 * s + n) y), sp, wp, op, fw, of, sc] → (∀ q : Nat, q < k → szF (gupd pn s ((n : Nat) + 1)) (gupd kd (12 * s + n) so) (gupd on (12 * s + n) x) (gupd ot (12 * s + n) y) 8 q ≤ 200) → K 69 [some (gR (some mo)), some (gI s), some (gI so), some (gI x), some (gI y), some (gI re), some (gI (12 * (s : Nat) + (n : Nat))), some (gI k)] [] h5 0 0 := by
    intro d
    induction d with
    | zero =>
      intro k h5 hk5 M5 hq
      obtain ⟨q, q1, q2⟩ := hbig
      exact absurd (hq q (by omega)) (by omega)
    | succ d ih =>
      intro k h5 hk5 M5 hq
      have r1 := hR 8 k (by omega)
      refine k_iload S dX8_puts_69 rfl ?_
      refine k_aload_n S dX8_puts_71 rfl ?_
      refine k_getf S dX8_puts_72 f_X8_64 M5.1 (by rfl) ?_
      refine k_icmp_ge (tgt := 116) S dX8_puts_75 (by decide) (by omega) (by omega) (fun c75 => ?_) (fun c75 => ?_)
      · omega
      · refine k_aload_n S dX8_puts_78 rfl ?_
        refine k_iload S dX8_puts_79 rfl ?_
        refine k_callV_r S dX8_puts_81 v_X8_86 (m_size D M5.rb hn hk hB hR 8 k (by omega) (hr8 k)) M5.1 (fun h81 hp81 => ?_) rfl rfl (by decide) (by omega) (by omega) (Nat.le_of_ble_eq_true rfl)
        rw [hp81]
        refine k_sipush S dX8_puts_84 ?_
        refine k_icmp_gt (tgt := 93) S dX8_puts_87 (by decide) (by omega) (by omega) (fun c87 => ?_) (fun c87 => ?_)
        · refine k_aload_n S dX8_puts_93 rfl ?_
          refine k_getf S dX8_puts_94 f_X8_33 M5.1 (by rfl) ?_
          refine k_iload_n S dX8_puts_97 rfl ?_
          refine k_dup2 S dX8_puts_98 ?_
          refine k_iaload S dX8_puts_99 (M5.ld (j := 6) rfl rfl) (by omega) ?_
          rw [es, e9]
          refine k_iconst S dX8_puts_100 ?_
          refine k_isub S dX8_puts_101 ?_
          refine k_mist (j := 6) S dX8_puts_102 M5 rfl rfl (by omega) (fun h102 M102 => ?_)
          simp only [List.set_cons_succ, List.set_cons_zero] at M102
          rw [es, eb] at M102
          refine k_aload_n S dX8_puts_103 rfl ?_
          refine k_iload S dX8_puts_104 rfl ?_
          refine k_callV_r S dX8_puts_106 v_X8_75 (m_fail D M102.rb) M102.1 (fun h106 hp106 => ?_) rfl rfl (by decide) (by omega) (by omega) (Nat.le_of_ble_eq_true rfl)
          exact k_ireturn S dX8_puts_109 ⟨rfl, M102.tr hp106⟩ (by omega) (by omega)
        · refine k_goto (tgt := 110) S dX8_puts_90 (by decide) ?_
          refine k_iinc S dX8_puts_110 rfl (by decide) ?_
          refine k_goto (tgt := 69) S dX8_puts_113 (by decide) ?_
          refine ih (k + 1) h5 (by omega) M5 (fun q h1 => ?_)
          by_cases e : q = k
          · subst e; omega
          · exact hq q (by omega)
  refine k_aload_n S dX8_puts_0 rfl ?_
  refine k_getf S dX8_puts_1 f_X8_33 hM.1 (by rfl) ?_
  refine k_iload_n S dX8_puts_4 rfl ?_
  refine k_iaload S dX8_puts_5 (hM.ld (j := 6) rfl rfl) (by omega) ?_
  rw [es, hp]
  refine k_bipush S dX8_puts_6 ?_
  refine k_icmp_ne (tgt := 18) S dX8_puts_8 (by decide) (by omega) (by omega) (fun c8 => ?_) (fun c8 => ?_)
  · refine k_bipush S dX8_puts_18 ?_
    refine k_iload_n S dX8_puts_20 rfl ?_
    refine k_imul S dX8_puts_21 ?_
    refine k_aload_n S dX8_puts_22 rfl ?_
    refine k_getf S dX8_puts_23 f_X8_33 hM.1 (by rfl) ?_
    refine k_iload_n S dX8_puts_26 rfl ?_
    refine k_iaload S dX8_puts_27 (hM.ld (j := 6) rfl rfl) (by omega) ?_
    rw [es, hp]
    refine k_iadd S dX8_puts_28 ?_
    refine k_istore S dX8_puts_29 (by decide) ?_
    refine k_aload_n S dX8_puts_31 rfl ?_
    refine k_getf S dX8_puts_32 f_X8_17 hM.1 (by rfl) ?_
    refine k_iload S dX8_puts_35 rfl ?_
    refine k_iload_n S dX8_puts_37 rfl ?_
    refine k_mcst (j := 1) S dX8_puts_38 hM rfl rfl (by omega) (by omega) (fun h38 M38 => ?_)
    simp only [List.set_cons_succ, List.set_cons_zero] at M38
    rw [ei] at M38
    refine k_aload_n S dX8_puts_39 rfl ?_
    refine k_getf S dX8_puts_40 f_X8_36 M38.1 (by rfl) ?_
    refine k_iload S dX8_puts_43 rfl ?_
    refine k_iload_n S dX8_puts_45 rfl ?_
    refine k_mist (j := 7) S dX8_puts_46 M38 rfl rfl (by omega) (fun h46 M46 => ?_)
    simp only [List.set_cons_succ, List.set_cons_zero] at M46
    rw [ei] at M46
    refine k_aload_n S dX8_puts_47 rfl ?_
    refine k_getf S dX8_puts_48 f_X8_39 M46.1 (by rfl) ?_
    refine k_iload S dX8_puts_51 rfl ?_
    refine k_iload S dX8_puts_53 rfl ?_
    refine k_mist (j := 8) S dX8_puts_55 M46 rfl rfl (by omega) (fun h55 M55 => ?_)
    simp only [List.set_cons_succ, List.set_cons_zero] at M55
    rw [ei] at M55
    refine k_aload_n S dX8_puts_56 rfl ?_
    refine k_getf S dX8_puts_57 f_X8_33 M55.1 (by rfl) ?_
    refine k_iload_n S dX8_puts_60 rfl ?_
    refine k_dup2 S dX8_puts_61 ?_
    refine k_iaload S dX8_puts_62 (M55.ld (j := 6) rfl rfl) (by omega) ?_
    rw [es, hp]
    refine k_iconst S dX8_puts_63 ?_
    refine k_iadd S dX8_puts_64 ?_
    refine k_mist (j := 6) S dX8_puts_65 M55 rfl rfl (by omega) (fun h65 M65 => ?_)
    simp only [List.set_cons_succ, List.set_cons_zero] at M65
    rw [es] at M65
    refine k_iconst S dX8_puts_66 ?_
    refine k_istore S dX8_puts_67 (by decide) ?_
    exact loop sn.toNat 0 h65 (by omega) M65 (fun q h1 => by omega)
  · omega
end
