section
variable {mo : Nat} {am : Nat → Nat} {th sn td ln ca st ld ls wl wc ws ex kp la sv cu : Int} {tg kd tx wa ou le pn on ot sp wp op fw of sc : Nat → Int}
/-- puts, 12 parts there -/
theorem m_puts_f (D : DD) {h : GH} (hM : IsM h h mo am [gI th, gI sn, gI td, gI ln, gI ca, gI st, gI ld, gI ls, gI wl, gI wc, gI ws, gI ex, gI kp, gI la, gL sv, gI cu] [tg, kd, tx, wa, ou, le, pn, on, ot, sp, wp, op, fw, of, sc]) (hn : 0 ≤ sn ∧ sn ≤ 8) {s n : Nat} (hs : (s : Int) < sn) (hp : pn s = (n : Nat)) {so x y re : Int} (hf : n = 12) : GMet D yX8_puts cX8_puts 8 (some .int) [] 9 0 0 [gR (some mo), gI s, gI so, gI x, gI y, gI re] h (pr (gI 0) (fun h1 => IsM h h1 mo am [gI (re), gI sn, gI td, gI ln, gI ca, gI st, gI ld, gI ls, gI wl, gI wc, gI ws, gI ex, gI kp, gI la, gL sv, gI cu] [tg, kd, tx, wa, ou, le, pn, on, ot, sp, wp, op, fw, of, sc])) := by
  refine GMet.intro RX8 rfl (by decide) (gcats rfl) (Nat.le_of_ble_eq_true rfl) fun K KX S => ?_
  show K 0 [some _, some _, some _, some _, some _, some _, none, none] [] _ 0 0
  have es : ((s : Nat) : Int).toNat = s := by omega
  refine k_aload_n S dX8_puts_0 rfl ?_
  refine k_getf S dX8_puts_1 f_X8_33 hM.1 (by rfl) ?_
  refine k_iload_n S dX8_puts_4 rfl ?_
  refine k_iaload S dX8_puts_5 (hM.ld (j := 6) rfl rfl) (by omega) ?_
  rw [es, hp]
  refine k_bipush S dX8_puts_6 ?_
  refine k_icmp_ne (tgt := 18) S dX8_puts_8 (by decide) (by omega) (by omega) (fun c8 => ?_) (fun c8 => ?_)
  · omega
  · refine k_aload_n S dX8_puts_11 rfl ?_
    refine k_iload S dX8_puts_12 rfl ?_
    refine k_callV_r S dX8_puts_14 v_X8_75 (m_fail D hM) hM.1 (fun h14 hp14 => ?_) rfl rfl (by decide) (by omega) (by omega) (Nat.le_of_ble_eq_true rfl)
    exact k_ireturn S dX8_puts_17 ⟨rfl, hp14⟩ (by omega) (by omega)
/-- puts -/
theorem m_puts_g (D : DD) {h : GH} (hM : IsM h h mo am [gI th, gI sn, gI td, gI ln, gI ca, gI st, gI ld, gI ls, gI wl, gI wc, gI ws, gI ex, gI kp, gI la, gL sv, gI cu] [tg, kd, tx, wa, ou, le, pn, on, ot, sp, wp, op, fw, of, sc]) (hn : 0 ≤ sn ∧ sn ≤ 8) {s n : Nat} (hs : (s : Int) < sn) (hp : pn s = (n : Nat)) {so x y re : Int} (hf : n < 12) (hso : 0 ≤ so ∧ so < 65536) {rk : Nat → Nat} (hk : allC (gupd kd (12 * s + n) so)) (hB : BOk sn (gupd pn s ((n : Nat) + 1)) (gupd kd (12 * s + n) so) (gupd on (12 * s + n) x) (gupd ot (12 * s + n) y) rk) (hr8 : ∀ s, rk s < 8) (hR : ∀ f z : Nat, (z : Int) < sn → 0 ≤ szF (gupd pn s ((n : Nat) + 1)) (gupd kd (12 * s + n) so) (gupd on (12 * s + n) x) (gupd ot (12 * s + n) y) f z ∧ szF (gupd pn s ((n : Nat) + 1)) (gupd kd (12 * s + n) so) (gupd on (12 * s + n) x) (gupd ot (12 * s + n) y) f z < 2147483648) (hall : ∀ q : Nat, (q : Int) < sn → szF (gupd pn s ((n : Nat) + 1)) (gupd kd (12 * s + n) so) (gupd on (12 * s + n) x) (gupd ot (12 * s + n) y) 8 q ≤ 200) : GMet D yX8_puts cX8_puts 8 (some .int) [] 9 0 0 [gR (some mo), gI s, gI so, gI x, gI y, gI re] h (pr (gI ((n : Nat) + 1)) (fun h1 => IsM h h1 mo am [gI (0), gI sn, gI td, gI ln, gI ca, gI st, gI ld, gI ls, gI wl, gI wc, gI ws, gI ex, gI kp, gI la, gL sv, gI cu] [tg, (gupd kd (12 * s + n) so), tx, wa, ou, le, (gupd pn s ((n : Nat) + 1)), (gupd on (12 * s + n) x), (gupd ot (12 * s + n) y), sp, wp, op, fw, of, sc])) := by
  refine GMet.intro RX8 rfl (by decide) (gcats rfl) (Nat.le_of_ble_eq_true rfl) fun K KX S => ?_
  show K 0 [some _, some _, some _, some _, some _, some _, none, none] [] _ 0 0
  have es : ((s : Nat) : Int).toNat = s := by omega
  have ei : (12 * ((s : Nat) : Int) + (n : Nat)).toNat = 12 * s + n := by omega
  have e9 : (gupd pn s ((n : Nat) + 1)) s = (n : Nat) + 1 := gupd_s _ _ _
  have loop : ∀ (d k : Nat) (h5 : GH), k + d = sn.toNat → IsM h h5 mo am [gI th, gI sn, gI td, gI ln, gI ca, gI st, gI ld, gI ls, gI wl, gI wc, gI ws, gI ex, gI kp, gI la, gL sv, gI cu] [tg, (gupd kd (12 * s + n) so), tx, wa, ou, le, (gupd pn s ((n : Nat) + 1)), (gupd on (12 * s + n) x), (gupd ot (12 * s + n) y), sp, wp, op, fw, of, sc] → (∀ q : Nat, q < k → szF (gupd pn s ((n : Nat) + 1)) (gupd kd (12 * s + n) so) (gupd on (12 * s + n) x) (gupd ot (12 * s + n) y) 8 q ≤ 200) → K 69 [some (gR (some mo)), some (gI s), some (gI so), some (gI x), some (gI y), some (gI re), some (gI (12 * (s : Nat) + (n : Nat))), some (gI k)] [] h5 0 0 := by
    intro d
    induction d with
    | zero =>
      intro k h5 hk5 M5 hq
      refine k_iload S dX8_puts_69 rfl ?_
      refine k_aload_n S dX8_puts_71 rfl ?_
      refine k_getf S dX8_puts_72 f_X8_64 M5.1 (by rfl) ?_
      refine k_icmp_ge (tgt := 116) S dX8_puts_75 (by decide) (by omega) (by omega) (fun c75 => ?_) (fun c75 => ?_)
      · refine k_aload_n S dX8_puts_116 rfl ?_
        refine k_iconst S dX8_puts_117 ?_
        refine k_mput S dX8_puts_118 f_X8_61 M5 (gfit_int _) (Nat.le_of_ble_eq_true rfl) (fun h118 M118 => ?_)
        simp only [List.set_cons_succ, List.set_cons_zero] at M118
        refine k_aload_n S dX8_puts_121 rfl ?_
        refine k_getf S dX8_puts_122 f_X8_33 M118.1 (by rfl) ?_
        refine k_iload_n S dX8_puts_125 rfl ?_
        refine k_iaload S dX8_puts_126 (M118.ld (j := 6) rfl rfl) (by omega) ?_
        rw [es, e9]
        exact k_ireturn S dX8_puts_127 ⟨rfl, M118⟩ (by omega) (by omega)
      · omega
    | succ d ih =>
      intro k h5 hk5 M5 hq
      have r1 := hR 8 k (by omega)
      refine k_iload S dX8_puts_69 rfl ?_
      refine k_aload_n S dX8_puts_71 rfl ?_
      refine k_getf S dX8_puts_72 f_X8_64 M5.1 (by rfl) ?_
      refine k_icmp_ge (tgt := 116) S dX8_puts_75 (by decide) (by omega) (by omega) (fun c75 => ?_) (fun c75 => ?_)
      · omega
      · refine k_aload_n S dX8_puts_78 rfl ?_
        refine k_iload S dX8_puts_79 rfl ?_
        refine k_callV_r S dX8_puts_81 v_X8_86 (m_size D M5.rb hn hk hB hR 8 k (by omega) (hr8 k)) M5.1 (fun h81 hp81 => ?_) rfl rfl (by decide) (by omega) (by omega) (Nat.le_of_ble_eq_true rfl)
        rw [hp81]
        refine k_sipush S dX8_puts_84 ?_
        refine k_icmp_gt (tgt := 93) S dX8_puts_87 (by decide) (by omega) (by omega) (fun c87 => ?_) (fun c87 => ?_)
        · exact absurd (hall k (by omega)) (by omega)
        · refine k_goto (tgt := 110) S dX8_puts_90 (by decide) ?_
          refine k_iinc S dX8_puts_110 rfl (by decide) ?_
          refine k_goto (tgt := 69) S dX8_puts_113 (by decide) ?_
          refine ih (k + 1) h5 (by omega) M5 (fun q h1 => ?_)
          by_cases e : q = k
          · subst e; omega
          · exact hq q (by omega)
  refine k_aload_n S dX8_puts_0 rfl ?_
  refine k_getf S dX8_puts_1 f_X8_33 hM.1 (by rfl) ?_
  refine k_iload_n S dX8_puts_4 rfl ?_
  refine k_iaload S dX8_puts_5 (hM.ld (j := 6) rfl rfl) (by omega) ?_
  rw [es, hp]
  refine k_bipush S dX8_puts_6 ?_
  refine k_icmp_ne (tgt := 18) S dX8_puts_8 (by decide) (by omega) (by omega) (fun c8 => ?_) (fun c8 => ?_)
  · refine k_bipush S dX8_puts_18 ?_
    refine k_iload_n S dX8_puts_20 rfl ?_
    refine k_imul S dX8_puts_21 ?_
    refine k_aload_n S dX8_puts_22 rfl ?_
    refine k_getf S dX8_puts_23 f_X8_33 hM.1 (by rfl) ?_
    refine k_iload_n S dX8_puts_26 rfl ?_
    refine k_iaload S dX8_puts_27 (hM.ld (j := 6) rfl rfl) (by omega) ?_
    rw [es, hp]
    refine k_iadd S dX8_puts_28 ?_
    refine k_istore S dX8_puts_29 (by decide) ?_
    refine k_aload_n S dX8_puts_31 rfl ?_
    refine k_getf S dX8_puts_32 f_X8_17 hM.1 (by rfl) ?_
    refine k_iload S dX8_puts_35 rfl ?_
    refine k_iload_n S dX8_puts_37 rfl ?_
    refine k_mcst (j := 1) S dX8_puts_38 hM rfl rfl (by omega) (by omega) (fun h38 M38 => ?_)
    simp only [List.set_cons_succ, List.set_cons_zero] at M38
    rw [ei] at M38
    refine k_aload_n S dX8_puts_39 rfl ?_
    refine k_getf S dX8_puts_40 f_X8_36 M38.1 (by rfl) ?_
    refine k_iload S dX8_puts_43 rfl ?_
    refine k_iload_n S dX8_puts_45 rfl ?_
    refine k_mist (j := 7) S dX8_puts_46 M38 rfl rfl (by omega) (fun h46 M46 => ?_)
    simp only [List.set_cons_succ, List.set_cons_zero] at M46
    rw [ei] at M46
    refine k_aload_n S dX8_puts_47 rfl ?_
    refine k_getf S dX8_puts_48 f_X8_39 M46.1 (by rfl) ?_
    refine k_iload S dX8_puts_51 rfl ?_
    refine k_iload S dX8_puts_53 rfl ?_
    refine k_mist (j := 8) S dX8_puts_55 M46 rfl rfl (by omega) (fun h55 M55 => ?_)
    simp only [List.set_cons_succ, List.set_cons_zero] at M55
    rw [ei] at M55
    refine k_aload_n S dX8_puts_56 rfl ?_
    refine k_getf S dX8_puts_57 f_X8_33 M55.1 (by rfl) ?_
    refine k_iload_n S dX8_puts_60 rfl ?_
    refine k_dup2 S dX8_puts_61 ?_
    refine k_iaload S dX8_puts_62 (M55.ld (j := 6) rfl rfl) (by omega) ?_
    rw [es, hp]
    refine k_iconst S dX8_puts_63 ?_
    refine k_iadd S dX8_puts_64 ?_
    refine k_mist (j := 6) S dX8_puts_65 M55 rfl rfl (by omega) (fun h65 M65 => ?_)
    simp only [List.set_cons_succ, List.set_cons_zero] at M65
    rw [es] at M65
    refine k_iconst S dX8_puts_66 ?_
    refine k_istore S dX8_puts_67 (by decide) ?_
    exact loop sn.toNat 0 h65 (by omega) M65 (fun q h1 => by omega)
  · omega
/-- puts, too large -/
theorem m_puts_l (D : DD) {h : GH} (hM : IsM h h mo am [gI th, gI sn, gI td, gI ln, gI ca, gI st, gI ld, gI ls, gI wl, gI wc, gI ws, gI ex, gI kp, gI la, gL sv, gI cu] [tg, kd, tx, wa, ou, le, pn, on, ot, sp, wp, op, fw, of, sc]) (hn : 0 ≤ sn ∧ sn ≤ 8) {s n : Nat} (hs : (s : Int) < sn) (hp : pn s = (n : Nat)) {so x y re : Int} (hf : n < 12) (hso : 0 ≤ so ∧ so < 65536) {rk : Nat → Nat} (hk : allC (gupd kd (12 * s + n) so)) (hB : BOk sn (gupd pn s ((n : Nat) + 1)) (gupd kd (12 * s + n) so) (gupd on (12 * s + n) x) (gupd ot (12 * s + n) y) rk) (hr8 : ∀ s, rk s < 8) (hR : ∀ f z : Nat, (z : Int) < sn → 0 ≤ szF (gupd pn s ((n : Nat) + 1)) (gupd kd (12 * s + n) so) (gupd on (12 * s + n) x) (gupd ot (12 * s + n) y) f z ∧ szF (gupd pn s ((n : Nat) + 1)) (gupd kd (12 * s + n) so) (gupd on (12 * s + n) x) (gupd ot (12 * s + n) y) f z < 2147483648) (hbig : ∃ q : Nat, (q : Int) < sn ∧ 200 < szF (gupd pn s ((n : Nat) + 1)) (gupd kd (12 * s + n) so) (gupd on (12 * s + n) x) (gupd ot (12 * s + n) y) 8 q) : GMet D yX8_puts cX8_puts 8 (some .int) [] 9 0 0 [gR (some mo), gI s, gI so, gI x, gI y, gI re] h (pr (gI 0) (fun h1 => IsM h h1 mo am [gI (re), gI sn, gI td, gI ln, gI ca, gI st, gI ld, gI ls, gI wl, gI wc, gI ws, gI ex, gI kp, gI la, gL sv, gI cu] [tg, (gupd kd (12 * s + n) so), tx, wa, ou, le, pn, (gupd on (12 * s + n) x), (gupd ot (12 * s + n) y), sp, wp, op, fw, of, sc])) := by
  refine GMet.intro RX8 rfl (by decide) (gcats rfl) (Nat.le_of_ble_eq_true rfl) fun K KX S => ?_
  show K 0 [some _, some _, some _, some _, some _, some _, none, none] [] _ 0 0
  have eb : gupd (gupd pn s ((n : Nat) + 1)) s ((n : Nat) + 1 - 1) = pn := by
    funext q
    by_cases e : q = s
    · subst e; rw [gupd_s]; omega
    · rw [gupd_n _ _ e, gupd_n _ _ e]
  have es : ((s : Nat) : Int).toNat = s := by omega
  have ei : (12 * ((s : Nat) : Int) + (n : Nat)).toNat = 12 * s + n := by omega
  have e9 : (gupd pn s ((n : Nat) + 1)) s = (n : Nat) + 1 := gupd_s _ _ _
  have loop : ∀ (d k : Nat) (h5 : GH), k + d = sn.toNat → IsM h h5 mo am [gI th, gI sn, gI td, gI ln, gI ca, gI st, gI ld, gI ls, gI wl, gI wc, gI ws, gI ex, gI kp, gI la, gL sv, gI cu] [tg, (gupd kd (12 * s + n) so), tx, wa, ou, le, (gupd pn s ((n : Nat) + 1)), (gupd on (12 * s + n) x), (gupd ot (12 * s + n) y), sp, wp, op, fw, of, sc] → (∀ q : Nat, q < k → szF (gupd pn s ((n : Nat) + 1)) (gupd kd (12 * s + n) so) (gupd on (12 * s + n) x) (gupd ot (12 * s + n) y) 8 q ≤ 200) → K 69 [some (gR (some mo)), some (gI s), some (gI so), some (gI x), some (gI y), some (gI re), some (gI (12 * (s : Nat) + (n : Nat))), some (gI k)] [] h5 0 0 := by
    intro d
    induction d with
    | zero =>
      intro k h5 hk5 M5 hq
      obtain ⟨q, q1, q2⟩ := hbig
      exact absurd (hq q (by omega)) (by omega)
    | succ d ih =>
      intro k h5 hk5 M5 hq
      have r1 := hR 8 k (by omega)
      refine k_iload S dX8_puts_69 rfl ?_
      refine k_aload_n S dX8_puts_71 rfl ?_
      refine k_getf S dX8_puts_72 f_X8_64 M5.1 (by rfl) ?_
      refine k_icmp_ge (tgt := 116) S dX8_puts_75 (by decide) (by omega) (by omega) (fun c75 => ?_) (fun c75 => ?_)
      · omega
      · refine k_aload_n S dX8_puts_78 rfl ?_
        refine k_iload S dX8_puts_79 rfl ?_
        refine k_callV_r S dX8_puts_81 v_X8_86 (m_size D M5.rb hn hk hB hR 8 k (by omega) (hr8 k)) M5.1 (fun h81 hp81 => ?_) rfl rfl (by decide) (by omega) (by omega) (Nat.le_of_ble_eq_true rfl)
        rw [hp81]
        refine k_sipush S dX8_puts_84 ?_
        refine k_icmp_gt (tgt := 93) S dX8_puts_87 (by decide) (by omega) (by omega) (fun c87 => ?_) (fun c87 => ?_)
        · refine k_aload_n S dX8_puts_93 rfl ?_
          refine k_getf S dX8_puts_94 f_X8_33 M5.1 (by rfl) ?_
          refine k_iload_n S dX8_puts_97 rfl ?_
          refine k_dup2 S dX8_puts_98 ?_
          refine k_iaload S dX8_puts_99 (M5.ld (j := 6) rfl rfl) (by omega) ?_
          rw [es, e9]
          refine k_iconst S dX8_puts_100 ?_
          refine k_isub S dX8_puts_101 ?_
          refine k_mist (j := 6) S dX8_puts_102 M5 rfl rfl (by omega) (fun h102 M102 => ?_)
          simp only [List.set_cons_succ, List.set_cons_zero] at M102
          rw [es, eb] at M102
          refine k_aload_n S dX8_puts_103 rfl ?_
          refine k_iload S dX8_puts_104 rfl ?_
          refine k_callV_r S dX8_puts_106 v_X8_75 (m_fail D M102.rb) M102.1 (fun h106 hp106 => ?_) rfl rfl (by decide) (by omega) (by omega) (Nat.le_of_ble_eq_true rfl)
          exact k_ireturn S dX8_puts_109 ⟨rfl, M102.tr hp106⟩ (by omega) (by omega)
        · refine k_goto (tgt := 110) S dX8_puts_90 (by decide) ?_
          refine k_iinc S dX8_puts_110 rfl (by decide) ?_
          refine k_goto (tgt := 69) S dX8_puts_113 (by decide) ?_
          refine ih (k + 1) h5 (by omega) M5 (fun q h1 => ?_)
          by_cases e : q = k
          · subst e; omega
          · exact hq q (by omega)
  refine k_aload_n S dX8_puts_0 rfl ?_
  refine k_getf S dX8_puts_1 f_X8_33 hM.1 (by rfl) ?_
  refine k_iload_n S dX8_puts_4 rfl ?_
  refine k_iaload S dX8_puts_5 (hM.ld (j := 6) rfl rfl) (by omega) ?_
  rw [es, hp]
  refine k_bipush S dX8_puts_6 ?_
  refine k_icmp_ne (tgt := 18) S dX8_puts_8 (by decide) (by omega) (by omega) (fun c8 => ?_) (fun c8 => ?_)
  · refine k_bipush S dX8_puts_18 ?_
    refine k_iload_n S dX8_puts_20 rfl ?_
    refine k_imul S dX8_puts_21 ?_
    refine k_aload_n S dX8_puts_22 rfl ?_
    refine k_getf S dX8_puts_23 f_X8_33 hM.1 (by rfl) ?_
    refine k_iload_n S dX8_puts_26 rfl ?_
    refine k_iaload S dX8_puts_27 (hM.ld (j := 6) rfl rfl) (by omega) ?_
    rw [es, hp]
    refine k_iadd S dX8_puts_28 ?_
    refine k_istore S dX8_puts_29 (by decide) ?_
    refine k_aload_n S dX8_puts_31 rfl ?_
    refine k_getf S dX8_puts_32 f_X8_17 hM.1 (by rfl) ?_
    refine k_iload S dX8_puts_35 rfl ?_
    refine k_iload_n S dX8_puts_37 rfl ?_
    refine k_mcst (j := 1) S dX8_puts_38 hM rfl rfl (by omega) (by omega) (fun h38 M38 => ?_)
    simp only [List.set_cons_succ, List.set_cons_zero] at M38
    rw [ei] at M38
    refine k_aload_n S dX8_puts_39 rfl ?_
    refine k_getf S dX8_puts_40 f_X8_36 M38.1 (by rfl) ?_
    refine k_iload S dX8_puts_43 rfl ?_
    refine k_iload_n S dX8_puts_45 rfl ?_
    refine k_mist (j := 7) S dX8_puts_46 M38 rfl rfl (by omega) (fun h46 M46 => ?_)
    simp only [List.set_cons_succ, List.set_cons_zero] at M46
    rw [ei] at M46
    refine k_aload_n S dX8_puts_47 rfl ?_
    refine k_getf S dX8_puts_48 f_X8_39 M46.1 (by rfl) ?_
    refine k_iload S dX8_puts_51 rfl ?_
    refine k_iload S dX8_puts_53 rfl ?_
    refine k_mist (j := 8) S dX8_puts_55 M46 rfl rfl (by omega) (fun h55 M55 => ?_)
    simp only [List.set_cons_succ, List.set_cons_zero] at M55
    rw [ei] at M55
    refine k_aload_n S dX8_puts_56 rfl ?_
    refine k_getf S dX8_puts_57 f_X8_33 M55.1 (by rfl) ?_
    refine k_iload_n S dX8_puts_60 rfl ?_
    refine k_dup2 S dX8_puts_61 ?_
    refine k_iaload S dX8_puts_62 (M55.ld (j := 6) rfl rfl) (by omega) ?_
    rw [es, hp]
    refine k_iconst S dX8_puts_63 ?_
    refine k_iadd S dX8_puts_64 ?_
    refine k_mist (j := 6) S dX8_puts_65 M55 rfl rfl (by omega) (fun h65 M65 => ?_)
    simp only [List.set_cons_succ, List.set_cons_zero] at M65
    rw [es] at M65
    refine k_iconst S dX8_puts_66 ?_
    refine k_istore S dX8_puts_67 (by decide) ?_
    exact loop sn.toNat 0 h65 (by omega) M65 (fun q h1 => by omega)
  · omega
/-- putCharacter, no such snippet -/
theorem m_putCharacter_b (D : DD) {h : GH} (hM : IsM h h mo am [gI th, gI sn, gI td, gI ln, gI ca, gI st, gI ld, gI ls, gI wl, gI wc, gI ws, gI ex, gI kp, gI la, gL sv, gI cu] [tg, kd, tx, wa, ou, le, pn, on, ot, sp, wp, op, fw, of, sc]) (hn : 0 ≤ sn ∧ sn ≤ 8) {s : Int} (hs : inR s) (hb : ¬ (0 ≤ s ∧ s < sn)) {c : Int} : GMet D yX8_putCharacter cX8_putCharacter 3 (some .int) [] 10 0 0 [gR (some mo), gI s, gI c] h (pr (gI 0) (fun h1 => IsM h h1 mo am [gI (1), gI sn, gI td, gI ln, gI ca, gI st, gI ld, gI ls, gI wl, gI wc, gI ws, gI ex, gI kp, gI la, gL sv, gI cu] [tg, kd, tx, wa, ou, le, pn, on, ot, sp, wp, op, fw, of, sc])) := by
  refine GMet.intro RX8 rfl (by decide) (gcats rfl) (Nat.le_of_ble_eq_true rfl) fun K KX S => ?_
  show K 0 [some _, some _, some _] [] _ 0 0
  refine k_aload_n S dX8_putCharacter_0 rfl ?_
  refine k_iload_n S dX8_putCharacter_1 rfl ?_
  refine k_callV_r S dX8_putCharacter_2 v_X8_79 (m_noSn_b D hM hs hn hb) hM.1 (fun h2 hp2 => ?_) rfl rfl (by decide) (by omega) (by omega) (Nat.le_of_ble_eq_true rfl)
  refine k_if_eq (tgt := 10) S dX8_putCharacter_5 (by decide) (by omega) (fun c5 => ?_) (fun c5 => ?_)
  · omega
  · refine k_iconst S dX8_putCharacter_8 ?_
    exact k_ireturn S dX8_putCharacter_9 ⟨rfl, hp2⟩ (by omega) (by omega)
/-- putCharacter, a character that cannot be typed -/
theorem m_putCharacter_c (D : DD) {h : GH} (hM : IsM h h mo am [gI th, gI sn, gI td, gI ln, gI ca, gI st, gI ld, gI ls, gI wl, gI wc, gI ws, gI ex, gI kp, gI la, gL sv, gI cu] [tg, kd, tx, wa, ou, le, pn, on, ot, sp, wp, op, fw, of, sc]) (hn : 0 ≤ sn ∧ sn ≤ 8) {s : Nat} (hs : (s : Int) < sn) {c : Int} (hc : 0 ≤ c ∧ c < 65536) (hc2 : ¬ canT c) : GMet D yX8_putCharacter cX8_putCharacter 3 (some .int) [] 10 0 0 [gR (some mo), gI s, gI c] h (pr (gI 0) (fun h1 => IsM h h1 mo am [gI (2), gI sn, gI td, gI ln, gI ca, gI st, gI ld, gI ls, gI wl, gI wc, gI ws, gI ex, gI kp, gI la, gL sv, gI cu] [tg, kd, tx, wa, ou, le, pn, on, ot, sp, wp, op, fw, of, sc])) := by
  refine GMet.intro RX8 rfl (by decide) (gcats rfl) (Nat.le_of_ble_eq_true rfl) fun K KX S => ?_
  show K 0 [some _, some _, some _] [] _ 0 0
  refine k_aload_n S dX8_putCharacter_0 rfl ?_
  refine k_iload_n S dX8_putCharacter_1 rfl ?_
  refine k_callV_r S dX8_putCharacter_2 v_X8_79 (m_noSn_g D hM hn hs) hM.1 (fun h2 hp2 => ?_) rfl rfl (by decide) (by omega) (by omega) (Nat.le_of_ble_eq_true rfl)
  refine k_if_eq (tgt := 10) S dX8_putCharacter_5 (by decide) (by omega) (fun c5 => ?_) (fun c5 => ?_)
  · refine k_iload_n S dX8_putCharacter_10 rfl ?_
    refine k_callS_r S dX8_putCharacter_11 s_X8_83 (m_canType D hc) (fun h11 hp11 => ?_) rfl rfl (by decide) (by omega) (by omega) (Nat.le_of_ble_eq_true rfl)
    rw [hp11, b01_f hc2]
    refine k_if_ne (tgt := 23) S dX8_putCharacter_14 (by decide) (by omega) (fun c14 => ?_) (fun c14 => ?_)
    · omega
    · refine k_aload_n S dX8_putCharacter_17 rfl ?_
      refine k_iconst S dX8_putCharacter_18 ?_
      refine k_callV_r S dX8_putCharacter_19 v_X8_75 (m_fail D hp2.rb) hp2.1 (fun h19 hp19 => ?_) rfl rfl (by decide) (by omega) (by omega) (Nat.le_of_ble_eq_true rfl)
      exact k_ireturn S dX8_putCharacter_22 ⟨rfl, hp2.tr hp19⟩ (by omega) (by omega)
  · omega
/-- putCharacter -/
theorem m_putCharacter_p (D : DD) {h : GH} (hM : IsM h h mo am [gI th, gI sn, gI td, gI ln, gI ca, gI st, gI ld, gI ls, gI wl, gI wc, gI ws, gI ex, gI kp, gI la, gL sv, gI cu] [tg, kd, tx, wa, ou, le, pn, on, ot, sp, wp, op, fw, of, sc]) (hn : 0 ≤ sn ∧ sn ≤ 8) {s : Nat} (hs : (s : Int) < sn) {c : Int} (hc : 0 ≤ c ∧ c < 65536) (hc2 : canT c) {r : Int} {vs1 : List GV} {As1 : List (Nat → Int)} (hP : ∀ h5 : GH, IsM h5 h5 mo am [gI (0), gI sn, gI td, gI ln, gI ca, gI st, gI ld, gI ls, gI wl, gI wc, gI ws, gI ex, gI kp, gI la, gL sv, gI cu] [tg, kd, tx, wa, ou, le, pn, on, ot, sp, wp, op, fw, of, sc] → GMet D yX8_puts cX8_puts 8 (some .int) [] 9 0 0 [gR (some mo), gI s, gI 99, gI c, gI 0, gI 3] h5 (pr (gI r) (fun h1 => IsM h5 h1 mo am vs1 As1))) : GMet D yX8_putCharacter cX8_putCharacter 3 (some .int) [] 10 0 0 [gR (some mo), gI s, gI c] h (pr (gI r) (fun h1 => IsM h h1 mo am vs1 As1)) := by
  refine GMet.intro RX8 rfl (by decide) (gcats rfl) (Nat.le_of_ble_eq_true rfl) fun K KX S => ?_
  show K 0 [some _, some _, some _] [] _ 0 0
  refine k_aload_n S dX8_putCharacter_0 rfl ?_
  refine k_iload_n S dX8_putCharacter_1 rfl ?_
  refine k_callV_r S dX8_putCharacter_2 v_X8_79 (m_noSn_g D hM hn hs) hM.1 (fun h2 hp2 => ?_) rfl rfl (by decide) (by omega) (by omega) (Nat.le_of_ble_eq_true rfl)
  refine k_if_eq (tgt := 10) S dX8_putCharacter_5 (by decide) (by omega) (fun c5 => ?_) (fun c5 => ?_)
  · refine k_iload_n S dX8_putCharacter_10 rfl ?_
    refine k_callS_r S dX8_putCharacter_11 s_X8_83 (m_canType D hc) (fun h11 hp11 => ?_) rfl rfl (by decide) (by omega) (by omega) (Nat.le_of_ble_eq_true rfl)
    rw [hp11, b01_t hc2]
    refine k_if_ne (tgt := 23) S dX8_putCharacter_14 (by decide) (by omega) (fun c14 => ?_) (fun c14 => ?_)
    · refine k_aload_n S dX8_putCharacter_23 rfl ?_
      refine k_iload_n S dX8_putCharacter_24 rfl ?_
      refine k_bipush S dX8_putCharacter_25 ?_
      refine k_iload_n S dX8_putCharacter_27 rfl ?_
      refine k_iconst S dX8_putCharacter_28 ?_
      refine k_iconst S dX8_putCharacter_29 ?_
      refine k_callV_r S dX8_putCharacter_30 v_X8_89 (hP _ hp2.rb) hp2.1 (fun h30 hp30 => ?_) rfl rfl (by decide) (by omega) (by omega) (Nat.le_of_ble_eq_true rfl)
      exact k_ireturn S dX8_putCharacter_33 ⟨rfl, hp2.tr hp30⟩ (by omega) (by omega)
    · omega
  · omega
/-- putStop, no such snippet -/
theorem m_putStop_b (D : DD) {h : GH} (hM : IsM h h mo am [gI th, gI sn, gI td, gI ln, gI ca, gI st, gI ld, gI ls, gI wl, gI wc, gI ws, gI ex, gI kp, gI la, gL sv, gI cu] [tg, kd, tx, wa, ou, le, pn, on, ot, sp, wp, op, fw, of, sc]) (hn : 0 ≤ sn ∧ sn ≤ 8) {s : Int} (hs : inR s) (hb : ¬ (0 ≤ s ∧ s < sn)) : GMet D yX8_putStop cX8_putStop 2 (some .int) [] 10 0 0 [gR (some mo), gI s] h (pr (gI 0) (fun h1 => IsM h h1 mo am [gI (1), gI sn, gI td, gI ln, gI ca, gI st, gI ld, gI ls, gI wl, gI wc, gI ws, gI ex, gI kp, gI la, gL sv, gI cu] [tg, kd, tx, wa, ou, le, pn, on, ot, sp, wp, op, fw, of, sc])) := by
  refine GMet.intro RX8 rfl (by decide) (gcats rfl) (Nat.le_of_ble_eq_true rfl) fun K KX S => ?_
  show K 0 [some _, some _] [] _ 0 0
  refine k_aload_n S dX8_putStop_0 rfl ?_
  refine k_iload_n S dX8_putStop_1 rfl ?_
  refine k_callV_r S dX8_putStop_2 v_X8_79 (m_noSn_b D hM hs hn hb) hM.1 (fun h2 hp2 => ?_) rfl rfl (by decide) (by omega) (by omega) (Nat.le_of_ble_eq_true rfl)
  refine k_if_eq (tgt := 12) S dX8_putStop_5 (by decide) (by omega) (fun c5 => ?_) (fun c5 => ?_)
  · omega
  · refine k_iconst S dX8_putStop_8 ?_
    refine k_goto (tgt := 22) S dX8_putStop_9 (by decide) ?_
    exact k_ireturn S dX8_putStop_22 ⟨rfl, hp2⟩ (by omega) (by omega)
/-- putStop -/
theorem m_putStop_p (D : DD) {h : GH} (hM : IsM h h mo am [gI th, gI sn, gI td, gI ln, gI ca, gI st, gI ld, gI ls, gI wl, gI wc, gI ws, gI ex, gI kp, gI la, gL sv, gI cu] [tg, kd, tx, wa, ou, le, pn, on, ot, sp, wp, op, fw, of, sc]) (hn : 0 ≤ sn ∧ sn ≤ 8) {s : Nat} (hs : (s : Int) < sn) {r : Int} {vs1 : List GV} {As1 : List (Nat → Int)} (hP : ∀ h5 : GH, IsM h5 h5 mo am [gI (0), gI sn, gI td, gI ln, gI ca, gI st, gI ld, gI ls, gI wl, gI wc, gI ws, gI ex, gI kp, gI la, gL sv, gI cu] [tg, kd, tx, wa, ou, le, pn, on, ot, sp, wp, op, fw, of, sc] → GMet D yX8_puts cX8_puts 8 (some .int) [] 9 0 0 [gR (some mo), gI s, gI 112, gI 0, gI 0, gI 2] h5 (pr (gI r) (fun h1 => IsM h5 h1 mo am vs1 As1))) : GMet D yX8_putStop cX8_putStop 2 (some .int) [] 10 0 0 [gR (some mo), gI s] h (pr (gI r) (fun h1 => IsM h h1 mo am vs1 As1)) := by
  refine GMet.intro RX8 rfl (by decide) (gcats rfl) (Nat.le_of_ble_eq_true rfl) fun K KX S => ?_
  show K 0 [some _, some _] [] _ 0 0
  refine k_aload_n S dX8_putStop_0 rfl ?_
  refine k_iload_n S dX8_putStop_1 rfl ?_
  refine k_callV_r S dX8_putStop_2 v_X8_79 (m_noSn_g D hM hn hs) hM.1 (fun h2 hp2 => ?_) rfl rfl (by decide) (by omega) (by omega) (Nat.le_of_ble_eq_true rfl)
  refine k_if_eq (tgt := 12) S dX8_putStop_5 (by decide) (by omega) (fun c5 => ?_) (fun c5 => ?_)
  · refine k_aload_n S dX8_putStop_12 rfl ?_
    refine k_iload_n S dX8_putStop_13 rfl ?_
    refine k_bipush S dX8_putStop_14 ?_
    refine k_iconst S dX8_putStop_16 ?_
    refine k_iconst S dX8_putStop_17 ?_
    refine k_iconst S dX8_putStop_18 ?_
    refine k_callV_r S dX8_putStop_19 v_X8_89 (hP _ hp2.rb) hp2.1 (fun h19 hp19 => ?_) rfl rfl (by decide) (by omega) (by omega) (Nat.le_of_ble_eq_true rfl)
    exact k_ireturn S dX8_putStop_22 ⟨rfl, hp2.tr hp19⟩ (by omega) (by omega)
  · omega
/-- putDate, no such snippet -/
theorem m_putDate_b (D : DD) {h : GH} (hM : IsM h h mo am [gI th, gI sn, gI td, gI ln, gI ca, gI st, gI ld, gI ls, gI wl, gI wc, gI ws, gI ex, gI kp, gI la, gL sv, gI cu] [tg, kd, tx, wa, ou, le, pn, on, ot, sp, wp, op, fw, of, sc]) (hn : 0 ≤ sn ∧ sn ≤ 8) {s : Int} (hs : inR s) (hb : ¬ (0 ≤ s ∧ s < sn)) {x fo : Int} : GMet D yX8_putDate cX8_putDate 4 (some .int) [] 10 0 0 [gR (some mo), gI s, gI x, gI fo] h (pr (gI 0) (fun h1 => IsM h h1 mo am [gI (1), gI sn, gI td, gI ln, gI ca, gI st, gI ld, gI ls, gI wl, gI wc, gI ws, gI ex, gI kp, gI la, gL sv, gI cu] [tg, kd, tx, wa, ou, le, pn, on, ot, sp, wp, op, fw, of, sc])) := by
  refine GMet.intro RX8 rfl (by decide) (gcats rfl) (Nat.le_of_ble_eq_true rfl) fun K KX S => ?_
  show K 0 [some _, some _, some _, some _] [] _ 0 0
  refine k_aload_n S dX8_putDate_0 rfl ?_
  refine k_iload_n S dX8_putDate_1 rfl ?_
  refine k_callV_r S dX8_putDate_2 v_X8_79 (m_noSn_b D hM hs hn hb) hM.1 (fun h2 hp2 => ?_) rfl rfl (by decide) (by omega) (by omega) (Nat.le_of_ble_eq_true rfl)
  refine k_if_eq (tgt := 10) S dX8_putDate_5 (by decide) (by omega) (fun c5 => ?_) (fun c5 => ?_)
  · omega
  · refine k_iconst S dX8_putDate_8 ?_
    exact k_ireturn S dX8_putDate_9 ⟨rfl, hp2⟩ (by omega) (by omega)
/-- putDate, refused -/
theorem m_putDate_x (D : DD) {h : GH} (hM : IsM h h mo am [gI th, gI sn, gI td, gI ln, gI ca, gI st, gI ld, gI ls, gI wl, gI wc, gI ws, gI ex, gI kp, gI la, gL sv, gI cu] [tg, kd, tx, wa, ou, le, pn, on, ot, sp, wp, op, fw, of, sc]) (hn : 0 ≤ sn ∧ sn ≤ 8) {s : Nat} (hs : (s : Int) < sn) {x fo : Int} (hx : inR x) (hf : 0 ≤ fo ∧ fo < 65536) (hb : ¬ ((-99 ≤ x ∧ x ≤ 99) ∧ (fo = 110 ∨ fo = 119 ∨ fo = 109))) : GMet D yX8_putDate cX8_putDate 4 (some .int) [] 10 0 0 [gR (some mo), gI s, gI x, gI fo] h (pr (gI 0) (fun h1 => IsM h h1 mo am [gI (2), gI sn, gI td, gI ln, gI ca, gI st, gI ld, gI ls, gI wl, gI wc, gI ws, gI ex, gI kp, gI la, gL sv, gI cu] [tg, kd, tx, wa, ou, le, pn, on, ot, sp, wp, op, fw, of, sc])) := by
  refine GMet.intro RX8 rfl (by decide) (gcats rfl) (Nat.le_of_ble_eq_true rfl) fun K KX S => ?_
  show K 0 [some _, some _, some _, some _] [] _ 0 0
  refine k_aload_n S dX8_putDate_0 rfl ?_
  refine k_iload_n S dX8_putDate_1 rfl ?_
  refine k_callV_r S dX8_putDate_2 v_X8_79 (m_noSn_g D hM hn hs) hM.1 (fun h2 hp2 => ?_) rfl rfl (by decide) (by omega) (by omega) (Nat.le_of_ble_eq_true rfl)
  refine k_if_eq (tgt := 10) S dX8_putDate_5 (by decide) (by omega) (fun c5 => ?_) (fun c5 => ?_)
  · refine k_iload_n S dX8_putDate_10 rfl ?_
    refine k_bipush S dX8_putDate_11 ?_
    refine k_bipush S dX8_putDate_13 ?_
    refine k_callS_r S dX8_putDate_15 s_X8_67 (m_isIn D hx (by decide) (by decide)) (fun h15 hp15 => ?_) rfl rfl (by decide) (by omega) (by omega) (Nat.le_of_ble_eq_true rfl)
    rw [hp15]
    refine k_if_eq (tgt := 39) S dX8_putDate_18 (by decide) (b01_r _) (fun c18 => ?_) (fun c18 => ?_)
    · refine k_aload_n S dX8_putDate_39 rfl ?_
      refine k_iconst S dX8_putDate_40 ?_
      refine k_callV_r S dX8_putDate_41 v_X8_75 (m_fail D hp2.rb) hp2.1 (fun h41 hp41 => ?_) rfl rfl (by decide) (by omega) (by omega) (Nat.le_of_ble_eq_true rfl)
      exact k_ireturn S dX8_putDate_44 ⟨rfl, hp2.tr hp41⟩ (by omega) (by omega)
    · have c18 := b01_n.mp c18
      refine k_iload_n S dX8_putDate_21 rfl ?_
      refine k_bipush S dX8_putDate_22 ?_
      refine k_icmp_eq (tgt := 45) S dX8_putDate_24 (by decide) (by omega) (by omega) (fun c24 => ?_) (fun c24 => ?_)
      · omega
      · refine k_iload_n S dX8_putDate_27 rfl ?_
        refine k_bipush S dX8_putDate_28 ?_
        refine k_icmp_eq (tgt := 45) S dX8_putDate_30 (by decide) (by omega) (by omega) (fun c30 => ?_) (fun c30 => ?_)
        · omega
        · refine k_iload_n S dX8_putDate_33 rfl ?_
          refine k_bipush S dX8_putDate_34 ?_
          refine k_icmp_eq (tgt := 45) S dX8_putDate_36 (by decide) (by omega) (by omega) (fun c36 => ?_) (fun c36 => ?_)
          · omega
          · refine k_aload_n S dX8_putDate_39 rfl ?_
            refine k_iconst S dX8_putDate_40 ?_
            refine k_callV_r S dX8_putDate_41 v_X8_75 (m_fail D hp2.rb) hp2.1 (fun h41 hp41 => ?_) rfl rfl (by decide) (by omega) (by omega) (Nat.le_of_ble_eq_true rfl)
            exact k_ireturn S dX8_putDate_44 ⟨rfl, hp2.tr hp41⟩ (by omega) (by omega)
  · omega
/-- putDate -/
theorem m_putDate_p (D : DD) {h : GH} (hM : IsM h h mo am [gI th, gI sn, gI td, gI ln, gI ca, gI st, gI ld, gI ls, gI wl, gI wc, gI ws, gI ex, gI kp, gI la, gL sv, gI cu] [tg, kd, tx, wa, ou, le, pn, on, ot, sp, wp, op, fw, of, sc]) (hn : 0 ≤ sn ∧ sn ≤ 8) {s : Nat} (hs : (s : Int) < sn) {x fo : Int} (hx : inR x) (hf : 0 ≤ fo ∧ fo < 65536) (hb : (-99 ≤ x ∧ x ≤ 99) ∧ (fo = 110 ∨ fo = 119 ∨ fo = 109)) {r : Int} {vs1 : List GV} {As1 : List (Nat → Int)} (hP : ∀ h5 : GH, IsM h5 h5 mo am [gI (0), gI sn, gI td, gI ln, gI ca, gI st, gI ld, gI ls, gI wl, gI wc, gI ws, gI ex, gI kp, gI la, gL sv, gI cu] [tg, kd, tx, wa, ou, le, pn, on, ot, sp, wp, op, fw, of, sc] → GMet D yX8_puts cX8_puts 8 (some .int) [] 9 0 0 [gR (some mo), gI s, gI 100, gI x, gI fo, gI 3] h5 (pr (gI r) (fun h1 => IsM h5 h1 mo am vs1 As1))) : GMet D yX8_putDate cX8_putDate 4 (some .int) [] 10 0 0 [gR (some mo), gI s, gI x, gI fo] h (pr (gI r) (fun h1 => IsM h h1 mo am vs1 As1)) := by
  refine GMet.intro RX8 rfl (by decide) (gcats rfl) (Nat.le_of_ble_eq_true rfl) fun K KX S => ?_
  show K 0 [some _, some _, some _, some _] [] _ 0 0
  refine k_aload_n S dX8_putDate_0 rfl ?_
  refine k_iload_n S dX8_putDate_1 rfl ?_
  refine k_callV_r S dX8_putDate_2 v_X8_79 (m_noSn_g D hM hn hs) hM.1 (fun h2 hp2 => ?_) rfl rfl (by decide) (by omega) (by omega) (Nat.le_of_ble_eq_true rfl)
  refine k_if_eq (tgt := 10) S dX8_putDate_5 (by decide) (by omega) (fun c5 => ?_) (fun c5 => ?_)
  · refine k_iload_n S dX8_putDate_10 rfl ?_
    refine k_bipush S dX8_putDate_11 ?_
    refine k_bipush S dX8_putDate_13 ?_
    refine k_callS_r S dX8_putDate_15 s_X8_67 (m_isIn D hx (by decide) (by decide)) (fun h15 hp15 => ?_) rfl rfl (by decide) (by omega) (by omega) (Nat.le_of_ble_eq_true rfl)
    rw [hp15, b01_t hb.1]
    refine k_if_eq (tgt := 39) S dX8_putDate_18 (by decide) (by omega) (fun c18 => ?_) (fun c18 => ?_)
    · omega
    · refine k_iload_n S dX8_putDate_21 rfl ?_
      refine k_bipush S dX8_putDate_22 ?_
      refine k_icmp_eq (tgt := 45) S dX8_putDate_24 (by decide) (by omega) (by omega) (fun c24 => ?_) (fun c24 => ?_)
      · refine k_aload_n S dX8_putDate_45 rfl ?_
        refine k_iload_n S dX8_putDate_46 rfl ?_
        refine k_bipush S dX8_putDate_47 ?_
        refine k_iload_n S dX8_putDate_49 rfl ?_
        refine k_iload_n S dX8_putDate_50 rfl ?_
        refine k_iconst S dX8_putDate_51 ?_
        refine k_callV_r S dX8_putDate_52 v_X8_89 (hP _ hp2.rb) hp2.1 (fun h52 hp52 => ?_) rfl rfl (by decide) (by omega) (by omega) (Nat.le_of_ble_eq_true rfl)
        exact k_ireturn S dX8_putDate_55 ⟨rfl, hp2.tr hp52⟩ (by omega) (by omega)
      · refine k_iload_n S dX8_putDate_27 rfl ?_
        refine k_bipush S dX8_putDate_28 ?_
        refine k_icmp_eq (tgt := 45) S dX8_putDate_30 (by decide) (by omega) (by omega) (fun c30 => ?_) (fun c30 => ?_)
        · refine k_aload_n S dX8_putDate_45 rfl ?_
          refine k_iload_n S dX8_putDate_46 rfl ?_
          refine k_bipush S dX8_putDate_47 ?_
          refine k_iload_n S dX8_putDate_49 rfl ?_
          refine k_iload_n S dX8_putDate_50 rfl ?_
          refine k_iconst S dX8_putDate_51 ?_
          refine k_callV_r S dX8_putDate_52 v_X8_89 (hP _ hp2.rb) hp2.1 (fun h52 hp52 => ?_) rfl rfl (by decide) (by omega) (by omega) (Nat.le_of_ble_eq_true rfl)
          exact k_ireturn S dX8_putDate_55 ⟨rfl, hp2.tr hp52⟩ (by omega) (by omega)
        · refine k_iload_n S dX8_putDate_33 rfl ?_
          refine k_bipush S dX8_putDate_34 ?_
          refine k_icmp_eq (tgt := 45) S dX8_putDate_36 (by decide) (by omega) (by omega) (fun c36 => ?_) (fun c36 => ?_)
          · refine k_aload_n S dX8_putDate_45 rfl ?_
            refine k_iload_n S dX8_putDate_46 rfl ?_
            refine k_bipush S dX8_putDate_47 ?_
            refine k_iload_n S dX8_putDate_49 rfl ?_
            refine k_iload_n S dX8_putDate_50 rfl ?_
            refine k_iconst S dX8_putDate_51 ?_
            refine k_callV_r S dX8_putDate_52 v_X8_89 (hP _ hp2.rb) hp2.1 (fun h52 hp52 => ?_) rfl rfl (by decide) (by omega) (by omega) (Nat.le_of_ble_eq_true rfl)
            exact k_ireturn S dX8_putDate_55 ⟨rfl, hp2.tr hp52⟩ (by omega) (by omega)
          · omega
  · omega
/-- putSnippet, no such snippet -/
theorem m_putSnippet_b1 (D : DD) {h : GH} (hM : IsM h h mo am [gI th, gI sn, gI td, gI ln, gI ca, gI st, gI ld, gI ls, gI wl, gI wc, gI ws, gI ex, gI kp, gI la, gL sv, gI cu] [tg, kd, tx, wa, ou, le, pn, on, ot, sp, wp, op, fw, of, sc]) (hn : 0 ≤ sn ∧ sn ≤ 8) {s : Int} (hs : inR s) (hb : ¬ (0 ≤ s ∧ s < sn)) {t2 : Int} : GMet D yX8_putSnippet cX8_putSnippet 3 (some .int) [] 10 0 0 [gR (some mo), gI s, gI t2] h (pr (gI 0) (fun h1 => IsM h h1 mo am [gI (1), gI sn, gI td, gI ln, gI ca, gI st, gI ld, gI ls, gI wl, gI wc, gI ws, gI ex, gI kp, gI la, gL sv, gI cu] [tg, kd, tx, wa, ou, le, pn, on, ot, sp, wp, op, fw, of, sc])) := by
  refine GMet.intro RX8 rfl (by decide) (gcats rfl) (Nat.le_of_ble_eq_true rfl) fun K KX S => ?_
  show K 0 [some _, some _, some _] [] _ 0 0
  refine k_aload_n S dX8_putSnippet_0 rfl ?_
  refine k_iload_n S dX8_putSnippet_1 rfl ?_
  refine k_callV_r S dX8_putSnippet_2 v_X8_79 (m_noSn_b D hM hs hn hb) hM.1 (fun h2 hp2 => ?_) rfl rfl (by decide) (by omega) (by omega) (Nat.le_of_ble_eq_true rfl)
  refine k_if_ne (tgt := 16) S dX8_putSnippet_5 (by decide) (by omega) (fun c5 => ?_) (fun c5 => ?_)
  · refine k_iconst S dX8_putSnippet_16 ?_
    exact k_ireturn S dX8_putSnippet_17 ⟨rfl, hp2⟩ (by omega) (by omega)
  · omega
/-- putSnippet, no such second snippet -/
theorem m_putSnippet_b2 (D : DD) {h : GH} (hM : IsM h h mo am [gI th, gI sn, gI td, gI ln, gI ca, gI st, gI ld, gI ls, gI wl, gI wc, gI ws, gI ex, gI kp, gI la, gL sv, gI cu] [tg, kd, tx, wa, ou, le, pn, on, ot, sp, wp, op, fw, of, sc]) (hn : 0 ≤ sn ∧ sn ≤ 8) {s : Nat} (hs : (s : Int) < sn) {t2 : Int} (ht : inR t2) (hb : ¬ (0 ≤ t2 ∧ t2 < sn)) : GMet D yX8_putSnippet cX8_putSnippet 3 (some .int) [] 10 0 0 [gR (some mo), gI s, gI t2] h (pr (gI 0) (fun h1 => IsM h h1 mo am [gI (1), gI sn, gI td, gI ln, gI ca, gI st, gI ld, gI ls, gI wl, gI wc, gI ws, gI ex, gI kp, gI la, gL sv, gI cu] [tg, kd, tx, wa, ou, le, pn, on, ot, sp, wp, op, fw, of, sc])) := by
  refine GMet.intro RX8 rfl (by decide) (gcats rfl) (Nat.le_of_ble_eq_true rfl) fun K KX S => ?_
  show K 0 [some _, some _, some _] [] _ 0 0
  refine k_aload_n S dX8_putSnippet_0 rfl ?_
  refine k_iload_n S dX8_putSnippet_1 rfl ?_
  refine k_callV_r S dX8_putSnippet_2 v_X8_79 (m_noSn_g D hM hn hs) hM.1 (fun h2 hp2 => ?_) rfl rfl (by decide) (by omega) (by omega) (Nat.le_of_ble_eq_true rfl)
  refine k_if_ne (tgt := 16) S dX8_putSnippet_5 (by decide) (by omega) (fun c5 => ?_) (fun c5 => ?_)
  · omega
  · refine k_aload_n S dX8_putSnippet_8 rfl ?_
    refine k_iload_n S dX8_putSnippet_9 rfl ?_
    refine k_callV_r S dX8_putSnippet_10 v_X8_79 (m_noSn_b D hp2.rb ht hn hb) hp2.1 (fun h10 hp10 => ?_) rfl rfl (by decide) (by omega) (by omega) (Nat.le_of_ble_eq_true rfl)
    refine k_if_eq (tgt := 18) S dX8_putSnippet_13 (by decide) (by omega) (fun c13 => ?_) (fun c13 => ?_)
    · omega
    · refine k_iconst S dX8_putSnippet_16 ?_
      exact k_ireturn S dX8_putSnippet_17 ⟨rfl, hp2.tr hp10⟩ (by omega) (by omega)
/-- putChoice, no such snippet -/
theorem m_putChoice_b1 (D : DD) {h : GH} (hM : IsM h h mo am [gI th, gI sn, gI td, gI ln, gI ca, gI st, gI ld, gI ls, gI wl, gI wc, gI ws, gI ex, gI kp, gI la, gL sv, gI cu] [tg, kd, tx, wa, ou, le, pn, on, ot, sp, wp, op, fw, of, sc]) (hn : 0 ≤ sn ∧ sn ≤ 8) {s : Int} (hs : inR s) (hb : ¬ (0 ≤ s ∧ s < sn)) {t2 u2 : Int} : GMet D yX8_putChoice cX8_putChoice 4 (some .int) [] 10 0 0 [gR (some mo), gI s, gI t2, gI u2] h (pr (gI 0) (fun h1 => IsM h h1 mo am [gI (1), gI sn, gI td, gI ln, gI ca, gI st, gI ld, gI ls, gI wl, gI wc, gI ws, gI ex, gI kp, gI la, gL sv, gI cu] [tg, kd, tx, wa, ou, le, pn, on, ot, sp, wp, op, fw, of, sc])) := by
  refine GMet.intro RX8 rfl (by decide) (gcats rfl) (Nat.le_of_ble_eq_true rfl) fun K KX S => ?_
  show K 0 [some _, some _, some _, some _] [] _ 0 0
  refine k_aload_n S dX8_putChoice_0 rfl ?_
  refine k_iload_n S dX8_putChoice_1 rfl ?_
  refine k_callV_r S dX8_putChoice_2 v_X8_79 (m_noSn_b D hM hs hn hb) hM.1 (fun h2 hp2 => ?_) rfl rfl (by decide) (by omega) (by omega) (Nat.le_of_ble_eq_true rfl)
  refine k_if_ne (tgt := 24) S dX8_putChoice_5 (by decide) (by omega) (fun c5 => ?_) (fun c5 => ?_)
  · refine k_iconst S dX8_putChoice_24 ?_
    exact k_ireturn S dX8_putChoice_25 ⟨rfl, hp2⟩ (by omega) (by omega)
  · omega
/-- putChoice, no such second snippet -/
theorem m_putChoice_b2 (D : DD) {h : GH} (hM : IsM h h mo am [gI th, gI sn, gI td, gI ln, gI ca, gI st, gI ld, gI ls, gI wl, gI wc, gI ws, gI ex, gI kp, gI la, gL sv, gI cu] [tg, kd, tx, wa, ou, le, pn, on, ot, sp, wp, op, fw, of, sc]) (hn : 0 ≤ sn ∧ sn ≤ 8) {s : Nat} (hs : (s : Int) < sn) {t2 u2 : Int} (ht : inR t2) (hb : ¬ (0 ≤ t2 ∧ t2 < sn)) : GMet D yX8_putChoice cX8_putChoice 4 (some .int) [] 10 0 0 [gR (some mo), gI s, gI t2, gI u2] h (pr (gI 0) (fun h1 => IsM h h1 mo am [gI (1), gI sn, gI td, gI ln, gI ca, gI st, gI ld, gI ls, gI wl, gI wc, gI ws, gI ex, gI kp, gI la, gL sv, gI cu] [tg, kd, tx, wa, ou, le, pn, on, ot, sp, wp, op, fw, of, sc])) := by
  refine GMet.intro RX8 rfl (by decide) (gcats rfl) (Nat.le_of_ble_eq_true rfl) fun K KX S => ?_
  show K 0 [some _, some _, some _, some _] [] _ 0 0
  refine k_aload_n S dX8_putChoice_0 rfl ?_
  refine k_iload_n S dX8_putChoice_1 rfl ?_
  refine k_callV_r S dX8_putChoice_2 v_X8_79 (m_noSn_g D hM hn hs) hM.1 (fun h2 hp2 => ?_) rfl rfl (by decide) (by omega) (by omega) (Nat.le_of_ble_eq_true rfl)
  refine k_if_ne (tgt := 24) S dX8_putChoice_5 (by decide) (by omega) (fun c5 => ?_) (fun c5 => ?_)
  · omega
  · refine k_aload_n S dX8_putChoice_8 rfl ?_
    refine k_iload_n S dX8_putChoice_9 rfl ?_
    refine k_callV_r S dX8_putChoice_10 v_X8_79 (m_noSn_b D hp2.rb ht hn hb) hp2.1 (fun h10 hp10 => ?_) rfl rfl (by decide) (by omega) (by omega) (Nat.le_of_ble_eq_true rfl)
    refine k_if_ne (tgt := 24) S dX8_putChoice_13 (by decide) (by omega) (fun c13 => ?_) (fun c13 => ?_)
    · refine k_iconst S dX8_putChoice_24 ?_
      exact k_ireturn S dX8_putChoice_25 ⟨rfl, hp2.tr hp10⟩ (by omega) (by omega)
    · omega
/-- putChoice, no such third snippet -/
theorem m_putChoice_b3 (D : DD) {h : GH} (hM : IsM h h mo am [gI th, gI sn, gI td, gI ln, gI ca, gI st, gI ld, gI ls, gI wl, gI wc, gI ws, gI ex, gI kp, gI la, gL sv, gI cu] [tg, kd, tx, wa, ou, le, pn, on, ot, sp, wp, op, fw, of, sc]) (hn : 0 ≤ sn ∧ sn ≤ 8) {s : Nat} (hs : (s : Int) < sn) {t : Nat} (ht : (t : Int) < sn) {u2 : Int} (hu : inR u2) (hb : ¬ (0 ≤ u2 ∧ u2 < sn)) : GMet D yX8_putChoice cX8_putChoice 4 (some .int) [] 10 0 0 [gR (some mo), gI s, gI t, gI u2] h (pr (gI 0) (fun h1 => IsM h h1 mo am [gI (1), gI sn, gI td, gI ln, gI ca, gI st, gI ld, gI ls, gI wl, gI wc, gI ws, gI ex, gI kp, gI la, gL sv, gI cu] [tg, kd, tx, wa, ou, le, pn, on, ot, sp, wp, op, fw, of, sc])) := by
  refine GMet.intro RX8 rfl (by decide) (gcats rfl) (Nat.le_of_ble_eq_true rfl) fun K KX S => ?_
  show K 0 [some _, some _, some _, some _] [] _ 0 0
  refine k_aload_n S dX8_putChoice_0 rfl ?_
  refine k_iload_n S dX8_putChoice_1 rfl ?_
  refine k_callV_r S dX8_putChoice_2 v_X8_79 (m_noSn_g D hM hn hs) hM.1 (fun h2 hp2 => ?_) rfl rfl (by decide) (by omega) (by omega) (Nat.le_of_ble_eq_true rfl)
  refine k_if_ne (tgt := 24) S dX8_putChoice_5 (by decide) (by omega) (fun c5 => ?_) (fun c5 => ?_)
  · omega
  · refine k_aload_n S dX8_putChoice_8 rfl ?_
    refine k_iload_n S dX8_putChoice_9 rfl ?_
    refine k_callV_r S dX8_putChoice_10 v_X8_79 (m_noSn_g D hp2.rb hn ht) hp2.1 (fun h10 hp10 => ?_) rfl rfl (by decide) (by omega) (by omega) (Nat.le_of_ble_eq_true rfl)
    refine k_if_ne (tgt := 24) S dX8_putChoice_13 (by decide) (by omega) (fun c13 => ?_) (fun c13 => ?_)
    · omega
    · have M10 := hp2.tr hp10
      refine k_aload_n S dX8_putChoice_16 rfl ?_
      refine k_iload_n S dX8_putChoice_17 rfl ?_
      refine k_callV_r S dX8_putChoice_18 v_X8_79 (m_noSn_b D M10.rb hu hn hb) M10.1 (fun h18 hp18 => ?_) rfl rfl (by decide) (by omega) (by omega) (Nat.le_of_ble_eq_true rfl)
      refine k_if_eq (tgt := 26) S dX8_putChoice_21 (by decide) (by omega) (fun c21 => ?_) (fun c21 => ?_)
      · omega
      · refine k_iconst S dX8_putChoice_24 ?_
        exact k_ireturn S dX8_putChoice_25 ⟨rfl, M10.tr hp18⟩ (by omega) (by omega)
/-- putSnippet, refused -/
theorem m_putSnippet_x (D : DD) {h : GH} (hM : IsM h h mo am [gI th, gI sn, gI td, gI ln, gI ca, gI st, gI ld, gI ls, gI wl, gI wc, gI ws, gI ex, gI kp, gI la, gL sv, gI cu] [tg, kd, tx, wa, ou, le, pn, on, ot, sp, wp, op, fw, of, sc]) (hn : 0 ≤ sn ∧ sn ≤ 8) {s : Nat} (hs : (s : Int) < sn) {t : Nat} (ht : (t : Int) < sn) {rk : Nat → Nat} (hk : allC kd) (hB : BOk sn pn kd on ot rk) (hr8 : ∀ s, rk s < 8) (hb : t = s ∨ goF pn kd on ot s 8 t) : GMet D yX8_putSnippet cX8_putSnippet 3 (some .int) [] 10 0 0 [gR (some mo), gI s, gI t] h (pr (gI 0) (fun h1 => IsM h h1 mo am [gI (2), gI sn, gI td, gI ln, gI ca, gI st, gI ld, gI ls, gI wl, gI wc, gI ws, gI ex, gI kp, gI la, gL sv, gI cu] [tg, kd, tx, wa, ou, le, pn, on, ot, sp, wp, op, fw, of, sc])) := by
  refine GMet.intro RX8 rfl (by decide) (gcats rfl) (Nat.le_of_ble_eq_true rfl) fun K KX S => ?_
  show K 0 [some _, some _, some _] [] _ 0 0
  refine k_aload_n S dX8_putSnippet_0 rfl ?_
  refine k_iload_n S dX8_putSnippet_1 rfl ?_
  refine k_callV_r S dX8_putSnippet_2 v_X8_79 (m_noSn_g D hM hn hs) hM.1 (fun h2 hp2 => ?_) rfl rfl (by decide) (by omega) (by omega) (Nat.le_of_ble_eq_true rfl)
  refine k_if_ne (tgt := 16) S dX8_putSnippet_5 (by decide) (by omega) (fun c5 => ?_) (fun c5 => ?_)
  · omega
  · refine k_aload_n S dX8_putSnippet_8 rfl ?_
    refine k_iload_n S dX8_putSnippet_9 rfl ?_
    refine k_callV_r S dX8_putSnippet_10 v_X8_79 (m_noSn_g D hp2.rb hn ht) hp2.1 (fun h10 hp10 => ?_) rfl rfl (by decide) (by omega) (by omega) (Nat.le_of_ble_eq_true rfl)
    refine k_if_eq (tgt := 18) S dX8_putSnippet_13 (by decide) (by omega) (fun c13 => ?_) (fun c13 => ?_)
    · have M10 := hp2.tr hp10
      refine k_iload_n S dX8_putSnippet_18 rfl ?_
      refine k_iload_n S dX8_putSnippet_19 rfl ?_
      refine k_icmp_eq (tgt := 32) S dX8_putSnippet_20 (by decide) (by omega) (by omega) (fun c20 => ?_) (fun c20 => ?_)
      · refine k_aload_n S dX8_putSnippet_32 rfl ?_
        refine k_iconst S dX8_putSnippet_33 ?_
        refine k_callV_r S dX8_putSnippet_34 v_X8_75 (m_fail D M10.rb) M10.1 (fun h34 hp34 => ?_) rfl rfl (by decide) (by omega) (by omega) (Nat.le_of_ble_eq_true rfl)
        exact k_ireturn S dX8_putSnippet_37 ⟨rfl, M10.tr hp34⟩ (by omega) (by omega)
      · refine k_aload_n S dX8_putSnippet_23 rfl ?_
        refine k_iload_n S dX8_putSnippet_24 rfl ?_
        refine k_iload_n S dX8_putSnippet_25 rfl ?_
        refine k_callV_r S dX8_putSnippet_26 v_X8_93 (m_goesTo D M10.rb hn hk hB hs 8 t ht (hr8 t)) M10.1 (fun h26 hp26 => ?_) rfl rfl (by decide) (by omega) (by omega) (Nat.le_of_ble_eq_true rfl)
        rw [hp26]
        refine k_if_eq (tgt := 38) S dX8_putSnippet_29 (by decide) (b01_r _) (fun c29 => ?_) (fun c29 => ?_)
        · exact absurd (hb.resolve_left (by omega)) (b01_0.mp c29)
        · refine k_aload_n S dX8_putSnippet_32 rfl ?_
          refine k_iconst S dX8_putSnippet_33 ?_
          refine k_callV_r S dX8_putSnippet_34 v_X8_75 (m_fail D M10.rb) M10.1 (fun h34 hp34 => ?_) rfl rfl (by decide) (by omega) (by omega) (Nat.le_of_ble_eq_true rfl)
          exact k_ireturn S dX8_putSnippet_37 ⟨rfl, M10.tr hp34⟩ (by omega) (by omega)
    · omega
/-- putSnippet -/
theorem m_putSnippet_p (D : DD) {h : GH} (hM : IsM h h mo am [gI th, gI sn, gI td, gI ln, gI ca, gI st, gI ld, gI ls, gI wl, gI wc, gI ws, gI ex, gI kp, gI la, gL sv, gI cu] [tg, kd, tx, wa, ou, le, pn, on, ot, sp, wp, op, fw, of, sc]) (hn : 0 ≤ sn ∧ sn ≤ 8) {s : Nat} (hs : (s : Int) < sn) {t : Nat} (ht : (t : Int) < sn) {rk : Nat → Nat} (hk : allC kd) (hB : BOk sn pn kd on ot rk) (hr8 : ∀ s, rk s < 8) (hb : ¬ (t = s ∨ goF pn kd on ot s 8 t)) {r : Int} {vs1 : List GV} {As1 : List (Nat → Int)} (hP : ∀ h5 : GH, IsM h5 h5 mo am [gI (0), gI sn, gI td, gI ln, gI ca, gI st, gI ld, gI ls, gI wl, gI wc, gI ws, gI ex, gI kp, gI la, gL sv, gI cu] [tg, kd, tx, wa, ou, le, pn, on, ot, sp, wp, op, fw, of, sc] → GMet D yX8_puts cX8_puts 8 (some .int) [] 9 0 0 [gR (some mo), gI s, gI 115, gI t, gI 0, gI 3] h5 (pr (gI r) (fun h1 => IsM h5 h1 mo am vs1 As1))) : GMet D yX8_putSnippet cX8_putSnippet 3 (some .int) [] 10 0 0 [gR (some mo), gI s, gI t] h (pr (gI r) (fun h1 => IsM h h1 mo am vs1 As1)) := by
  refine GMet.intro RX8 rfl (by decide) (gcats rfl) (Nat.le_of_ble_eq_true rfl) fun K KX S => ?_
  show K 0 [some _, some _, some _] [] _ 0 0
  refine k_aload_n S dX8_putSnippet_0 rfl ?_
  refine k_iload_n S dX8_putSnippet_1 rfl ?_
  refine k_callV_r S dX8_putSnippet_2 v_X8_79 (m_noSn_g D hM hn hs) hM.1 (fun h2 hp2 => ?_) rfl rfl (by decide) (by omega) (by omega) (Nat.le_of_ble_eq_true rfl)
  refine k_if_ne (tgt := 16) S dX8_putSnippet_5 (by decide) (by omega) (fun c5 => ?_) (fun c5 => ?_)
  · omega
  · refine k_aload_n S dX8_putSnippet_8 rfl ?_
    refine k_iload_n S dX8_putSnippet_9 rfl ?_
    refine k_callV_r S dX8_putSnippet_10 v_X8_79 (m_noSn_g D hp2.rb hn ht) hp2.1 (fun h10 hp10 => ?_) rfl rfl (by decide) (by omega) (by omega) (Nat.le_of_ble_eq_true rfl)
    refine k_if_eq (tgt := 18) S dX8_putSnippet_13 (by decide) (by omega) (fun c13 => ?_) (fun c13 => ?_)
    · have M10 := hp2.tr hp10
      refine k_iload_n S dX8_putSnippet_18 rfl ?_
      refine k_iload_n S dX8_putSnippet_19 rfl ?_
      refine k_icmp_eq (tgt := 32) S dX8_putSnippet_20 (by decide) (by omega) (by omega) (fun c20 => ?_) (fun c20 => ?_)
      · exact absurd (Or.inl (by omega)) hb
      · refine k_aload_n S dX8_putSnippet_23 rfl ?_
        refine k_iload_n S dX8_putSnippet_24 rfl ?_
        refine k_iload_n S dX8_putSnippet_25 rfl ?_
        refine k_callV_r S dX8_putSnippet_26 v_X8_93 (m_goesTo D M10.rb hn hk hB hs 8 t ht (hr8 t)) M10.1 (fun h26 hp26 => ?_) rfl rfl (by decide) (by omega) (by omega) (Nat.le_of_ble_eq_true rfl)
        rw [hp26]
        refine k_if_eq (tgt := 38) S dX8_putSnippet_29 (by decide) (b01_r _) (fun c29 => ?_) (fun c29 => ?_)
        · refine k_aload_n S dX8_putSnippet_38 rfl ?_
          refine k_iload_n S dX8_putSnippet_39 rfl ?_
          refine k_bipush S dX8_putSnippet_40 ?_
          refine k_iload_n S dX8_putSnippet_42 rfl ?_
          refine k_iconst S dX8_putSnippet_43 ?_
          refine k_iconst S dX8_putSnippet_44 ?_
          refine k_callV_r S dX8_putSnippet_45 v_X8_89 (hP _ M10.rb) M10.1 (fun h45 hp45 => ?_) rfl rfl (by decide) (by omega) (by omega) (Nat.le_of_ble_eq_true rfl)
          exact k_ireturn S dX8_putSnippet_48 ⟨rfl, M10.tr hp45⟩ (by omega) (by omega)
        · exact absurd (Or.inr (b01_n.mp c29)) hb
    · omega
/-- putChoice, refused -/
theorem m_putChoice_x (D : DD) {h : GH} (hM : IsM h h mo am [gI th, gI sn, gI td, gI ln, gI ca, gI st, gI ld, gI ls, gI wl, gI wc, gI ws, gI ex, gI kp, gI la, gL sv, gI cu] [tg, kd, tx, wa, ou, le, pn, on, ot, sp, wp, op, fw, of, sc]) (hn : 0 ≤ sn ∧ sn ≤ 8) {s : Nat} (hs : (s : Int) < sn) {t : Nat} (ht : (t : Int) < sn) {u : Nat} (hu : (u : Int) < sn) {rk : Nat → Nat} (hk : allC kd) (hB : BOk sn pn kd on ot rk) (hr8 : ∀ s, rk s < 8) (hb : t = s ∨ u = s ∨ goF pn kd on ot s 8 t ∨ goF pn kd on ot s 8 u) : GMet D yX8_putChoice cX8_putChoice 4 (some .int) [] 10 0 0 [gR (some mo), gI s, gI t, gI u] h (pr (gI 0) (fun h1 => IsM h h1 mo am [gI (2), gI sn, gI td, gI ln, gI ca, gI st, gI ld, gI ls, gI wl, gI wc, gI ws, gI ex, gI kp, gI la, gL sv, gI cu] [tg, kd, tx, wa, ou, le, pn, on, ot, sp, wp, op, fw, of, sc])) := by
  refine GMet.intro RX8 rfl (by decide) (gcats rfl) (Nat.le_of_ble_eq_true rfl) fun K KX S => ?_
  show K 0 [some _, some _, some _, some _] [] _ 0 0
  refine k_aload_n S dX8_putChoice_0 rfl ?_
  refine k_iload_n S dX8_putChoice_1 rfl ?_
  refine k_callV_r S dX8_putChoice_2 v_X8_79 (m_noSn_g D hM hn hs) hM.1 (fun h2 hp2 => ?_) rfl rfl (by decide) (by omega) (by omega) (Nat.le_of_ble_eq_true rfl)
  refine k_if_ne (tgt := 24) S dX8_putChoice_5 (by decide) (by omega) (fun c5 => ?_) (fun c5 => ?_)
  · omega
  · refine k_aload_n S dX8_putChoice_8 rfl ?_
    refine k_iload_n S dX8_putChoice_9 rfl ?_
    refine k_callV_r S dX8_putChoice_10 v_X8_79 (m_noSn_g D hp2.rb hn ht) hp2.1 (fun h10 hp10 => ?_) rfl rfl (by decide) (by omega) (by omega) (Nat.le_of_ble_eq_true rfl)
    refine k_if_ne (tgt := 24) S dX8_putChoice_13 (by decide) (by omega) (fun c13 => ?_) (fun c13 => ?_)
    · omega
    · have M10 := hp2.tr hp10
      refine k_aload_n S dX8_putChoice_16 rfl ?_
      refine k_iload_n S dX8_putChoice_17 rfl ?_
      refine k_callV_r S dX8_putChoice_18 v_X8_79 (m_noSn_g D M10.rb hn hu) M10.1 (fun h18 hp18 => ?_) rfl rfl (by decide) (by omega) (by omega) (Nat.le_of_ble_eq_true rfl)
      refine k_if_eq (tgt := 26) S dX8_putChoice_21 (by decide) (by omega) (fun c21 => ?_) (fun c21 => ?_)
      · have M18 := M10.tr hp18
        refine k_iload_n S dX8_putChoice_26 rfl ?_
        refine k_iload_n S dX8_putChoice_27 rfl ?_
        refine k_icmp_eq (tgt := 54) S dX8_putChoice_28 (by decide) (by omega) (by omega) (fun c28 => ?_) (fun c28 => ?_)
        · refine k_aload_n S dX8_putChoice_54 rfl ?_
          refine k_iconst S dX8_putChoice_55 ?_
          refine k_callV_r S dX8_putChoice_56 v_X8_75 (m_fail D M18.rb) M18.1 (fun h56 hp56 => ?_) rfl rfl (by decide) (by omega) (by omega) (Nat.le_of_ble_eq_true rfl)
          exact k_ireturn S dX8_putChoice_59 ⟨rfl, M18.tr hp56⟩ (by omega) (by omega)
        · refine k_iload_n S dX8_putChoice_31 rfl ?_
          refine k_iload_n S dX8_putChoice_32 rfl ?_
          refine k_icmp_eq (tgt := 54) S dX8_putChoice_33 (by decide) (by omega) (by omega) (fun c33 => ?_) (fun c33 => ?_)
          · refine k_aload_n S dX8_putChoice_54 rfl ?_
            refine k_iconst S dX8_putChoice_55 ?_
            refine k_callV_r S dX8_putChoice_56 v_X8_75 (m_fail D M18.rb) M18.1 (fun h56 hp56 => ?_) rfl rfl (by decide) (by omega) (by omega) (Nat.le_of_ble_eq_true rfl)
            exact k_ireturn S dX8_putChoice_59 ⟨rfl, M18.tr hp56⟩ (by omega) (by omega)
          · refine k_aload_n S dX8_putChoice_36 rfl ?_
            refine k_iload_n S dX8_putChoice_37 rfl ?_
            refine k_iload_n S dX8_putChoice_38 rfl ?_
            refine k_callV_r S dX8_putChoice_39 v_X8_93 (m_goesTo D M18.rb hn hk hB hs 8 t ht (hr8 t)) M18.1 (fun h39 hp39 => ?_) rfl rfl (by decide) (by omega) (by omega) (Nat.le_of_ble_eq_true rfl)
            rw [hp39]
            refine k_if_ne (tgt := 54) S dX8_putChoice_42 (by decide) (b01_r _) (fun c42 => ?_) (fun c42 => ?_)
            · refine k_aload_n S dX8_putChoice_54 rfl ?_
              refine k_iconst S dX8_putChoice_55 ?_
              refine k_callV_r S dX8_putChoice_56 v_X8_75 (m_fail D M18.rb) M18.1 (fun h56 hp56 => ?_) rfl rfl (by decide) (by omega) (by omega) (Nat.le_of_ble_eq_true rfl)
              exact k_ireturn S dX8_putChoice_59 ⟨rfl, M18.tr hp56⟩ (by omega) (by omega)
            · refine k_aload_n S dX8_putChoice_45 rfl ?_
              refine k_iload_n S dX8_putChoice_46 rfl ?_
              refine k_iload_n S dX8_putChoice_47 rfl ?_
              refine k_callV_r S dX8_putChoice_48 v_X8_93 (m_goesTo D M18.rb hn hk hB hs 8 u hu (hr8 u)) M18.1 (fun h48 hp48 => ?_) rfl rfl (by decide) (by omega) (by omega) (Nat.le_of_ble_eq_true rfl)
              rw [hp48]
              refine k_if_eq (tgt := 60) S dX8_putChoice_51 (by decide) (b01_r _) (fun c51 => ?_) (fun c51 => ?_)
              · exact absurd (((hb.resolve_left (by omega)).resolve_left (by omega)).resolve_left (b01_0.mp c42)) (b01_0.mp c51)
              · refine k_aload_n S dX8_putChoice_54 rfl ?_
                refine k_iconst S dX8_putChoice_55 ?_
                refine k_callV_r S dX8_putChoice_56 v_X8_75 (m_fail D M18.rb) M18.1 (fun h56 hp56 => ?_) rfl rfl (by decide) (by omega) (by omega) (Nat.le_of_ble_eq_true rfl)
                exact k_ireturn S dX8_putChoice_59 ⟨rfl, M18.tr hp56⟩ (by omega) (by omega)
      · omega
/-- putChoice -/
theorem m_putChoice_p (D : DD) {h : GH} (hM : IsM h h mo am [gI th, gI sn, gI td, gI ln, gI ca, gI st, gI ld, gI ls, gI wl, gI wc, gI ws, gI ex, gI kp, gI la, gL sv, gI cu] [tg, kd, tx, wa, ou, le, pn, on, ot, sp, wp, op, fw, of, sc]) (hn : 0 ≤ sn ∧ sn ≤ 8) {s : Nat} (hs : (s : Int) < sn) {t : Nat} (ht : (t : Int) < sn) {u : Nat} (hu : (u : Int) < sn) {rk : Nat → Nat} (hk : allC kd) (hB : BOk sn pn kd on ot rk) (hr8 : ∀ s, rk s < 8) (hb : ¬ (t = s ∨ u = s ∨ goF pn kd on ot s 8 t ∨ goF pn kd on ot s 8 u)) {r : Int} {vs1 : List GV} {As1 : List (Nat → Int)} (hP : ∀ h5 : GH, IsM h5 h5 mo am [gI (0), gI sn, gI td, gI ln, gI ca, gI st, gI ld, gI ls, gI wl, gI wc, gI ws, gI ex, gI kp, gI la, gL sv, gI cu] [tg, kd, tx, wa, ou, le, pn, on, ot, sp, wp, op, fw, of, sc] → GMet D yX8_puts cX8_puts 8 (some .int) [] 9 0 0 [gR (some mo), gI s, gI 111, gI t, gI u, gI 3] h5 (pr (gI r) (fun h1 => IsM h5 h1 mo am vs1 As1))) : GMet D yX8_putChoice cX8_putChoice 4 (some .int) [] 10 0 0 [gR (some mo), gI s, gI t, gI u] h (pr (gI r) (fun h1 => IsM h h1 mo am vs1 As1)) := by
  refine GMet.intro RX8 rfl (by decide) (gcats rfl) (Nat.le_of_ble_eq_true rfl) fun K KX S => ?_
  show K 0 [some _, some _, some _, some _] [] _ 0 0
  refine k_aload_n S dX8_putChoice_0 rfl ?_
  refine k_iload_n S dX8_putChoice_1 rfl ?_
  refine k_callV_r S dX8_putChoice_2 v_X8_79 (m_noSn_g D hM hn hs) hM.1 (fun h2 hp2 => ?_) rfl rfl (by decide) (by omega) (by omega) (Nat.le_of_ble_eq_true rfl)
  refine k_if_ne (tgt := 24) S dX8_putChoice_5 (by decide) (by omega) (fun c5 => ?_) (fun c5 => ?_)
  · omega
  · refine k_aload_n S dX8_putChoice_8 rfl ?_
    refine k_iload_n S dX8_putChoice_9 rfl ?_
    refine k_callV_r S dX8_putChoice_10 v_X8_79 (m_noSn_g D hp2.rb hn ht) hp2.1 (fun h10 hp10 => ?_) rfl rfl (by decide) (by omega) (by omega) (Nat.le_of_ble_eq_true rfl)
    refine k_if_ne (tgt := 24) S dX8_putChoice_13 (by decide) (by omega) (fun c13 => ?_) (fun c13 => ?_)
    · omega
    · have M10 := hp2.tr hp10
      refine k_aload_n S dX8_putChoice_16 rfl ?_
      refine k_iload_n S dX8_putChoice_17 rfl ?_
      refine k_callV_r S dX8_putChoice_18 v_X8_79 (m_noSn_g D M10.rb hn hu) M10.1 (fun h18 hp18 => ?_) rfl rfl (by decide) (by omega) (by omega) (Nat.le_of_ble_eq_true rfl)
      refine k_if_eq (tgt := 26) S dX8_putChoice_21 (by decide) (by omega) (fun c21 => ?_) (fun c21 => ?_)
      · have M18 := M10.tr hp18
        refine k_iload_n S dX8_putChoice_26 rfl ?_
        refine k_iload_n S dX8_putChoice_27 rfl ?_
        refine k_icmp_eq (tgt := 54) S dX8_putChoice_28 (by decide) (by omega) (by omega) (fun c28 => ?_) (fun c28 => ?_)
        · exact absurd (Or.inl (by omega)) hb
        · refine k_iload_n S dX8_putChoice_31 rfl ?_
          refine k_iload_n S dX8_putChoice_32 rfl ?_
          refine k_icmp_eq (tgt := 54) S dX8_putChoice_33 (by decide) (by omega) (by omega) (fun c33 => ?_) (fun c33 => ?_)
          · exact absurd (Or.inr (Or.inl (by omega))) hb
          · refine k_aload_n S dX8_putChoice_36 rfl ?_
            refine k_iload_n S dX8_putChoice_37 rfl ?_
            refine k_iload_n S dX8_putChoice_38 rfl ?_
            refine k_callV_r S dX8_putChoice_39 v_X8_93 (m_goesTo D M18.rb hn hk hB hs 8 t ht (hr8 t)) M18.1 (fun h39 hp39 => ?_) rfl rfl (by decide) (by omega) (by omega) (Nat.le_of_ble_eq_true rfl)
            rw [hp39]
            refine k_if_ne (tgt := 54) S dX8_putChoice_42 (by decide) (b01_r _) (fun c42 => ?_) (fun c42 => ?_)
            · exact absurd (Or.inr (Or.inr (Or.inl (b01_n.mp c42)))) hb
            · refine k_aload_n S dX8_putChoice_45 rfl ?_
              refine k_iload_n S dX8_putChoice_46 rfl ?_
              refine k_iload_n S dX8_putChoice_47 rfl ?_
              refine k_callV_r S dX8_putChoice_48 v_X8_93 (m_goesTo D M18.rb hn hk hB hs 8 u hu (hr8 u)) M18.1 (fun h48 hp48 => ?_) rfl rfl (by decide) (by omega) (by omega) (Nat.le_of_ble_eq_true rfl)
              rw [hp48]
              refine k_if_eq (tgt := 60) S dX8_putChoice_51 (by decide) (b01_r _) (fun c51 => ?_) (fun c51 => ?_)
              · refine k_aload_n S dX8_putChoice_60 rfl ?_
                refine k_iload_n S dX8_putChoice_61 rfl ?_
                refine k_bipush S dX8_putChoice_62 ?_
                refine k_iload_n S dX8_putChoice_64 rfl ?_
                refine k_iload_n S dX8_putChoice_65 rfl ?_
                refine k_iconst S dX8_putChoice_66 ?_
                refine k_callV_r S dX8_putChoice_67 v_X8_89 (hP _ M18.rb) M18.1 (fun h67 hp67 => ?_) rfl rfl (by decide) (by omega) (by omega) (Nat.le_of_ble_eq_true rfl)
                exact k_ireturn S dX8_putChoice_70 ⟨rfl, M18.tr hp67⟩ (by omega) (by omega)
              · exact absurd (Or.inr (Or.inr (Or.inr (b01_n.mp c51)))) hb
      · omega
end
