/-! the model's text -/
def insM (F : Nat → Int) (n a : Nat) (c : Int) : Nat → Int := fun q => if q = a then c else if a < q ∧ q ≤ n then F (q - 1) else F q
def upM (F : Nat → Int) (n k : Nat) : Nat → Int := fun q => if k < q ∧ q ≤ n then F (q - 1) else F q
def dnM (F : Nat → Int) (a k : Nat) : Nat → Int := fun q => if a ≤ q ∧ q < k then F (q + 1) else F q
def cpM (A B : Nat → Int) (n : Nat) : Nat → Int := fun q => if q < n then A q else B q
def shM (Z : Nat → Int) (j a : Nat) (d : Int) : Nat → Int := fun q => if q < j ∧ (a : Int) ≤ Z q then Z q + d else Z q
theorem upM_step (F : Nat → Int) {n k : Nat} (hk : k + 1 ≤ n) : gupd (upM F n (k + 1)) (k + 1) (F k) = upM F n k := by
  funext q
  unfold gupd upM
  by_cases e : q = k + 1
  · subst e; rw [if_pos rfl, if_pos (by omega)]; rfl
  · rw [if_neg e]
    by_cases e2 : k + 1 < q ∧ q ≤ n
    · rw [if_pos e2, if_pos (by omega)]
    · rw [if_neg e2, if_neg (by omega)]
theorem upM_ins (F : Nat → Int) {n a : Nat} (c : Int) : gupd (upM F n a) a c = insM F n a c := by
  funext q
  unfold gupd upM insM
  rfl
theorem upM_n (F : Nat → Int) (n : Nat) : upM F n n = F := by
  funext q
  unfold upM
  rw [if_neg (by omega)]
theorem dnM_step (F : Nat → Int) {a k : Nat} (hk : a ≤ k) : gupd (dnM F a k) k (F (k + 1)) = dnM F a (k + 1) := by
  funext q
  unfold gupd dnM
  by_cases e : q = k
  · subst e; rw [if_pos rfl, if_pos (by omega)]
  · rw [if_neg e]
    by_cases e2 : a ≤ q ∧ q < k
    · rw [if_pos e2, if_pos (by omega)]
    · rw [if_neg e2, if_neg (by omega)]
theorem dnM_0 (F : Nat → Int) (a : Nat) : dnM F a a = F := by
  funext q
  unfold dnM
  rw [if_neg (by omega)]
theorem cpM_step (A B : Nat → Int) (k : Nat) : gupd (cpM A B k) k (A k) = cpM A B (k + 1) := by
  funext q
  unfold gupd cpM
  by_cases e : q = k
  · subst e; rw [if_pos rfl, if_pos (by omega)]
  · rw [if_neg e]
    by_cases e2 : q < k
    · rw [if_pos e2, if_pos (by omega)]
    · rw [if_neg e2, if_neg (by omega)]
theorem cpM_0 (A B : Nat → Int) : cpM A B 0 = B := by
  funext q
  unfold cpM
  rw [if_neg (by omega)]
theorem shM_t {Z : Nat → Int} {j a : Nat} {d : Int} (h : (a : Int) ≤ Z j) : gupd (shM Z j a d) j (Z j + d) = shM Z (j + 1) a d := by
  funext q
  unfold gupd shM
  by_cases e : q = j
  · subst e; rw [if_pos rfl, if_pos ⟨by omega, h⟩]
  · rw [if_neg e]
    by_cases e2 : q < j ∧ (a : Int) ≤ Z q
    · rw [if_pos e2, if_pos ⟨by omega, e2.2⟩]
    · rw [if_neg e2, if_neg (fun z => e2 ⟨by omega, z.2⟩)]
theorem shM_f {Z : Nat → Int} {j a : Nat} {d : Int} (h : ¬ (a : Int) ≤ Z j) : shM Z j a d = shM Z (j + 1) a d := by
  funext q
  unfold shM
  by_cases e2 : q < j ∧ (a : Int) ≤ Z q
  · rw [if_pos e2, if_pos ⟨by omega, e2.2⟩]
  · rw [if_neg e2, if_neg (fun z => e2 ⟨by
      have : q ≠ j := fun e => h (e ▸ z.2)
      omega, z.2⟩)]
theorem shM_0 (Z : Nat → Int) (a : Nat) (d : Int) : shM Z 0 a d = Z := by
  funext q
  unfold shM
  rw [if_neg (by omega)]
theorem shM_at (Z : Nat → Int) (j a : Nat) (d : Int) : shM Z j a d j = Z j := if_neg (by omega)
section
variable {mo : Nat} {am : Nat → Nat} {th sn td ld ls wl wc ws ex kp la sv cu : Int} {n a m : Nat} {tg kd tx wa ou le pn on ot sp wp op fw of sc : Nat → Int}
theorem m_up {h h1 : GH} (hM : IsM h h1 mo am [gI th, gI sn, gI td, gI (((n : Nat) : Int) + 1), gI (((a : Nat) : Int) + 1), gI ((m : Nat)), gI ld, gI ls, gI wl, gI wc, gI ws, gI ex, gI kp, gI la, gL sv, gI cu] [tg, kd, tx, wa, ou, le, pn, on, ot, sp, wp, op, fw, of, sc]) : IsM h h1 mo am [gI th, gI sn, gI td, gI (((n + 1 : Nat))), gI (((a + 1 : Nat))), gI ((m : Nat)), gI ld, gI ls, gI wl, gI wc, gI ws, gI ex, gI kp, gI la, gL sv, gI cu] [tg, kd, tx, wa, ou, le, pn, on, ot, sp, wp, op, fw, of, sc] := by
  rw [show ((n : Nat) : Int) + 1 = ((n + 1 : Nat) : Int) by omega, show ((a : Nat) : Int) + 1 = ((a + 1 : Nat) : Int) by omega] at hM
  exact hM
/-- insert(c) -/
theorem m_insert (D : DD) {h : GH} (hM : IsM h h mo am [gI th, gI sn, gI td, gI ((n : Nat)), gI ((a : Nat)), gI ((m : Nat)), gI ld, gI ls, gI wl, gI wc, gI ws, gI ex, gI kp, gI la, gL sv, gI cu] [tg, kd, tx, wa, ou, le, pn, on, ot, sp, wp, op, fw, of, sc]) (hx : allC tx) {c : Int} (hc : 0 ≤ c ∧ c < 65536) (ha : a ≤ n ∧ n ≤ 80) : GMet D yX8_insert cX8_insert 3 none [] 1 0 0 [gR (some mo), gI c] h (pv (fun h1 => IsM h h1 mo am [gI th, gI sn, gI td, gI (((n + 1 : Nat))), gI (((a + 1 : Nat))), gI ((m : Nat)), gI ld, gI ls, gI wl, gI wc, gI ws, gI ex, gI kp, gI la, gL sv, gI cu] [tg, kd, (insM tx n a c), wa, ou, le, pn, on, ot, sp, wp, op, fw, of, sc])) := by
  refine GMet.intro RX8 rfl (by decide) (gcats rfl) (Nat.le_of_ble_eq_true rfl) fun K KX S => ?_
  show K 0 [some _, some _, none] [] _ 0 0
  have loop : ∀ (d k : Nat) (h5 : GH), a + d = k → k ≤ n → IsM h h5 mo am [gI th, gI sn, gI td, gI ((n : Nat)), gI ((a : Nat)), gI ((m : Nat)), gI ld, gI ls, gI wl, gI wc, gI ws, gI ex, gI kp, gI la, gL sv, gI cu] [tg, kd, (upM tx n k), wa, ou, le, pn, on, ot, sp, wp, op, fw, of, sc] → K 5 [some (gR (some mo)), some (gI c), some (gI k)] [] h5 0 0 := by
    intro d
    induction d with
    | zero =>
      intro k h5 hk hkn M5
      have ek : k = a := by omega
      subst ek
      have e1 : ((k : Nat) : Int).toNat = k := by omega
      refine k_iload_n S dX8_insert_5 rfl ?_
      refine k_aload_n S dX8_insert_6 rfl ?_
      refine k_getf S dX8_insert_7 f_X8_136 M5.1 (by rfl) ?_
      refine k_icmp_le (tgt := 33) S dX8_insert_10 (by decide) (by omega) (by omega) (fun c10 => ?_) (fun c10 => ?_)
      · refine k_aload_n S dX8_insert_33 rfl ?_
        refine k_getf S dX8_insert_34 f_X8_20 M5.1 (by rfl) ?_
        refine k_aload_n S dX8_insert_37 rfl ?_
        refine k_getf S dX8_insert_38 f_X8_136 M5.1 (by rfl) ?_
        refine k_iload_n S dX8_insert_41 rfl ?_
        refine k_mcst (j := 2) S dX8_insert_42 M5 rfl rfl (by omega) (by omega) (fun h42 M42 => ?_)
        simp only [List.set_cons_succ, List.set_cons_zero] at M42
        rw [e1, upM_ins] at M42
        refine k_aload_n S dX8_insert_43 rfl ?_
        refine k_dup S dX8_insert_44 ?_
        refine k_getf S dX8_insert_45 f_X8_146 M42.1 (by rfl) ?_
        refine k_iconst S dX8_insert_48 ?_
        refine k_iadd S dX8_insert_49 ?_
        refine k_mput S dX8_insert_50 f_X8_146 M42 (gfit_int _) (Nat.le_of_ble_eq_true rfl) (fun h50 M50 => ?_)
        simp only [List.set_cons_succ, List.set_cons_zero] at M50
        refine k_aload_n S dX8_insert_53 rfl ?_
        refine k_dup S dX8_insert_54 ?_
        refine k_getf S dX8_insert_55 f_X8_136 M50.1 (by rfl) ?_
        refine k_iconst S dX8_insert_58 ?_
        refine k_iadd S dX8_insert_59 ?_
        refine k_mput S dX8_insert_60 f_X8_136 M50 (gfit_int _) (Nat.le_of_ble_eq_true rfl) (fun h60 M60 => ?_)
        simp only [List.set_cons_succ, List.set_cons_zero] at M60
        exact k_return S dX8_insert_63 ⟨rfl, m_up M60⟩ (by omega) (by omega)
      · omega
    | succ d ih =>
      intro k h5 hk hkn M5
      have e1 : ((k : Nat) : Int).toNat = k := by omega
      have e2 : (((k : Nat) : Int) - 1).toNat = k - 1 := by omega
      have ev : upM tx n k (k - 1) = tx (k - 1) := if_neg (by omega)
      have r1 := hx (k - 1)
      refine k_iload_n S dX8_insert_5 rfl ?_
      refine k_aload_n S dX8_insert_6 rfl ?_
      refine k_getf S dX8_insert_7 f_X8_136 M5.1 (by rfl) ?_
      refine k_icmp_le (tgt := 33) S dX8_insert_10 (by decide) (by omega) (by omega) (fun c10 => ?_) (fun c10 => ?_)
      · omega
      · refine k_aload_n S dX8_insert_13 rfl ?_
        refine k_getf S dX8_insert_14 f_X8_20 M5.1 (by rfl) ?_
        refine k_iload_n S dX8_insert_17 rfl ?_
        refine k_aload_n S dX8_insert_18 rfl ?_
        refine k_getf S dX8_insert_19 f_X8_20 M5.1 (by rfl) ?_
        refine k_iload_n S dX8_insert_22 rfl ?_
        refine k_iconst S dX8_insert_23 ?_
        refine k_isub S dX8_insert_24 ?_
        refine k_caload S dX8_insert_25 (M5.ld (j := 2) rfl rfl) (by omega) ?_
        rw [e2, ev]
        refine k_mcst (j := 2) S dX8_insert_26 M5 rfl rfl (by omega) (by omega) (fun h26 M26 => ?_)
        simp only [List.set_cons_succ, List.set_cons_zero] at M26
        rw [e1] at M26
        refine k_iinc S dX8_insert_27 rfl (by decide) ?_
        rw [show ((k : Nat) : Int) + -1 = ((k - 1 : Nat) : Int) by omega]
        refine k_goto (tgt := 5) S dX8_insert_30 (by decide) ?_
        refine ih (k - 1) h26 (by omega) (by omega) ?_
        have st := upM_step tx (n := n) (k := k - 1) (by omega)
        rw [show k - 1 + 1 = k by omega] at st
        rw [st] at M26
        exact M26
  refine k_aload_n S dX8_insert_0 rfl ?_
  refine k_getf S dX8_insert_1 f_X8_146 hM.1 (by rfl) ?_
  refine k_istore_n S dX8_insert_4 (by decide) ?_
  exact loop (n - a) n h (by omega) (Nat.le_refl n) (by rw [upM_n]; exact hM)
theorem m_down {h h1 : GH} (hn : 1 ≤ n) (ha : 1 ≤ a) (hM : IsM h h1 mo am [gI th, gI sn, gI td, gI (((n : Nat) : Int) - 1), gI (((a : Nat) : Int) - 1), gI ((m : Nat)), gI ld, gI ls, gI wl, gI wc, gI ws, gI ex, gI kp, gI la, gL sv, gI cu] [tg, kd, tx, wa, ou, le, pn, on, ot, sp, wp, op, fw, of, sc]) : IsM h h1 mo am [gI th, gI sn, gI td, gI (((n - 1 : Nat))), gI (((a - 1 : Nat))), gI ((m : Nat)), gI ld, gI ls, gI wl, gI wc, gI ws, gI ex, gI kp, gI la, gL sv, gI cu] [tg, kd, tx, wa, ou, le, pn, on, ot, sp, wp, op, fw, of, sc] := by
  rw [show ((n : Nat) : Int) - 1 = ((n - 1 : Nat) : Int) by omega, show ((a : Nat) : Int) - 1 = ((a - 1 : Nat) : Int) by omega] at hM
  exact hM
/-- takeOut() -/
theorem m_takeOut (D : DD) {h : GH} (hM : IsM h h mo am [gI th, gI sn, gI td, gI ((n : Nat)), gI ((a : Nat)), gI ((m : Nat)), gI ld, gI ls, gI wl, gI wc, gI ws, gI ex, gI kp, gI la, gL sv, gI cu] [tg, kd, tx, wa, ou, le, pn, on, ot, sp, wp, op, fw, of, sc]) (hx : allC tx) (ha : 1 ≤ a ∧ a ≤ n ∧ n ≤ 80) : GMet D yX8_takeOut cX8_takeOut 2 none [] 1 0 0 [gR (some mo)] h (pv (fun h1 => IsM h h1 mo am [gI th, gI sn, gI td, gI (((n - 1 : Nat))), gI (((a - 1 : Nat))), gI ((m : Nat)), gI ld, gI ls, gI wl, gI wc, gI ws, gI ex, gI kp, gI la, gL sv, gI cu] [tg, kd, (dnM tx (a - 1) (n - 1)), wa, ou, le, pn, on, ot, sp, wp, op, fw, of, sc])) := by
  refine GMet.intro RX8 rfl (by decide) (gcats rfl) (Nat.le_of_ble_eq_true rfl) fun K KX S => ?_
  show K 0 [some _, none] [] _ 0 0
  have loop : ∀ (d k : Nat) (h5 : GH), k + d = n - 1 → a - 1 ≤ k → IsM h h5 mo am [gI th, gI sn, gI td, gI (((n - 1 : Nat))), gI (((a - 1 : Nat))), gI ((m : Nat)), gI ld, gI ls, gI wl, gI wc, gI ws, gI ex, gI kp, gI la, gL sv, gI cu] [tg, kd, (dnM tx (a - 1) k), wa, ou, le, pn, on, ot, sp, wp, op, fw, of, sc] → K 25 [some (gR (some mo)), some (gI k)] [] h5 0 0 := by
    intro d
    induction d with
    | zero =>
      intro k h5 hk hka M5
      have ek : k = n - 1 := by omega
      subst ek
      refine k_iload_n S dX8_takeOut_25 rfl ?_
      refine k_aload_n S dX8_takeOut_26 rfl ?_
      refine k_getf S dX8_takeOut_27 f_X8_146 M5.1 (by rfl) ?_
      refine k_icmp_ge (tgt := 53) S dX8_takeOut_30 (by decide) (by omega) (by omega) (fun c30 => ?_) (fun c30 => ?_)
      · exact k_return S dX8_takeOut_53 ⟨rfl, M5⟩ (by omega) (by omega)
      · omega
    | succ d ih =>
      intro k h5 hk hka M5
      have e1 : ((k : Nat) : Int).toNat = k := by omega
      have e2 : (((k : Nat) : Int) + 1).toNat = k + 1 := by omega
      have ev : dnM tx (a - 1) k (k + 1) = tx (k + 1) := if_neg (by omega)
      have r1 := hx (k + 1)
      refine k_iload_n S dX8_takeOut_25 rfl ?_
      refine k_aload_n S dX8_takeOut_26 rfl ?_
      refine k_getf S dX8_takeOut_27 f_X8_146 M5.1 (by rfl) ?_
      refine k_icmp_ge (tgt := 53) S dX8_takeOut_30 (by decide) (by omega) (by omega) (fun c30 => ?_) (fun c30 => ?_)
      · omega
      · refine k_aload_n S dX8_takeOut_33 rfl ?_
        refine k_getf S dX8_takeOut_34 f_X8_20 M5.1 (by rfl) ?_
        refine k_iload_n S dX8_takeOut_37 rfl ?_
        refine k_aload_n S dX8_takeOut_38 rfl ?_
        refine k_getf S dX8_takeOut_39 f_X8_20 M5.1 (by rfl) ?_
        refine k_iload_n S dX8_takeOut_42 rfl ?_
        refine k_iconst S dX8_takeOut_43 ?_
        refine k_iadd S dX8_takeOut_44 ?_
        refine k_caload S dX8_takeOut_45 (M5.ld (j := 2) rfl rfl) (by omega) ?_
        rw [e2, ev]
        refine k_mcst (j := 2) S dX8_takeOut_46 M5 rfl rfl (by omega) (by omega) (fun h46 M46 => ?_)
        simp only [List.set_cons_succ, List.set_cons_zero] at M46
        rw [e1, dnM_step tx hka] at M46
        refine k_iinc S dX8_takeOut_47 rfl (by decide) ?_
        refine k_goto (tgt := 25) S dX8_takeOut_50 (by decide) ?_
        exact ih (k + 1) h46 (by omega) (by omega) M46
  refine k_aload_n S dX8_takeOut_0 rfl ?_
  refine k_dup S dX8_takeOut_1 ?_
  refine k_getf S dX8_takeOut_2 f_X8_136 hM.1 (by rfl) ?_
  refine k_iconst S dX8_takeOut_5 ?_
  refine k_isub S dX8_takeOut_6 ?_
  refine k_mput S dX8_takeOut_7 f_X8_136 hM (gfit_int _) (Nat.le_of_ble_eq_true rfl) (fun h7 M7 => ?_)
  simp only [List.set_cons_succ, List.set_cons_zero] at M7
  refine k_aload_n S dX8_takeOut_10 rfl ?_
  refine k_dup S dX8_takeOut_11 ?_
  refine k_getf S dX8_takeOut_12 f_X8_146 M7.1 (by rfl) ?_
  refine k_iconst S dX8_takeOut_15 ?_
  refine k_isub S dX8_takeOut_16 ?_
  refine k_mput S dX8_takeOut_17 f_X8_146 M7 (gfit_int _) (Nat.le_of_ble_eq_true rfl) (fun h17 M17 => ?_)
  simp only [List.set_cons_succ, List.set_cons_zero] at M17
  have M19 := m_down (by omega) (by omega) M17
  refine k_aload_n S dX8_takeOut_20 rfl ?_
  refine k_getf S dX8_takeOut_21 f_X8_136 M19.1 (by rfl) ?_
  refine k_istore_n S dX8_takeOut_24 (by decide) ?_
  exact loop (n - 1 - (a - 1)) (a - 1) h17 (by omega) (Nat.le_refl _) (by rw [dnM_0]; exact M19)
/-- keeps() -/
theorem m_keeps (D : DD) {h : GH} (hM : IsM h h mo am [gI th, gI sn, gI td, gI ((n : Nat)), gI ((a : Nat)), gI ((m : Nat)), gI ld, gI ls, gI wl, gI wc, gI ws, gI ex, gI kp, gI la, gL sv, gI cu] [tg, kd, tx, wa, ou, le, pn, on, ot, sp, wp, op, fw, of, sc]) (hx : allC tx) (ha : n ≤ 80) (hm : m ≤ 400) : GMet D yX8_keeps cX8_keeps 2 none [] 1 0 0 [gR (some mo)] h (pv (fun h1 => IsM h h1 mo am [gI th, gI sn, gI td, gI ((n : Nat)), gI ((a : Nat)), gI ((m : Nat)), gI ld, gI ls, gI ((n : Nat)), gI ((a : Nat)), gI ((m : Nat)), gI ex, gI kp, gI la, gL sv, gI cu] [tg, kd, tx, (cpM tx wa n), ou, le, pn, on, ot, sp, (cpM sp wp m), op, fw, of, sc])) := by
  refine GMet.intro RX8 rfl (by decide) (gcats rfl) (Nat.le_of_ble_eq_true rfl) fun K KX S => ?_
  show K 0 [some _, none] [] _ 0 0
  have loop2 : ∀ (d k : Nat) (h5 : GH), k + d = m → IsM h h5 mo am [gI th, gI sn, gI td, gI ((n : Nat)), gI ((a : Nat)), gI ((m : Nat)), gI ld, gI ls, gI wl, gI wc, gI ws, gI ex, gI kp, gI la, gL sv, gI cu] [tg, kd, tx, (cpM tx wa n), ou, le, pn, on, ot, sp, (cpM sp wp k), op, fw, of, sc] → K 30 [some (gR (some mo)), some (gI k)] [] h5 0 0 := by
    intro d
    induction d with
    | zero =>
      intro k h5 hk M5
      have ek : k = m := by omega
      subst ek
      refine k_iload_n S dX8_keeps_30 rfl ?_
      refine k_aload_n S dX8_keeps_31 rfl ?_
      refine k_getf S dX8_keeps_32 f_X8_149 M5.1 (by rfl) ?_
      refine k_icmp_ge (tgt := 56) S dX8_keeps_35 (by decide) (by omega) (by omega) (fun c35 => ?_) (fun c35 => ?_)
      · refine k_aload_n S dX8_keeps_56 rfl ?_
        refine k_aload_n S dX8_keeps_57 rfl ?_
        refine k_getf S dX8_keeps_58 f_X8_146 M5.1 (by rfl) ?_
        refine k_mput S dX8_keeps_61 f_X8_152 M5 (gfit_int _) (Nat.le_of_ble_eq_true rfl) (fun h61 M61 => ?_)
        simp only [List.set_cons_succ, List.set_cons_zero] at M61
        refine k_aload_n S dX8_keeps_64 rfl ?_
        refine k_aload_n S dX8_keeps_65 rfl ?_
        refine k_getf S dX8_keeps_66 f_X8_136 M61.1 (by rfl) ?_
        refine k_mput S dX8_keeps_69 f_X8_155 M61 (gfit_int _) (Nat.le_of_ble_eq_true rfl) (fun h69 M69 => ?_)
        simp only [List.set_cons_succ, List.set_cons_zero] at M69
        refine k_aload_n S dX8_keeps_72 rfl ?_
        refine k_aload_n S dX8_keeps_73 rfl ?_
        refine k_getf S dX8_keeps_74 f_X8_149 M69.1 (by rfl) ?_
        refine k_mput S dX8_keeps_77 f_X8_158 M69 (gfit_int _) (Nat.le_of_ble_eq_true rfl) (fun h77 M77 => ?_)
        simp only [List.set_cons_succ, List.set_cons_zero] at M77
        exact k_return S dX8_keeps_80 ⟨rfl, M77⟩ (by omega) (by omega)
      · omega
    | succ d ih =>
      intro k h5 hk M5
      have e1 : ((k : Nat) : Int).toNat = k := by omega
      refine k_iload_n S dX8_keeps_30 rfl ?_
      refine k_aload_n S dX8_keeps_31 rfl ?_
      refine k_getf S dX8_keeps_32 f_X8_149 M5.1 (by rfl) ?_
      refine k_icmp_ge (tgt := 56) S dX8_keeps_35 (by decide) (by omega) (by omega) (fun c35 => ?_) (fun c35 => ?_)
      · omega
      · refine k_aload_n S dX8_keeps_38 rfl ?_
        refine k_getf S dX8_keeps_39 f_X8_45 M5.1 (by rfl) ?_
        refine k_iload_n S dX8_keeps_42 rfl ?_
        refine k_aload_n S dX8_keeps_43 rfl ?_
        refine k_getf S dX8_keeps_44 f_X8_42 M5.1 (by rfl) ?_
        refine k_iload_n S dX8_keeps_47 rfl ?_
        refine k_iaload S dX8_keeps_48 (M5.ld (j := 9) rfl rfl) (by omega) ?_
        rw [e1]
        refine k_mist (j := 10) S dX8_keeps_49 M5 rfl rfl (by omega) (fun h49 M49 => ?_)
        simp only [List.set_cons_succ, List.set_cons_zero] at M49
        rw [e1, cpM_step] at M49
        refine k_iinc S dX8_keeps_50 rfl (by decide) ?_
        refine k_goto (tgt := 30) S dX8_keeps_53 (by decide) ?_
        exact ih (k + 1) h49 (by omega) M49
  have loop : ∀ (d k : Nat) (h5 : GH), k + d = n → IsM h h5 mo am [gI th, gI sn, gI td, gI ((n : Nat)), gI ((a : Nat)), gI ((m : Nat)), gI ld, gI ls, gI wl, gI wc, gI ws, gI ex, gI kp, gI la, gL sv, gI cu] [tg, kd, tx, (cpM tx wa k), ou, le, pn, on, ot, sp, wp, op, fw, of, sc] → K 2 [some (gR (some mo)), some (gI k)] [] h5 0 0 := by
    intro d
    induction d with
    | zero =>
      intro k h5 hk M5
      have ek : k = n := by omega
      subst ek
      refine k_iload_n S dX8_keeps_2 rfl ?_
      refine k_aload_n S dX8_keeps_3 rfl ?_
      refine k_getf S dX8_keeps_4 f_X8_146 M5.1 (by rfl) ?_
      refine k_icmp_ge (tgt := 28) S dX8_keeps_7 (by decide) (by omega) (by omega) (fun c7 => ?_) (fun c7 => ?_)
      · refine k_iconst S dX8_keeps_28 ?_
        refine k_istore_n S dX8_keeps_29 (by decide) ?_
        exact loop2 m 0 h5 (by omega) (by rw [cpM_0]; exact M5)
      · omega
    | succ d ih =>
      intro k h5 hk M5
      have e1 : ((k : Nat) : Int).toNat = k := by omega
      have r1 := hx k
      refine k_iload_n S dX8_keeps_2 rfl ?_
      refine k_aload_n S dX8_keeps_3 rfl ?_
      refine k_getf S dX8_keeps_4 f_X8_146 M5.1 (by rfl) ?_
      refine k_icmp_ge (tgt := 28) S dX8_keeps_7 (by decide) (by omega) (by omega) (fun c7 => ?_) (fun c7 => ?_)
      · omega
      · refine k_aload_n S dX8_keeps_10 rfl ?_
        refine k_getf S dX8_keeps_11 f_X8_23 M5.1 (by rfl) ?_
        refine k_iload_n S dX8_keeps_14 rfl ?_
        refine k_aload_n S dX8_keeps_15 rfl ?_
        refine k_getf S dX8_keeps_16 f_X8_20 M5.1 (by rfl) ?_
        refine k_iload_n S dX8_keeps_19 rfl ?_
        refine k_caload S dX8_keeps_20 (M5.ld (j := 2) rfl rfl) (by omega) ?_
        rw [e1]
        refine k_mcst (j := 3) S dX8_keeps_21 M5 rfl rfl (by omega) (by omega) (fun h21 M21 => ?_)
        simp only [List.set_cons_succ, List.set_cons_zero] at M21
        rw [e1, cpM_step] at M21
        refine k_iinc S dX8_keeps_22 rfl (by decide) ?_
        refine k_goto (tgt := 2) S dX8_keeps_25 (by decide) ?_
        exact ih (k + 1) h21 (by omega) M21
  refine k_iconst S dX8_keeps_0 ?_
  refine k_istore_n S dX8_keeps_1 (by decide) ?_
  exact loop n 0 h (by omega) (by rw [cpM_0]; exact hM)
/-- erase, at the start -/
theorem m_erase_b (D : DD) {h : GH} (hM : IsM h h mo am [gI th, gI sn, gI td, gI ((n : Nat)), gI (0), gI ((m : Nat)), gI ld, gI ls, gI wl, gI wc, gI ws, gI ex, gI kp, gI la, gL sv, gI cu] [tg, kd, tx, wa, ou, le, pn, on, ot, sp, wp, op, fw, of, sc]) : GMet D yX8_erase cX8_erase 3 (some .char) [] 2 0 0 [gR (some mo)] h (pr (gI 32) (fun h1 => IsM h h1 mo am [gI (1), gI sn, gI td, gI ((n : Nat)), gI (0), gI ((m : Nat)), gI ld, gI ls, gI wl, gI wc, gI ws, gI ex, gI kp, gI la, gL sv, gI cu] [tg, kd, tx, wa, ou, le, pn, on, ot, sp, wp, op, fw, of, sc])) := by
  refine GMet.intro RX8 rfl (by decide) (gcats rfl) (Nat.le_of_ble_eq_true rfl) fun K KX S => ?_
  show K 0 [some _, none, none] [] _ 0 0
  refine k_aload_n S dX8_erase_0 rfl ?_
  refine k_aload_n S dX8_erase_1 rfl ?_
  refine k_getf S dX8_erase_2 f_X8_136 hM.1 (by rfl) ?_
  refine k_if_ne (tgt := 12) S dX8_erase_5 (by decide) (by omega) (fun c5 => ?_) (fun c5 => ?_)
  · omega
  · refine k_iconst S dX8_erase_8 ?_
    refine k_goto (tgt := 13) S dX8_erase_9 (by decide) ?_
    refine k_mput S dX8_erase_13 f_X8_61 hM (gfit_int _) (Nat.le_of_ble_eq_true rfl) (fun h13 M13 => ?_)
    simp only [List.set_cons_succ, List.set_cons_zero] at M13
    refine k_aload_n S dX8_erase_16 rfl ?_
    refine k_getf S dX8_erase_17 f_X8_136 M13.1 (by rfl) ?_
    refine k_if_ne (tgt := 26) S dX8_erase_20 (by decide) (by omega) (fun c20 => ?_) (fun c20 => ?_)
    · omega
    · refine k_bipush S dX8_erase_23 ?_
      exact k_creturn S dX8_erase_25 (by omega) ⟨rfl, M13⟩ (by omega) (by omega)
/-- erase() -/
theorem m_erase_g (D : DD) {h : GH} (hM : IsM h h mo am [gI th, gI sn, gI td, gI ((n : Nat)), gI ((a : Nat)), gI ((m : Nat)), gI ld, gI ls, gI wl, gI wc, gI ws, gI ex, gI kp, gI la, gL sv, gI cu] [tg, kd, tx, wa, ou, le, pn, on, ot, sp, wp, op, fw, of, sc]) (hx : allC tx) (ha : 1 ≤ a ∧ a ≤ n ∧ n ≤ 80) (hm : m ≤ 400) (hZ : ∀ q, q < m → inR (sp q)) : GMet D yX8_erase cX8_erase 3 (some .char) [] 2 0 0 [gR (some mo)] h (pr (gI (tx (a - 1))) (fun h1 => IsM h h1 mo am [gI (0), gI sn, gI td, gI (((n - 1 : Nat))), gI (((a - 1 : Nat))), gI ((m : Nat)), gI ld, gI ls, gI wl, gI wc, gI ws, gI ex, gI kp, gI la, gL sv, gI (0)] [tg, kd, (dnM tx (a - 1) (n - 1)), wa, ou, le, pn, on, ot, (shM sp m a (-1)), wp, op, fw, of, sc])) := by
  refine GMet.intro RX8 rfl (by decide) (gcats rfl) (Nat.le_of_ble_eq_true rfl) fun K KX S => ?_
  show K 0 [some _, none, none] [] _ 0 0
  have ea : (((a : Nat) : Int) - 1).toNat = a - 1 := by omega
  have r0 := hx (a - 1)
  have loop : ∀ (d k : Nat) (h5 : GH), k + d = m → IsM h h5 mo am [gI (0), gI sn, gI td, gI ((n : Nat)), gI ((a : Nat)), gI ((m : Nat)), gI ld, gI ls, gI wl, gI wc, gI ws, gI ex, gI kp, gI la, gL sv, gI cu] [tg, kd, tx, wa, ou, le, pn, on, ot, (shM sp k a (-1)), wp, op, fw, of, sc] → K 40 [some (gR (some mo)), some (gI (tx (a - 1))), some (gI k)] [] h5 0 0 := by
    intro d
    induction d with
    | zero =>
      intro k h5 hk M5
      have ek : k = m := by omega
      subst ek
      refine k_iload_n S dX8_erase_40 rfl ?_
      refine k_aload_n S dX8_erase_41 rfl ?_
      refine k_getf S dX8_erase_42 f_X8_149 M5.1 (by rfl) ?_
      refine k_icmp_ge (tgt := 77) S dX8_erase_45 (by decide) (by omega) (by omega) (fun c45 => ?_) (fun c45 => ?_)
      · refine k_aload_n S dX8_erase_77 rfl ?_
        refine k_callV_v S dX8_erase_78 v_X8_167 (m_takeOut D M5.rb hx ha) M5.1 (fun h78 hp78 => ?_) rfl rfl (by decide) (by omega) (by omega) (Nat.le_of_ble_eq_true rfl)
        have M78 := M5.tr hp78
        refine k_aload_n S dX8_erase_81 rfl ?_
        refine k_iconst S dX8_erase_82 ?_
        refine k_mput S dX8_erase_83 f_X8_183 M78 (gfit_bool (by omega)) (Nat.le_of_ble_eq_true rfl) (fun h83 M83 => ?_)
        simp only [List.set_cons_succ, List.set_cons_zero] at M83
        refine k_iload_n S dX8_erase_86 rfl ?_
        exact k_creturn S dX8_erase_87 r0 ⟨rfl, M83⟩ (by omega) (by omega)
      · omega
    | succ d ih =>
      intro k h5 hk M5
      have e1 : ((k : Nat) : Int).toNat = k := by omega
      have r1 := hZ k (by omega)
      unfold inR at r1
      refine k_iload_n S dX8_erase_40 rfl ?_
      refine k_aload_n S dX8_erase_41 rfl ?_
      refine k_getf S dX8_erase_42 f_X8_149 M5.1 (by rfl) ?_
      refine k_icmp_ge (tgt := 77) S dX8_erase_45 (by decide) (by omega) (by omega) (fun c45 => ?_) (fun c45 => ?_)
      · omega
      · refine k_aload_n S dX8_erase_48 rfl ?_
        refine k_getf S dX8_erase_49 f_X8_42 M5.1 (by rfl) ?_
        refine k_iload_n S dX8_erase_52 rfl ?_
        refine k_iaload S dX8_erase_53 (M5.ld (j := 9) rfl rfl) (by omega) ?_
        rw [e1, shM_at]
        refine k_aload_n S dX8_erase_54 rfl ?_
        refine k_getf S dX8_erase_55 f_X8_136 M5.1 (by rfl) ?_
        refine k_icmp_lt (tgt := 71) S dX8_erase_58 (by decide) (by omega) (by omega) (fun c58 => ?_) (fun c58 => ?_)
        · refine k_iinc S dX8_erase_71 rfl (by decide) ?_
          refine k_goto (tgt := 40) S dX8_erase_74 (by decide) ?_
          exact ih (k + 1) h5 (by omega) (by rw [← shM_f (by omega)]; exact M5)
        · refine k_aload_n S dX8_erase_61 rfl ?_
          refine k_getf S dX8_erase_62 f_X8_42 M5.1 (by rfl) ?_
          refine k_iload_n S dX8_erase_65 rfl ?_
          refine k_dup2 S dX8_erase_66 ?_
          refine k_iaload S dX8_erase_67 (M5.ld (j := 9) rfl rfl) (by omega) ?_
          rw [e1, shM_at]
          refine k_iconst S dX8_erase_68 ?_
          refine k_isub S dX8_erase_69 ?_
          refine k_mist (j := 9) S dX8_erase_70 M5 rfl rfl (by omega) (fun h70 M70 => ?_)
          simp only [List.set_cons_succ, List.set_cons_zero] at M70
          rw [e1, show sp k - 1 = sp k + -1 by omega, shM_t (by omega)] at M70
          refine k_iinc S dX8_erase_71 rfl (by decide) ?_
          refine k_goto (tgt := 40) S dX8_erase_74 (by decide) ?_
          exact ih (k + 1) h70 (by omega) M70
  refine k_aload_n S dX8_erase_0 rfl ?_
  refine k_aload_n S dX8_erase_1 rfl ?_
  refine k_getf S dX8_erase_2 f_X8_136 hM.1 (by rfl) ?_
  refine k_if_ne (tgt := 12) S dX8_erase_5 (by decide) (by omega) (fun c5 => ?_) (fun c5 => ?_)
  · refine k_iconst S dX8_erase_12 ?_
    refine k_mput S dX8_erase_13 f_X8_61 hM (gfit_int _) (Nat.le_of_ble_eq_true rfl) (fun h13 M13 => ?_)
    simp only [List.set_cons_succ, List.set_cons_zero] at M13
    refine k_aload_n S dX8_erase_16 rfl ?_
    refine k_getf S dX8_erase_17 f_X8_136 M13.1 (by rfl) ?_
    refine k_if_ne (tgt := 26) S dX8_erase_20 (by decide) (by omega) (fun c20 => ?_) (fun c20 => ?_)
    · refine k_aload_n S dX8_erase_26 rfl ?_
      refine k_getf S dX8_erase_27 f_X8_20 M13.1 (by rfl) ?_
      refine k_aload_n S dX8_erase_30 rfl ?_
      refine k_getf S dX8_erase_31 f_X8_136 M13.1 (by rfl) ?_
      refine k_iconst S dX8_erase_34 ?_
      refine k_isub S dX8_erase_35 ?_
      refine k_caload S dX8_erase_36 (M13.ld (j := 2) rfl rfl) (by omega) ?_
      rw [ea]
      refine k_istore_n S dX8_erase_37 (by decide) ?_
      refine k_iconst S dX8_erase_38 ?_
      refine k_istore_n S dX8_erase_39 (by decide) ?_
      exact loop m 0 h13 (by omega) (by rw [shM_0]; exact M13)
    · omega
  · omega
/-- nextStop, none there -/
theorem m_nextStop_b (D : DD) {h : GH} (hM : IsM h h mo am [gI th, gI sn, gI td, gI ((n : Nat)), gI ((a : Nat)), gI (0), gI ld, gI ls, gI wl, gI wc, gI ws, gI ex, gI kp, gI la, gL sv, gI cu] [tg, kd, tx, wa, ou, le, pn, on, ot, sp, wp, op, fw, of, sc]) : GMet D yX8_nextStop cX8_nextStop 2 (some .int) [] 2 0 0 [gR (some mo)] h (pr (gI 0) (fun h1 => IsM h h1 mo am [gI (1), gI sn, gI td, gI ((n : Nat)), gI ((a : Nat)), gI (0), gI ld, gI ls, gI wl, gI wc, gI ws, gI ex, gI kp, gI la, gL sv, gI cu] [tg, kd, tx, wa, ou, le, pn, on, ot, sp, wp, op, fw, of, sc])) := by
  refine GMet.intro RX8 rfl (by decide) (gcats rfl) (Nat.le_of_ble_eq_true rfl) fun K KX S => ?_
  show K 0 [some _, none] [] _ 0 0
  refine k_aload_n S dX8_nextStop_0 rfl ?_
  refine k_getf S dX8_nextStop_1 f_X8_149 hM.1 (by rfl) ?_
  refine k_if_ne (tgt := 13) S dX8_nextStop_4 (by decide) (by omega) (fun c4 => ?_) (fun c4 => ?_)
  · omega
  · refine k_aload_n S dX8_nextStop_7 rfl ?_
    refine k_iconst S dX8_nextStop_8 ?_
    refine k_callV_r S dX8_nextStop_9 v_X8_75 (m_fail D hM) hM.1 (fun h9 hp9 => ?_) rfl rfl (by decide) (by omega) (by omega) (Nat.le_of_ble_eq_true rfl)
    exact k_ireturn S dX8_nextStop_12 ⟨rfl, hp9⟩ (by omega) (by omega)
/-- nextStop() -/
theorem m_nextStop_g (D : DD) {h : GH} (hM : IsM h h mo am [gI th, gI sn, gI td, gI ((n : Nat)), gI ((a : Nat)), gI ((m : Nat)), gI ld, gI ls, gI wl, gI wc, gI ws, gI ex, gI kp, gI la, gL sv, gI cu] [tg, kd, tx, wa, ou, le, pn, on, ot, sp, wp, op, fw, of, sc]) (hm : 1 ≤ m ∧ m ≤ 400) : GMet D yX8_nextStop cX8_nextStop 2 (some .int) [] 2 0 0 [gR (some mo)] h (pr (gI (sp 0)) (fun h1 => IsM h h1 mo am [gI (0), gI sn, gI td, gI ((n : Nat)), gI (sp 0), gI (((m - 1 : Nat))), gI ld, gI ls, gI wl, gI wc, gI ws, gI ex, gI kp, gI la, gL sv, gI (0)] [tg, kd, tx, wa, ou, le, pn, on, ot, (dnM sp 0 (m - 1)), wp, op, fw, of, sc])) := by
  refine GMet.intro RX8 rfl (by decide) (gcats rfl) (Nat.le_of_ble_eq_true rfl) fun K KX S => ?_
  show K 0 [some _, none] [] _ 0 0
  have loop : ∀ (d k : Nat) (h5 : GH), k + d = m - 1 → IsM h h5 mo am [gI (0), gI sn, gI td, gI ((n : Nat)), gI (sp 0), gI (((m - 1 : Nat))), gI ld, gI ls, gI wl, gI wc, gI ws, gI ex, gI kp, gI la, gL sv, gI cu] [tg, kd, tx, wa, ou, le, pn, on, ot, (dnM sp 0 k), wp, op, fw, of, sc] → K 40 [some (gR (some mo)), some (gI k)] [] h5 0 0 := by
    intro d
    induction d with
    | zero =>
      intro k h5 hk M5
      have ek : k = m - 1 := by omega
      subst ek
      refine k_iload_n S dX8_nextStop_40 rfl ?_
      refine k_aload_n S dX8_nextStop_41 rfl ?_
      refine k_getf S dX8_nextStop_42 f_X8_149 M5.1 (by rfl) ?_
      refine k_icmp_ge (tgt := 68) S dX8_nextStop_45 (by decide) (by omega) (by omega) (fun c45 => ?_) (fun c45 => ?_)
      · refine k_aload_n S dX8_nextStop_68 rfl ?_
        refine k_iconst S dX8_nextStop_69 ?_
        refine k_mput S dX8_nextStop_70 f_X8_183 M5 (gfit_bool (by omega)) (Nat.le_of_ble_eq_true rfl) (fun h70 M70 => ?_)
        simp only [List.set_cons_succ, List.set_cons_zero] at M70
        refine k_aload_n S dX8_nextStop_73 rfl ?_
        refine k_getf S dX8_nextStop_74 f_X8_136 M70.1 (by rfl) ?_
        exact k_ireturn S dX8_nextStop_77 ⟨rfl, M70⟩ (by omega) (by omega)
      · omega
    | succ d ih =>
      intro k h5 hk M5
      have e1 : ((k : Nat) : Int).toNat = k := by omega
      have e2 : (((k : Nat) : Int) + 1).toNat = k + 1 := by omega
      have ev : dnM sp 0 k (k + 1) = sp (k + 1) := if_neg (by omega)
      refine k_iload_n S dX8_nextStop_40 rfl ?_
      refine k_aload_n S dX8_nextStop_41 rfl ?_
      refine k_getf S dX8_nextStop_42 f_X8_149 M5.1 (by rfl) ?_
      refine k_icmp_ge (tgt := 68) S dX8_nextStop_45 (by decide) (by omega) (by omega) (fun c45 => ?_) (fun c45 => ?_)
      · omega
      · refine k_aload_n S dX8_nextStop_48 rfl ?_
        refine k_getf S dX8_nextStop_49 f_X8_42 M5.1 (by rfl) ?_
        refine k_iload_n S dX8_nextStop_52 rfl ?_
        refine k_aload_n S dX8_nextStop_53 rfl ?_
        refine k_getf S dX8_nextStop_54 f_X8_42 M5.1 (by rfl) ?_
        refine k_iload_n S dX8_nextStop_57 rfl ?_
        refine k_iconst S dX8_nextStop_58 ?_
        refine k_iadd S dX8_nextStop_59 ?_
        refine k_iaload S dX8_nextStop_60 (M5.ld (j := 9) rfl rfl) (by omega) ?_
        rw [e2, ev]
        refine k_mist (j := 9) S dX8_nextStop_61 M5 rfl rfl (by omega) (fun h61 M61 => ?_)
        simp only [List.set_cons_succ, List.set_cons_zero] at M61
        rw [e1, dnM_step sp (Nat.zero_le k)] at M61
        refine k_iinc S dX8_nextStop_62 rfl (by decide) ?_
        refine k_goto (tgt := 40) S dX8_nextStop_65 (by decide) ?_
        exact ih (k + 1) h61 (by omega) M61
  refine k_aload_n S dX8_nextStop_0 rfl ?_
  refine k_getf S dX8_nextStop_1 f_X8_149 hM.1 (by rfl) ?_
  refine k_if_ne (tgt := 13) S dX8_nextStop_4 (by decide) (by omega) (fun c4 => ?_) (fun c4 => ?_)
  · refine k_aload_n S dX8_nextStop_13 rfl ?_
    refine k_iconst S dX8_nextStop_14 ?_
    refine k_mput S dX8_nextStop_15 f_X8_61 hM (gfit_int _) (Nat.le_of_ble_eq_true rfl) (fun h15 M15 => ?_)
    simp only [List.set_cons_succ, List.set_cons_zero] at M15
    refine k_aload_n S dX8_nextStop_18 rfl ?_
    refine k_aload_n S dX8_nextStop_19 rfl ?_
    refine k_getf S dX8_nextStop_20 f_X8_42 M15.1 (by rfl) ?_
    refine k_iconst S dX8_nextStop_23 ?_
    refine k_iaload S dX8_nextStop_24 (M15.ld (j := 9) rfl rfl) (by omega) ?_
    rw [show (0 : Int).toNat = 0 from rfl]
    refine k_mput S dX8_nextStop_25 f_X8_136 M15 (gfit_int _) (Nat.le_of_ble_eq_true rfl) (fun h25 M25 => ?_)
    simp only [List.set_cons_succ, List.set_cons_zero] at M25
    refine k_aload_n S dX8_nextStop_28 rfl ?_
    refine k_dup S dX8_nextStop_29 ?_
    refine k_getf S dX8_nextStop_30 f_X8_149 M25.1 (by rfl) ?_
    refine k_iconst S dX8_nextStop_33 ?_
    refine k_isub S dX8_nextStop_34 ?_
    refine k_mput S dX8_nextStop_35 f_X8_149 M25 (gfit_int _) (Nat.le_of_ble_eq_true rfl) (fun h35 M35 => ?_)
    simp only [List.set_cons_succ, List.set_cons_zero] at M35
    rw [show ((m : Nat) : Int) - 1 = ((m - 1 : Nat) : Int) by omega] at M35
    refine k_iconst S dX8_nextStop_38 ?_
    refine k_istore_n S dX8_nextStop_39 (by decide) ?_
    exact loop (m - 1) 0 h35 (by omega) (by rw [dnM_0]; exact M35)
  · omega
/-- undo, refused -/
theorem m_undo_b (D : DD) {h : GH} (hM : IsM h h mo am [gI th, gI sn, gI td, gI ((n : Nat)), gI ((a : Nat)), gI ((m : Nat)), gI ld, gI ls, gI wl, gI wc, gI ws, gI ex, gI kp, gI la, gL sv, gI (0)] [tg, kd, tx, wa, ou, le, pn, on, ot, sp, wp, op, fw, of, sc]) : GMet D yX8_undo cX8_undo 2 (some .int) [] 2 0 0 [gR (some mo)] h (pr (gI 0) (fun h1 => IsM h h1 mo am [gI (1), gI sn, gI td, gI ((n : Nat)), gI ((a : Nat)), gI ((m : Nat)), gI ld, gI ls, gI wl, gI wc, gI ws, gI ex, gI kp, gI la, gL sv, gI (0)] [tg, kd, tx, wa, ou, le, pn, on, ot, sp, wp, op, fw, of, sc])) := by
  refine GMet.intro RX8 rfl (by decide) (gcats rfl) (Nat.le_of_ble_eq_true rfl) fun K KX S => ?_
  show K 0 [some _, none] [] _ 0 0
  refine k_aload_n S dX8_undo_0 rfl ?_
  refine k_getf S dX8_undo_1 f_X8_183 hM.1 (by rfl) ?_
  refine k_if_ne (tgt := 13) S dX8_undo_4 (by decide) (by omega) (fun c4 => ?_) (fun c4 => ?_)
  · omega
  · refine k_aload_n S dX8_undo_7 rfl ?_
    refine k_iconst S dX8_undo_8 ?_
    refine k_callV_r S dX8_undo_9 v_X8_75 (m_fail D hM) hM.1 (fun h9 hp9 => ?_) rfl rfl (by decide) (by omega) (by omega) (Nat.le_of_ble_eq_true rfl)
    exact k_ireturn S dX8_undo_12 ⟨rfl, hp9⟩ (by omega) (by omega)
/-- undo() -/
theorem m_undo_g (D : DD) {h : GH} {wn wb wm : Nat} (hM : IsM h h mo am [gI th, gI sn, gI td, gI ((n : Nat)), gI ((a : Nat)), gI ((m : Nat)), gI ld, gI ls, gI ((wn : Nat)), gI ((wb : Nat)), gI ((wm : Nat)), gI ex, gI kp, gI la, gL sv, gI cu] [tg, kd, tx, wa, ou, le, pn, on, ot, sp, wp, op, fw, of, sc]) (hc : cu = 1) (hx : allC wa) (hl : inR la) (ha : wn ≤ 80) (hm : wm ≤ 400) : GMet D yX8_undo cX8_undo 2 (some .int) [] 2 0 0 [gR (some mo)] h (pr (gI (wn : Nat)) (fun h1 => IsM h h1 mo am [gI (0), gI sn, gI td, gI ((wn : Nat)), gI ((wb : Nat)), gI ((wm : Nat)), gI ld, gI ls, gI ((wn : Nat)), gI ((wb : Nat)), gI ((wm : Nat)), gI ex, gI (kp - 1), gI la, gL (sv - la), gI (0)] [tg, kd, (cpM wa tx wn), wa, ou, le, pn, on, ot, (cpM wp sp wm), wp, op, fw, of, sc])) := by
  refine GMet.intro RX8 rfl (by decide) (gcats rfl) (Nat.le_of_ble_eq_true rfl) fun K KX S => ?_
  show K 0 [some _, none] [] _ 0 0
  unfold inR at hl
  have loop2 : ∀ (d k : Nat) (h5 : GH), k + d = wm → IsM h h5 mo am [gI (0), gI sn, gI td, gI ((n : Nat)), gI ((a : Nat)), gI ((m : Nat)), gI ld, gI ls, gI ((wn : Nat)), gI ((wb : Nat)), gI ((wm : Nat)), gI ex, gI kp, gI la, gL sv, gI cu] [tg, kd, (cpM wa tx wn), wa, ou, le, pn, on, ot, (cpM wp sp k), wp, op, fw, of, sc] → K 48 [some (gR (some mo)), some (gI k)] [] h5 0 0 := by
    intro d
    induction d with
    | zero =>
      intro k h5 hk M5
      have ek : k = wm := by omega
      subst ek
      refine k_iload_n S dX8_undo_48 rfl ?_
      refine k_aload_n S dX8_undo_49 rfl ?_
      refine k_getf S dX8_undo_50 f_X8_158 M5.1 (by rfl) ?_
      refine k_icmp_ge (tgt := 74) S dX8_undo_53 (by decide) (by omega) (by omega) (fun c53 => ?_) (fun c53 => ?_)
      · refine k_aload_n S dX8_undo_74 rfl ?_
        refine k_aload_n S dX8_undo_75 rfl ?_
        refine k_getf S dX8_undo_76 f_X8_152 M5.1 (by rfl) ?_
        refine k_mput S dX8_undo_79 f_X8_146 M5 (gfit_int _) (Nat.le_of_ble_eq_true rfl) (fun h79 M79 => ?_)
        simp only [List.set_cons_succ, List.set_cons_zero] at M79
        refine k_aload_n S dX8_undo_82 rfl ?_
        refine k_aload_n S dX8_undo_83 rfl ?_
        refine k_getf S dX8_undo_84 f_X8_155 M79.1 (by rfl) ?_
        refine k_mput S dX8_undo_87 f_X8_136 M79 (gfit_int _) (Nat.le_of_ble_eq_true rfl) (fun h87 M87 => ?_)
        simp only [List.set_cons_succ, List.set_cons_zero] at M87
        refine k_aload_n S dX8_undo_90 rfl ?_
        refine k_aload_n S dX8_undo_91 rfl ?_
        refine k_getf S dX8_undo_92 f_X8_158 M87.1 (by rfl) ?_
        refine k_mput S dX8_undo_95 f_X8_149 M87 (gfit_int _) (Nat.le_of_ble_eq_true rfl) (fun h95 M95 => ?_)
        simp only [List.set_cons_succ, List.set_cons_zero] at M95
        refine k_aload_n S dX8_undo_98 rfl ?_
        refine k_iconst S dX8_undo_99 ?_
        refine k_mput S dX8_undo_100 f_X8_183 M95 (gfit_bool (by omega)) (Nat.le_of_ble_eq_true rfl) (fun h100 M100 => ?_)
        simp only [List.set_cons_succ, List.set_cons_zero] at M100
        refine k_aload_n S dX8_undo_103 rfl ?_
        refine k_dup S dX8_undo_104 ?_
        refine k_getf S dX8_undo_105 f_X8_176 M100.1 (by rfl) ?_
        refine k_iconst S dX8_undo_108 ?_
        refine k_isub S dX8_undo_109 ?_
        refine k_mput S dX8_undo_110 f_X8_176 M100 (gfit_int _) (Nat.le_of_ble_eq_true rfl) (fun h110 M110 => ?_)
        simp only [List.set_cons_succ, List.set_cons_zero] at M110
        refine k_aload_n S dX8_undo_113 rfl ?_
        refine k_dup S dX8_undo_114 ?_
        refine k_getf S dX8_undo_115 f_X8_179 M110.1 (by rfl) ?_
        refine k_aload_n S dX8_undo_118 rfl ?_
        refine k_getf S dX8_undo_119 f_X8_164 M110.1 (by rfl) ?_
        refine k_i2l S dX8_undo_122 (by omega) ?_
        refine k_lsub S dX8_undo_123 ?_
        refine k_mput S dX8_undo_124 f_X8_179 M110 (gfit_long _) (Nat.le_of_ble_eq_true rfl) (fun h124 M124 => ?_)
        simp only [List.set_cons_succ, List.set_cons_zero] at M124
        refine k_aload_n S dX8_undo_127 rfl ?_
        refine k_getf S dX8_undo_128 f_X8_146 M124.1 (by rfl) ?_
        exact k_ireturn S dX8_undo_131 ⟨rfl, M124⟩ (by omega) (by omega)
      · omega
    | succ d ih =>
      intro k h5 hk M5
      have e1 : ((k : Nat) : Int).toNat = k := by omega
      refine k_iload_n S dX8_undo_48 rfl ?_
      refine k_aload_n S dX8_undo_49 rfl ?_
      refine k_getf S dX8_undo_50 f_X8_158 M5.1 (by rfl) ?_
      refine k_icmp_ge (tgt := 74) S dX8_undo_53 (by decide) (by omega) (by omega) (fun c53 => ?_) (fun c53 => ?_)
      · omega
      · refine k_aload_n S dX8_undo_56 rfl ?_
        refine k_getf S dX8_undo_57 f_X8_42 M5.1 (by rfl) ?_
        refine k_iload_n S dX8_undo_60 rfl ?_
        refine k_aload_n S dX8_undo_61 rfl ?_
        refine k_getf S dX8_undo_62 f_X8_45 M5.1 (by rfl) ?_
        refine k_iload_n S dX8_undo_65 rfl ?_
        refine k_iaload S dX8_undo_66 (M5.ld (j := 10) rfl rfl) (by omega) ?_
        rw [e1]
        refine k_mist (j := 9) S dX8_undo_67 M5 rfl rfl (by omega) (fun h67 M67 => ?_)
        simp only [List.set_cons_succ, List.set_cons_zero] at M67
        rw [e1, cpM_step] at M67
        refine k_iinc S dX8_undo_68 rfl (by decide) ?_
        refine k_goto (tgt := 48) S dX8_undo_71 (by decide) ?_
        exact ih (k + 1) h67 (by omega) M67
  have loop : ∀ (d k : Nat) (h5 : GH), k + d = wn → IsM h h5 mo am [gI (0), gI sn, gI td, gI ((n : Nat)), gI ((a : Nat)), gI ((m : Nat)), gI ld, gI ls, gI ((wn : Nat)), gI ((wb : Nat)), gI ((wm : Nat)), gI ex, gI kp, gI la, gL sv, gI cu] [tg, kd, (cpM wa tx k), wa, ou, le, pn, on, ot, sp, wp, op, fw, of, sc] → K 20 [some (gR (some mo)), some (gI k)] [] h5 0 0 := by
    intro d
    induction d with
    | zero =>
      intro k h5 hk M5
      have ek : k = wn := by omega
      subst ek
      refine k_iload_n S dX8_undo_20 rfl ?_
      refine k_aload_n S dX8_undo_21 rfl ?_
      refine k_getf S dX8_undo_22 f_X8_152 M5.1 (by rfl) ?_
      refine k_icmp_ge (tgt := 46) S dX8_undo_25 (by decide) (by omega) (by omega) (fun c25 => ?_) (fun c25 => ?_)
      · refine k_iconst S dX8_undo_46 ?_
        refine k_istore_n S dX8_undo_47 (by decide) ?_
        exact loop2 wm 0 h5 (by omega) (by rw [cpM_0]; exact M5)
      · omega
    | succ d ih =>
      intro k h5 hk M5
      have e1 : ((k : Nat) : Int).toNat = k := by omega
      have r1 := hx k
      refine k_iload_n S dX8_undo_20 rfl ?_
      refine k_aload_n S dX8_undo_21 rfl ?_
      refine k_getf S dX8_undo_22 f_X8_152 M5.1 (by rfl) ?_
      refine k_icmp_ge (tgt := 46) S dX8_undo_25 (by decide) (by omega) (by omega) (fun c25 => ?_) (fun c25 => ?_)
      · omega
      · refine k_aload_n S dX8_undo_28 rfl ?_
        refine k_getf S dX8_undo_29 f_X8_20 M5.1 (by rfl) ?_
        refine k_iload_n S dX8_undo_32 rfl ?_
        refine k_aload_n S dX8_undo_33 rfl ?_
        refine k_getf S dX8_undo_34 f_X8_23 M5.1 (by rfl) ?_
        refine k_iload_n S dX8_undo_37 rfl ?_
        refine k_caload S dX8_undo_38 (M5.ld (j := 3) rfl rfl) (by omega) ?_
        rw [e1]
        refine k_mcst (j := 2) S dX8_undo_39 M5 rfl rfl (by omega) (by omega) (fun h39 M39 => ?_)
        simp only [List.set_cons_succ, List.set_cons_zero] at M39
        rw [e1, cpM_step] at M39
        refine k_iinc S dX8_undo_40 rfl (by decide) ?_
        refine k_goto (tgt := 20) S dX8_undo_43 (by decide) ?_
        exact ih (k + 1) h39 (by omega) M39
  refine k_aload_n S dX8_undo_0 rfl ?_
  refine k_getf S dX8_undo_1 f_X8_183 hM.1 (by rfl) ?_
  refine k_if_ne (tgt := 13) S dX8_undo_4 (by decide) (by omega) (fun c4 => ?_) (fun c4 => ?_)
  · refine k_aload_n S dX8_undo_13 rfl ?_
    refine k_iconst S dX8_undo_14 ?_
    refine k_mput S dX8_undo_15 f_X8_61 hM (gfit_int _) (Nat.le_of_ble_eq_true rfl) (fun h15 M15 => ?_)
    simp only [List.set_cons_succ, List.set_cons_zero] at M15
    refine k_iconst S dX8_undo_18 ?_
    refine k_istore_n S dX8_undo_19 (by decide) ?_
    exact loop wn 0 h15 (by omega) (by rw [cpM_0]; exact M15)
  · omega
theorem allC_ins {F : Nat → Int} {n a : Nat} {c : Int} (hF : allC F) (hc : 0 ≤ c ∧ c < 65536) : allC (insM F n a c) := fun q => by
  unfold insM
  split
  · exact hc
  · split <;> exact hF _
theorem allC_dn {F : Nat → Int} {a k : Nat} (hF : allC F) : allC (dnM F a k) := fun q => by
  unfold dnM
  split <;> exact hF _
def carT (k n : Nat) (sl : List Int) : Nat := match sl with | [] => k + n | s0 :: _ => k + s0.toNat
/-- expands(s) -/
theorem m_expands (D : DD) {h : GH} {cl sl : List Int} {s u : Nat} (hM : IsM h h mo am [gI th, gI sn, gI td, gI ((n : Nat)), gI ((a : Nat)), gI ((m : Nat)), gI ((cl.length : Nat)), gI ((sl.length : Nat)), gI wl, gI wc, gI ws, gI ex, gI kp, gI la, gL sv, gI cu] [tg, kd, tx, wa, ou, le, pn, on, ot, sp, wp, op, fw, of, sc]) (hs : s < 8) (hu : le s = (u : Nat)) (hx : allC tx) (hcl : allC ou) (hou : ∀ q, q < cl.length → ou q = cl.getD q 0) (hop : ∀ q, q < sl.length → op q = sl.getD q 0) (hsl : ∀ x ∈ sl, 0 ≤ x ∧ x ≤ 200) (hsn : sl.length ≤ 200) (ha : u ≤ a ∧ a ≤ n ∧ n ≤ 80) (hm : m ≤ 400) (hroom : n - u + cl.length ≤ 80) : GMet D yX8_expands cX8_expands 4 none [] 2 0 0 [gR (some mo), gI s] h (pv (fun h1 => ∃ TX SP : Nat → Int, IsM h h1 mo am [gI th, gI sn, gI td, gI (((n - u + cl.length : Nat))), gI (((carT (a - u) cl.length sl : Nat) : Int)), gI (((sl.length - 1 : Nat))), gI ((cl.length : Nat)), gI ((sl.length : Nat)), gI ((n : Nat)), gI ((a : Nat)), gI ((m : Nat)), gI (ex + 1), gI (kp + 1), gI ((cl.length : Nat) - le s), gL (sv + ((cl.length : Nat) - le s)), gI cu] [tg, kd, TX, (cpM tx wa n), ou, le, pn, on, ot, SP, (cpM sp wp m), op, fw, of, sc] ∧ (∀ q, q < n - u + cl.length → TX q = splT tx (a - u) u cl cl.length q) ∧ (∀ q, q < sl.length - 1 → SP q = ((a - u : Nat) : Int) + sl.getD (q + 1) 0) ∧ allC TX)) := by
  refine GMet.intro RX8 rfl (by decide) (gcats rfl) (Nat.le_of_ble_eq_true rfl) fun K KX S => ?_
  show K 0 [some _, some _, none, none] [] _ 0 0
  have es : ((s : Nat) : Int).toNat = s := by omega
  -- the end
  have at139 : ∀ (h5 : GH) (TX SP : Nat → Int) (x2 x3 : Option GV), IsM h h5 mo am [gI th, gI sn, gI td, gI (((n - u + cl.length : Nat))), gI (((carT (a - u) cl.length sl : Nat) : Int)), gI (((sl.length - 1 : Nat))), gI ((cl.length : Nat)), gI ((sl.length : Nat)), gI ((n : Nat)), gI ((a : Nat)), gI ((m : Nat)), gI ex, gI kp, gI ((cl.length : Nat) - le s), gL sv, gI cu] [tg, kd, TX, (cpM tx wa n), ou, le, pn, on, ot, SP, (cpM sp wp m), op, fw, of, sc] → (∀ q, q < n - u + cl.length → TX q = splT tx (a - u) u cl cl.length q) ∧ (∀ q, q < sl.length - 1 → SP q = ((a - u : Nat) : Int) + sl.getD (q + 1) 0) ∧ allC TX → K 139 [some (gR (some mo)), some (gI s), x2, x3] [] h5 0 0 := fun h5 TX SP x2 x3 M5 hp => by
    refine k_aload_n S dX8_expands_139 rfl ?_
    refine k_dup S dX8_expands_140 ?_
    refine k_getf S dX8_expands_141 f_X8_173 M5.1 (by rfl) ?_
    refine k_iconst S dX8_expands_144 ?_
    refine k_iadd S dX8_expands_145 ?_
    refine k_mput S dX8_expands_146 f_X8_173 M5 (gfit_int _) (Nat.le_of_ble_eq_true rfl) (fun h146 M146 => ?_)
    simp only [List.set_cons_succ, List.set_cons_zero] at M146
    refine k_aload_n S dX8_expands_149 rfl ?_
    refine k_dup S dX8_expands_150 ?_
    refine k_getf S dX8_expands_151 f_X8_176 M146.1 (by rfl) ?_
    refine k_iconst S dX8_expands_154 ?_
    refine k_iadd S dX8_expands_155 ?_
    refine k_mput S dX8_expands_156 f_X8_176 M146 (gfit_int _) (Nat.le_of_ble_eq_true rfl) (fun h156 M156 => ?_)
    simp only [List.set_cons_succ, List.set_cons_zero] at M156
    refine k_aload_n S dX8_expands_159 rfl ?_
    refine k_dup S dX8_expands_160 ?_
    refine k_getf S dX8_expands_161 f_X8_179 M156.1 (by rfl) ?_
    refine k_aload_n S dX8_expands_164 rfl ?_
    refine k_getf S dX8_expands_165 f_X8_164 M156.1 (by rfl) ?_
    refine k_i2l S dX8_expands_168 (by omega) ?_
    refine k_ladd S dX8_expands_169 ?_
    refine k_mput S dX8_expands_170 f_X8_179 M156 (gfit_long _) (Nat.le_of_ble_eq_true rfl) (fun h170 M170 => ?_)
    simp only [List.set_cons_succ, List.set_cons_zero] at M170
    exact k_return S dX8_expands_173 ⟨rfl, TX, SP, M170, hp⟩ (by omega) (by omega)
  -- the stops
  have loop3 : ∀ (d k : Nat) (h5 : GH) (TX SP : Nat → Int), k + d = max sl.length 1 → 1 ≤ k → IsM h h5 mo am [gI th, gI sn, gI td, gI (((n - u + cl.length : Nat))), gI (((a - u + cl.length : Nat))), gI (((k - 1 : Nat))), gI ((cl.length : Nat)), gI ((sl.length : Nat)), gI ((n : Nat)), gI ((a : Nat)), gI ((m : Nat)), gI ex, gI kp, gI ((cl.length : Nat) - le s), gL sv, gI cu] [tg, kd, TX, (cpM tx wa n), ou, le, pn, on, ot, SP, (cpM sp wp m), op, fw, of, sc] → (∀ q, q < n - u + cl.length → TX q = splT tx (a - u) u cl cl.length q) ∧ (∀ q, q < k - 1 → SP q = ((a - u : Nat) : Int) + sl.getD (q + 1) 0) ∧ allC TX → K 79 [some (gR (some mo)), some (gI s), some (gI ((a - u : Nat))), some (gI k)] [] h5 0 0 := by
    intro d
    induction d with
    | zero =>
      intro k h5 TX SP hk hk1 M5 hp
      have r9 : sl.length ≤ 200 := hsn
      refine k_iload_n S dX8_expands_79 rfl ?_
      refine k_aload_n S dX8_expands_80 rfl ?_
      refine k_getf S dX8_expands_81 f_X8_115 M5.1 (by rfl) ?_
      refine k_icmp_ge (tgt := 120) S dX8_expands_84 (by decide) (by omega) (by omega) (fun c84 => ?_) (fun c84 => ?_)
      · refine k_aload_n S dX8_expands_120 rfl ?_
        refine k_getf S dX8_expands_121 f_X8_115 M5.1 (by rfl) ?_
        refine k_if_le (tgt := 139) S dX8_expands_124 (by decide) (by omega) (fun c124 => ?_) (fun c124 => ?_)
        · have e0 : sl = [] := List.eq_nil_of_length_eq_zero (by omega)
          have e9 : k - 1 = sl.length - 1 := by omega
          rw [e9] at M5 hp
          refine at139 h5 TX SP _ _ ?_ hp
          subst e0
          exact M5
        · have e9 : k - 1 = sl.length - 1 := by omega
          rw [e9] at M5 hp
          have e0 : op 0 = sl.getD 0 0 := hop 0 (by omega)
          cases hsl2 : sl with
          | nil => rw [hsl2] at c124; simp at c124
          | cons s0 tl =>
            have s0r := hsl s0 (by rw [hsl2]; exact List.mem_cons_self)
            have e1 : op 0 = s0 := by rw [e0, hsl2]; rfl
            have e2 : ((a - u : Nat) : Int) + s0 = ((carT (a - u) cl.length sl : Nat) : Int) := by rw [hsl2]; show _ = ((a - u + s0.toNat : Nat) : Int); omega
            refine k_aload_n S dX8_expands_127 rfl ?_
            refine k_iload_n S dX8_expands_128 rfl ?_
            refine k_aload_n S dX8_expands_129 rfl ?_
            refine k_getf S dX8_expands_130 f_X8_48 M5.1 (by rfl) ?_
            refine k_iconst S dX8_expands_133 ?_
            refine k_iaload S dX8_expands_134 (M5.ld (j := 11) rfl rfl) (by omega) ?_
            rw [show (0 : Int).toNat = 0 from rfl, e1]
            refine k_iadd S dX8_expands_135 ?_
            rw [e2]
            refine k_mput S dX8_expands_136 f_X8_136 M5 (gfit_int _) (Nat.le_of_ble_eq_true rfl) (fun h136 M136 => ?_)
            simp only [List.set_cons_succ, List.set_cons_zero] at M136
            exact at139 h136 TX SP _ _ M136 hp
      · omega
    | succ d ih =>
      intro k h5 TX SP hk hk1 M5 hp
      have e1 : ((k : Nat) : Int).toNat = k := by omega
      have e2 : ((k - 1 : Nat) : Int).toNat = k - 1 := by omega
      have e3 := hop k (by omega)
      refine k_iload_n S dX8_expands_79 rfl ?_
      refine k_aload_n S dX8_expands_80 rfl ?_
      refine k_getf S dX8_expands_81 f_X8_115 M5.1 (by rfl) ?_
      refine k_icmp_ge (tgt := 120) S dX8_expands_84 (by decide) (by omega) (by omega) (fun c84 => ?_) (fun c84 => ?_)
      · omega
      · refine k_aload_n S dX8_expands_87 rfl ?_
        refine k_getf S dX8_expands_88 f_X8_42 M5.1 (by rfl) ?_
        refine k_aload_n S dX8_expands_91 rfl ?_
        refine k_getf S dX8_expands_92 f_X8_149 M5.1 (by rfl) ?_
        refine k_iload_n S dX8_expands_95 rfl ?_
        refine k_aload_n S dX8_expands_96 rfl ?_
        refine k_getf S dX8_expands_97 f_X8_48 M5.1 (by rfl) ?_
        refine k_iload_n S dX8_expands_100 rfl ?_
        refine k_iaload S dX8_expands_101 (M5.ld (j := 11) rfl rfl) (by omega) ?_
        rw [e1, e3]
        refine k_iadd S dX8_expands_102 ?_
        refine k_mist (j := 9) S dX8_expands_103 M5 rfl rfl (by omega) (fun h103 M103 => ?_)
        simp only [List.set_cons_succ, List.set_cons_zero] at M103
        rw [e2] at M103
        refine k_aload_n S dX8_expands_104 rfl ?_
        refine k_dup S dX8_expands_105 ?_
        refine k_getf S dX8_expands_106 f_X8_149 M103.1 (by rfl) ?_
        refine k_iconst S dX8_expands_109 ?_
        refine k_iadd S dX8_expands_110 ?_
        refine k_mput S dX8_expands_111 f_X8_149 M103 (gfit_int _) (Nat.le_of_ble_eq_true rfl) (fun h111 M111 => ?_)
        simp only [List.set_cons_succ, List.set_cons_zero] at M111
        rw [show ((k - 1 : Nat) : Int) + 1 = ((k + 1 - 1 : Nat) : Int) by omega] at M111
        refine k_iinc S dX8_expands_114 rfl (by decide) ?_
        refine k_goto (tgt := 79) S dX8_expands_117 (by decide) ?_
        refine ih (k + 1) h111 TX _ (by omega) (by omega) M111 ⟨hp.1, fun q hq => ?_, hp.2.2⟩
        by_cases e : q = k - 1
        · subst e
          rw [gupd_s, show k - 1 + 1 = k by omega]
        · rw [gupd_n _ _ e]
          exact hp.2.1 q (by omega)
  -- the characters
  have loop2 : ∀ (d k : Nat) (h5 : GH) (TX : Nat → Int), k + d = cl.length → IsM h h5 mo am [gI th, gI sn, gI td, gI (((n - u + k : Nat))), gI (((a - u + k : Nat))), gI ((m : Nat)), gI ((cl.length : Nat)), gI ((sl.length : Nat)), gI ((n : Nat)), gI ((a : Nat)), gI ((m : Nat)), gI ex, gI kp, gI ((cl.length : Nat) - le s), gL sv, gI cu] [tg, kd, TX, (cpM tx wa n), ou, le, pn, on, ot, sp, (cpM sp wp m), op, fw, of, sc] → (∀ q, q < n - u + k → TX q = splT tx (a - u) u cl k q) ∧ allC TX → K 48 [some (gR (some mo)), some (gI s), some (gI ((a - u : Nat))), some (gI k)] [] h5 0 0 := by
    intro d
    induction d with
    | zero =>
      intro k h5 TX hk M5 hp
      have ek : k = cl.length := by omega
      subst ek
      refine k_iload_n S dX8_expands_48 rfl ?_
      refine k_aload_n S dX8_expands_49 rfl ?_
      refine k_getf S dX8_expands_50 f_X8_97 M5.1 (by rfl) ?_
      refine k_icmp_ge (tgt := 72) S dX8_expands_53 (by decide) (by omega) (by omega) (fun c53 => ?_) (fun c53 => ?_)
      · refine k_aload_n S dX8_expands_72 rfl ?_
        refine k_iconst S dX8_expands_73 ?_
        refine k_mput S dX8_expands_74 f_X8_149 M5 (gfit_int _) (Nat.le_of_ble_eq_true rfl) (fun h74 M74 => ?_)
        simp only [List.set_cons_succ, List.set_cons_zero] at M74
        refine k_iconst S dX8_expands_77 ?_
        refine k_istore_n S dX8_expands_78 (by decide) ?_
        exact loop3 (max sl.length 1 - 1) 1 h74 TX sp (by omega) (by omega) M74 ⟨hp.1, fun q hq => by omega, hp.2⟩
      · omega
    | succ d ih =>
      intro k h5 TX hk M5 hp
      have e1 : ((k : Nat) : Int).toNat = k := by omega
      have e3 := hou k (by omega)
      have r1 := hcl k
      refine k_iload_n S dX8_expands_48 rfl ?_
      refine k_aload_n S dX8_expands_49 rfl ?_
      refine k_getf S dX8_expands_50 f_X8_97 M5.1 (by rfl) ?_
      refine k_icmp_ge (tgt := 72) S dX8_expands_53 (by decide) (by omega) (by omega) (fun c53 => ?_) (fun c53 => ?_)
      · omega
      · refine k_aload_n S dX8_expands_56 rfl ?_
        refine k_aload_n S dX8_expands_57 rfl ?_
        refine k_getf S dX8_expands_58 f_X8_26 M5.1 (by rfl) ?_
        refine k_iload_n S dX8_expands_61 rfl ?_
        refine k_caload S dX8_expands_62 (M5.ld (j := 4) rfl rfl) (by omega) ?_
        rw [e1]
        refine k_callV_v S dX8_expands_63 v_X8_170 (m_insert D M5.rb hp.2 r1 (by omega)) M5.1 (fun h63 hp63 => ?_) rfl rfl (by decide) (by omega) (by omega) (Nat.le_of_ble_eq_true rfl)
        have M63 := M5.tr hp63
        refine k_iinc S dX8_expands_66 rfl (by decide) ?_
        refine k_goto (tgt := 48) S dX8_expands_69 (by decide) ?_
        refine ih (k + 1) h63 _ (by omega) M63 ⟨fun q hq => ?_, allC_ins hp.2 r1⟩
        unfold insM
        by_cases e : q = a - u + k
        · subst e
          rw [if_pos rfl, e3, splT, if_neg (by omega), if_pos (by omega), show a - u + k - (a - u) = k by omega]
        · rw [if_neg e]
          by_cases e9 : a - u + k < q ∧ q ≤ n - u + k
          · rw [if_pos e9, hp.1 (q - 1) (by omega), splT, splT, if_neg (by omega), if_neg (by omega), if_neg (by omega), if_neg (by omega), show q - 1 - k + u = q - (k + 1) + u by omega]
          · rw [if_neg e9, hp.1 q (by omega), splT, splT]
            by_cases e8 : q < a - u
            · rw [if_pos e8, if_pos e8]
            · rw [if_neg e8, if_neg e8, if_pos (by omega), if_pos (by omega)]
  -- the trigger
  have loop1 : ∀ (d k : Nat) (h5 : GH) (TX : Nat → Int), k + d = u → IsM h h5 mo am [gI th, gI sn, gI td, gI (((n - k : Nat))), gI (((a - k : Nat))), gI ((m : Nat)), gI ((cl.length : Nat)), gI ((sl.length : Nat)), gI ((n : Nat)), gI ((a : Nat)), gI ((m : Nat)), gI ex, gI kp, gI ((cl.length : Nat) - le s), gL sv, gI cu] [tg, kd, TX, (cpM tx wa n), ou, le, pn, on, ot, sp, (cpM sp wp m), op, fw, of, sc] → (∀ q, q < n - k → TX q = splT tx (a - k) k cl 0 q) ∧ allC TX → K 21 [some (gR (some mo)), some (gI s), some (gI k), none] [] h5 0 0 := by
    intro d
    induction d with
    | zero =>
      intro k h5 TX hk M5 hp
      have ek : k = u := by omega
      subst ek
      refine k_iload_n S dX8_expands_21 rfl ?_
      refine k_aload_n S dX8_expands_22 rfl ?_
      refine k_getf S dX8_expands_23 f_X8_29 M5.1 (by rfl) ?_
      refine k_iload_n S dX8_expands_26 rfl ?_
      refine k_iaload S dX8_expands_27 (M5.ld (j := 5) rfl rfl) (by omega) ?_
      rw [es, hu]
      refine k_icmp_ge (tgt := 41) S dX8_expands_28 (by decide) (by omega) (by omega) (fun c28 => ?_) (fun c28 => ?_)
      · refine k_aload_n S dX8_expands_41 rfl ?_
        refine k_getf S dX8_expands_42 f_X8_136 M5.1 (by rfl) ?_
        refine k_istore_n S dX8_expands_45 (by decide) ?_
        refine k_iconst S dX8_expands_46 ?_
        refine k_istore_n S dX8_expands_47 (by decide) ?_
        exact loop2 cl.length 0 h5 TX (by omega) M5 hp
      · omega
    | succ d ih =>
      intro k h5 TX hk M5 hp
      refine k_iload_n S dX8_expands_21 rfl ?_
      refine k_aload_n S dX8_expands_22 rfl ?_
      refine k_getf S dX8_expands_23 f_X8_29 M5.1 (by rfl) ?_
      refine k_iload_n S dX8_expands_26 rfl ?_
      refine k_iaload S dX8_expands_27 (M5.ld (j := 5) rfl rfl) (by omega) ?_
      rw [es, hu]
      refine k_icmp_ge (tgt := 41) S dX8_expands_28 (by decide) (by omega) (by omega) (fun c28 => ?_) (fun c28 => ?_)
      · omega
      · refine k_aload_n S dX8_expands_31 rfl ?_
        refine k_callV_v S dX8_expands_32 v_X8_167 (m_takeOut D M5.rb hp.2 (by omega)) M5.1 (fun h32 hp32 => ?_) rfl rfl (by decide) (by omega) (by omega) (Nat.le_of_ble_eq_true rfl)
        have M32 := M5.tr hp32
        rw [show n - k - 1 = n - (k + 1) by omega, show a - k - 1 = a - (k + 1) by omega] at M32
        refine k_iinc S dX8_expands_35 rfl (by decide) ?_
        refine k_goto (tgt := 21) S dX8_expands_38 (by decide) ?_
        refine ih (k + 1) h32 _ (by omega) M32 ⟨fun q hq => ?_, allC_dn hp.2⟩
        unfold dnM
        by_cases e : a - (k + 1) ≤ q ∧ q < n - (k + 1)
        · rw [if_pos e, hp.1 (q + 1) (by omega), splT, splT, if_neg (by omega), if_neg (by omega), if_neg (by omega), if_neg (by omega), show q + 1 - 0 + k = q - 0 + (k + 1) by omega]
        · rw [if_neg e, hp.1 q (by omega), splT, splT, if_pos (by omega), if_pos (by omega)]
  refine k_aload_n S dX8_expands_0 rfl ?_
  refine k_callV_v S dX8_expands_1 v_X8_161 (m_keeps D hM hx (by omega) hm) hM.1 (fun h1 hp1 => ?_) rfl rfl (by decide) (by omega) (by omega) (Nat.le_of_ble_eq_true rfl)
  refine k_aload_n S dX8_expands_4 rfl ?_
  refine k_aload_n S dX8_expands_5 rfl ?_
  refine k_getf S dX8_expands_6 f_X8_97 hp1.1 (by rfl) ?_
  refine k_aload_n S dX8_expands_9 rfl ?_
  refine k_getf S dX8_expands_10 f_X8_29 hp1.1 (by rfl) ?_
  refine k_iload_n S dX8_expands_13 rfl ?_
  refine k_iaload S dX8_expands_14 (hp1.ld (j := 5) rfl rfl) (by omega) ?_
  rw [es]
  refine k_isub S dX8_expands_15 ?_
  refine k_mput S dX8_expands_16 f_X8_164 hp1 (gfit_int _) (Nat.le_of_ble_eq_true rfl) (fun h16 M16 => ?_)
  simp only [List.set_cons_succ, List.set_cons_zero] at M16
  refine k_iconst S dX8_expands_19 ?_
  refine k_istore_n S dX8_expands_20 (by decide) ?_
  refine loop1 u 0 h16 tx (by omega) M16 ⟨fun q hq => ?_, hx⟩
  unfold splT
  split
  · rfl
  · rw [if_neg (by omega)]
    rfl
end
