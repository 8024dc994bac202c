section
variable {mo : Nat} {am : Nat → Nat} {th sn td ln ca st ld ls wl wc ws ex kp la sv cu : Int} {tg kd tx wa ou le pn on ot sp wp op fw of sc : Nat → Int}
/-- the share that is kept of x expansions, y of them kept -/
def kshare (y x : Int) : UInt32 := FP.fdiv (FP.i2f (Int32.ofInt y)) (FP.i2f (Int32.ofInt x))
theorem kshare_ok {y x : Int} (hx : 0 < x ∧ x ≤ 512) (hy : 0 ≤ y ∧ y ≤ x) : FP.Core.decode FP.Core.b32 (kshare y x).toNat ≠ .nan := by
  have := fl_div (x := y.toNat) (y := x.toNat) (by omega) (by omega)
  rw [show ((y.toNat : Nat) : Int) = y by omega, show ((x.toNat : Nat) : Int) = x by omega] at this
  exact this
/-- keptShare, no expansion -/
theorem m_keptShare_b (D : DD) {h : GH} (hM : IsM h h mo am [gI th, gI sn, gI td, gI ln, gI ca, gI st, gI ld, gI ls, gI wl, gI wc, gI ws, gI ex, gI kp, gI la, gL sv, gI cu] [tg, kd, tx, wa, ou, le, pn, on, ot, sp, wp, op, fw, of, sc]) (he : ex = 0) : GMet D yX8_keptShare cX8_keptShare 1 (some .float) [] 1 0 0 [gR (some mo)] h (pr (gF FP.fconst0) (fun h1 => IsM h h1 mo am [gI (1), gI sn, gI td, gI ln, gI ca, gI st, gI ld, gI ls, gI wl, gI wc, gI ws, gI ex, gI kp, gI la, gL sv, gI cu] [tg, kd, tx, wa, ou, le, pn, on, ot, sp, wp, op, fw, of, sc])) := by
  refine GMet.intro RX8 rfl (by decide) (gcats rfl) (Nat.le_of_ble_eq_true rfl) fun K KX S => ?_
  show K 0 [some _] [] _ 0 0
  refine k_aload_n S dX8_keptShare_0 rfl ?_
  refine k_aload_n S dX8_keptShare_1 rfl ?_
  refine k_getf S dX8_keptShare_2 f_X8_173 hM.1 (by rfl) ?_
  refine k_if_ne (tgt := 12) S dX8_keptShare_5 (by decide) (by omega) (fun c5 => ?_) (fun c5 => ?_)
  · omega
  · refine k_iconst S dX8_keptShare_8 ?_
    refine k_goto (tgt := 13) S dX8_keptShare_9 (by decide) ?_
    refine k_mput S dX8_keptShare_13 f_X8_61 hM (gfit_int _) (Nat.le_of_ble_eq_true rfl) (fun h13 M13 => ?_)
    simp only [List.set_cons_succ, List.set_cons_zero] at M13
    refine k_aload_n S dX8_keptShare_16 rfl ?_
    refine k_getf S dX8_keptShare_17 f_X8_173 M13.1 (by rfl) ?_
    refine k_if_ne (tgt := 27) S dX8_keptShare_20 (by decide) (by omega) (fun c20 => ?_) (fun c20 => ?_)
    · omega
    · refine k_fconst0 S dX8_keptShare_23 ?_
      refine k_goto (tgt := 38) S dX8_keptShare_24 (by decide) ?_
      exact k_freturn S dX8_keptShare_38 ⟨rfl, M13⟩ (by omega) (by omega)
/-- keptShare() -/
theorem m_keptShare_g (D : DD) {h : GH} (hM : IsM h h mo am [gI th, gI sn, gI td, gI ln, gI ca, gI st, gI ld, gI ls, gI wl, gI wc, gI ws, gI ex, gI kp, gI la, gL sv, gI cu] [tg, kd, tx, wa, ou, le, pn, on, ot, sp, wp, op, fw, of, sc]) (he : 0 < ex ∧ ex ≤ 512) (hk : 0 ≤ kp ∧ kp ≤ ex) : GMet D yX8_keptShare cX8_keptShare 1 (some .float) [] 1 0 0 [gR (some mo)] h (pr (gF (kshare kp ex)) (fun h1 => IsM h h1 mo am [gI (0), gI sn, gI td, gI ln, gI ca, gI st, gI ld, gI ls, gI wl, gI wc, gI ws, gI ex, gI kp, gI la, gL sv, gI cu] [tg, kd, tx, wa, ou, le, pn, on, ot, sp, wp, op, fw, of, sc])) := by
  refine GMet.intro RX8 rfl (by decide) (gcats rfl) (Nat.le_of_ble_eq_true rfl) fun K KX S => ?_
  show K 0 [some _] [] _ 0 0
  have hok := fl_n32 (kshare_ok he hk)
  refine k_aload_n S dX8_keptShare_0 rfl ?_
  refine k_aload_n S dX8_keptShare_1 rfl ?_
  refine k_getf S dX8_keptShare_2 f_X8_173 hM.1 (by rfl) ?_
  refine k_if_ne (tgt := 12) S dX8_keptShare_5 (by decide) (by omega) (fun c5 => ?_) (fun c5 => ?_)
  · refine k_iconst S dX8_keptShare_12 ?_
    refine k_mput S dX8_keptShare_13 f_X8_61 hM (gfit_int _) (Nat.le_of_ble_eq_true rfl) (fun h13 M13 => ?_)
    simp only [List.set_cons_succ, List.set_cons_zero] at M13
    refine k_aload_n S dX8_keptShare_16 rfl ?_
    refine k_getf S dX8_keptShare_17 f_X8_173 M13.1 (by rfl) ?_
    refine k_if_ne (tgt := 27) S dX8_keptShare_20 (by decide) (by omega) (fun c20 => ?_) (fun c20 => ?_)
    · refine k_aload_n S dX8_keptShare_27 rfl ?_
      refine k_getf S dX8_keptShare_28 f_X8_176 M13.1 (by rfl) ?_
      refine k_i2f S dX8_keptShare_31 ?_
      refine k_aload_n S dX8_keptShare_32 rfl ?_
      refine k_getf S dX8_keptShare_33 f_X8_173 M13.1 (by rfl) ?_
      refine k_i2f S dX8_keptShare_36 ?_
      refine k_fdiv S dX8_keptShare_37 hok ?_
      exact k_freturn S dX8_keptShare_38 ⟨rfl, M13⟩ (by omega) (by omega)
    · omega
  · omega
end
