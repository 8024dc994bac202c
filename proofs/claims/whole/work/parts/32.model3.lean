/-! what a body comes to: by fuel -/
def sumR (g : Nat → Int) : Nat → Nat → Int
  | 0, _ => 0
  | n + 1, p => g p + sumR g n (p + 1)
def maxR (g : Nat → Int) : Nat → Nat → Int
  | 0, _ => 0
  | n + 1, p => max (g p) (maxR g n (p + 1))
def anyR (g : Nat → Prop) : Nat → Nat → Prop
  | 0, _ => False
  | n + 1, p => g p ∨ anyR g n (p + 1)
section
variable (pn kd on ot : Nat → Int)
def szF : Nat → Nat → Int
  | 0, _ => 0
  | f + 1, s => sumR (fun p => if kd p = 115 then 1 + szF f (on p).toNat else if kd p = 111 then 1 + max (szF f (on p).toNat) (szF f (ot p).toNat) else if kd p = 100 then 5 else 1) (pn s).toNat (12 * s)
def goF (t : Nat) : Nat → Nat → Prop
  | 0, _ => False
  | f + 1, s => anyR (fun p => ((kd p = 115 ∨ kd p = 111) ∧ (on p = (t : Nat) ∨ goF t f (on p).toNat)) ∨ (kd p = 111 ∧ (ot p = (t : Nat) ∨ goF t f (ot p).toNat))) (pn s).toNat (12 * s)
def dpF : Nat → Nat → Int
  | 0, _ => 0
  | f + 1, s => maxR (fun p => if kd p = 115 then dpF f (on p).toNat else if kd p = 111 then max (dpF f (on p).toNat) (dpF f (ot p).toNat) else 0) (pn s).toNat (12 * s) + 1
end
def allC (f : Nat → Int) : Prop := ∀ q, 0 ≤ f q ∧ f q < 65536
def BOk (sn : Int) (pn kd on ot : Nat → Int) (rk : Nat → Nat) : Prop := ∀ s : Nat, (s : Int) < sn → (0 ≤ pn s ∧ pn s ≤ 12) ∧ ∀ p : Nat, 12 * s ≤ p → (p : Int) < 12 * (s : Nat) + pn s → ((kd p = 115 ∨ kd p = 111) → 0 ≤ on p ∧ on p < sn ∧ rk (on p).toNat < rk s) ∧ (kd p = 111 → 0 ≤ ot p ∧ ot p < sn ∧ rk (ot p).toNat < rk s)
section
variable {h : GH} {mo : Nat} {am : Nat → Nat} {th sn td ln ca st ld ls wl wc ws ex kp la sv cu : Int} {tg kd tx wa ou le pn on ot sp wp op fw of sc : Nat → Int} {rk : Nat → Nat}
/-- size(s) -/
theorem m_size (D : DD) (hM : IsM h h mo am [gI th, gI sn, gI td, gI ln, gI ca, gI st, gI ld, gI ls, gI wl, gI wc, gI ws, gI ex, gI kp, gI la, gL sv, gI cu] [tg, kd, tx, wa, ou, le, pn, on, ot, sp, wp, op, fw, of, sc]) (hn : 0 ≤ sn ∧ sn ≤ 8) (hk : allC kd) (hB : BOk sn pn kd on ot rk) (hR : ∀ f s : Nat, (s : Int) < sn → 0 ≤ szF pn kd on ot f s ∧ szF pn kd on ot f s < 2147483648) : ∀ f s : Nat, (s : Int) < sn → rk s < f → GMet D yX8_size cX8_size 6 (some .int) [] f 0 0 [gR (some mo), gI s] h (pr (gI (szF pn kd on ot f s)) (fun h1 => h1 = h)) := by
  intro f
  induction f with
  | zero => intro s hs hr; omega
  | succ f ih =>
    intro s hs hr
    refine GMet.intro RX8 rfl (by decide) (gcats rfl) (Nat.le_of_ble_eq_true rfl) fun K KX S => ?_
    show K 0 [some _, some _, none, none, none, none] [] _ 0 0
    obtain ⟨⟨hp0, hp12⟩, hb⟩ := hB s hs
    obtain ⟨n, hn2⟩ := Int.eq_ofNat_of_zero_le hp0
    have es : ((s : Nat) : Int).toNat = s := by omega
    have en : (pn s).toNat = n := by omega
    have loop : ∀ (d p : Nat) (sum : Int) (v4 v5 : Option GV), 12 * s ≤ p → p + d = 12 * s + n → szF pn kd on ot (f + 1) s = sum + sumR (fun p => if kd p = 115 then 1 + szF pn kd on ot f (on p).toNat else if kd p = 111 then 1 + max (szF pn kd on ot f (on p).toNat) (szF pn kd on ot f (ot p).toNat) else if kd p = 100 then 5 else 1) d p → K 7 [some (gR (some mo)), some (gI s), some (gI sum), some (gI p), v4, v5] [] h 0 0 := by
      intro d
      induction d with
      | zero =>
        intro p sum v4 v5 hp1 hp2 hv
        refine k_iload_n S dX8_size_7 rfl ?_
        refine k_bipush S dX8_size_8 ?_
        refine k_iload_n S dX8_size_10 rfl ?_
        refine k_imul S dX8_size_11 ?_
        refine k_aload_n S dX8_size_12 rfl ?_
        refine k_getf S dX8_size_13 f_X8_33 hM.1 (by rfl) ?_
        refine k_iload_n S dX8_size_16 rfl ?_
        refine k_iaload S dX8_size_17 (hM.ld (j := 6) rfl rfl) (by omega) ?_
        rw [es, hn2]
        refine k_iadd S dX8_size_18 ?_
        refine k_icmp_ge (tgt := 133) S dX8_size_19 (by decide) (by omega) (by omega) (fun c19 => ?_) (fun c19 => ?_)
        · refine k_iload_n S dX8_size_133 rfl ?_
          exact k_ireturn S dX8_size_134 ⟨by rw [hv, sumR, Int.add_zero], rfl⟩ (by omega) (by omega)
        · omega
      | succ d ih2 =>
        intro p sum v4 v5 hp1 hp2 hv
        have ep : ((p : Nat) : Int).toNat = p := by omega
        obtain ⟨b1, b2⟩ := hb p (by omega) (by omega)
        have kr := hk p
        have next : ∀ (x : Int) (v4 v5 : Option GV), x = sum + (fun p => if kd p = 115 then 1 + szF pn kd on ot f (on p).toNat else if kd p = 111 then 1 + max (szF pn kd on ot f (on p).toNat) (szF pn kd on ot f (ot p).toNat) else if kd p = 100 then 5 else 1) p → K 127 [some (gR (some mo)), some (gI s), some (gI x), some (gI p), v4, v5] [] h 0 0 := fun x v4 v5 hx => by
          refine k_iinc S dX8_size_127 rfl (by decide) ?_
          refine k_goto (tgt := 7) S dX8_size_130 (by decide) ?_
          refine ih2 (p + 1) x v4 v5 (by omega) (by omega) ?_
          rw [hv, sumR, hx, Int.add_assoc]
        refine k_iload_n S dX8_size_7 rfl ?_
        refine k_bipush S dX8_size_8 ?_
        refine k_iload_n S dX8_size_10 rfl ?_
        refine k_imul S dX8_size_11 ?_
        refine k_aload_n S dX8_size_12 rfl ?_
        refine k_getf S dX8_size_13 f_X8_33 hM.1 (by rfl) ?_
        refine k_iload_n S dX8_size_16 rfl ?_
        refine k_iaload S dX8_size_17 (hM.ld (j := 6) rfl rfl) (by omega) ?_
        rw [es, hn2]
        refine k_iadd S dX8_size_18 ?_
        refine k_icmp_ge (tgt := 133) S dX8_size_19 (by decide) (by omega) (by omega) (fun c19 => ?_) (fun c19 => ?_)
        · omega
        · refine k_aload_n S dX8_size_22 rfl ?_
          refine k_getf S dX8_size_23 f_X8_17 hM.1 (by rfl) ?_
          refine k_iload_n S dX8_size_26 rfl ?_
          refine k_caload S dX8_size_27 (hM.ld (j := 1) rfl rfl) (by omega) ?_
          rw [ep]
          refine k_bipush S dX8_size_28 ?_
          refine k_icmp_ne (tgt := 51) S dX8_size_30 (by decide) (by omega) (by omega) (fun c30 => ?_) (fun c30 => ?_)
          · refine k_aload_n S dX8_size_51 rfl ?_
            refine k_getf S dX8_size_52 f_X8_17 hM.1 (by rfl) ?_
            refine k_iload_n S dX8_size_55 rfl ?_
            refine k_caload S dX8_size_56 (hM.ld (j := 1) rfl rfl) (by omega) ?_
            rw [ep]
            refine k_bipush S dX8_size_57 ?_
            refine k_icmp_ne (tgt := 108) S dX8_size_59 (by decide) (by omega) (by omega) (fun c59 => ?_) (fun c59 => ?_)
            · refine k_iload_n S dX8_size_108 rfl ?_
              refine k_aload_n S dX8_size_109 rfl ?_
              refine k_getf S dX8_size_110 f_X8_17 hM.1 (by rfl) ?_
              refine k_iload_n S dX8_size_113 rfl ?_
              refine k_caload S dX8_size_114 (hM.ld (j := 1) rfl rfl) (by omega) ?_
              rw [ep]
              refine k_bipush S dX8_size_115 ?_
              refine k_icmp_ne (tgt := 124) S dX8_size_117 (by decide) (by omega) (by omega) (fun c117 => ?_) (fun c117 => ?_)
              · refine k_iconst S dX8_size_124 ?_
                refine k_iadd S dX8_size_125 ?_
                refine k_istore_n S dX8_size_126 (by decide) ?_
                refine next _ _ _ ?_
                dsimp only
                rw [if_neg c30, if_neg c59, if_neg c117]
              · refine k_iconst S dX8_size_120 ?_
                refine k_goto (tgt := 125) S dX8_size_121 (by decide) ?_
                refine k_iadd S dX8_size_125 ?_
                refine k_istore_n S dX8_size_126 (by decide) ?_
                refine next _ _ _ ?_
                dsimp only
                rw [if_neg c30, if_neg c59, if_pos (by omega)]
            · have k1 : kd p = 111 := by omega
              obtain ⟨o1, o2, o3⟩ := b1 (Or.inr k1)
              obtain ⟨o4, o5, o6⟩ := b2 k1
              have r1 := hR f (on p).toNat (by omega)
              have r2 := hR f (ot p).toNat (by omega)
              have e1 : on p = ((on p).toNat : Nat) := by omega
              have e2 : ot p = ((ot p).toNat : Nat) := by omega
              refine k_aload_n S dX8_size_62 rfl ?_
              refine k_aload_n S dX8_size_63 rfl ?_
              refine k_getf S dX8_size_64 f_X8_36 hM.1 (by rfl) ?_
              refine k_iload_n S dX8_size_67 rfl ?_
              refine k_iaload S dX8_size_68 (hM.ld (j := 7) rfl rfl) (by omega) ?_
              rw [ep, e1]
              refine k_callV_r S dX8_size_69 v_X8_86 (ih (on p).toNat (by omega) (by omega)) hM.1 (fun h69 hp69 => ?_) rfl rfl (Nat.lt_succ_self _) (by omega) (by omega) (Nat.le_of_ble_eq_true rfl)
              rw [hp69]
              refine k_istore S dX8_size_72 (by decide) ?_
              refine k_aload_n S dX8_size_74 rfl ?_
              refine k_aload_n S dX8_size_75 rfl ?_
              refine k_getf S dX8_size_76 f_X8_39 hM.1 (by rfl) ?_
              refine k_iload_n S dX8_size_79 rfl ?_
              refine k_iaload S dX8_size_80 (hM.ld (j := 8) rfl rfl) (by omega) ?_
              rw [ep, e2]
              refine k_callV_r S dX8_size_81 v_X8_86 (ih (ot p).toNat (by omega) (by omega)) hM.1 (fun h81 hp81 => ?_) rfl rfl (Nat.lt_succ_self _) (by omega) (by omega) (Nat.le_of_ble_eq_true rfl)
              rw [hp81]
              refine k_istore S dX8_size_84 (by decide) ?_
              refine k_iload_n S dX8_size_86 rfl ?_
              refine k_iconst S dX8_size_87 ?_
              refine k_iload S dX8_size_88 rfl ?_
              refine k_iload S dX8_size_90 rfl ?_
              refine k_icmp_le (tgt := 100) S dX8_size_92 (by decide) (by omega) (by omega) (fun c92 => ?_) (fun c92 => ?_)
              · refine k_iload S dX8_size_100 rfl ?_
                refine k_iadd S dX8_size_102 ?_
                refine k_iadd S dX8_size_103 ?_
                refine k_istore_n S dX8_size_104 (by decide) ?_
                refine k_goto (tgt := 127) S dX8_size_105 (by decide) ?_
                refine next _ _ _ ?_
                dsimp only
                rw [if_neg c30, if_pos k1]
                omega
              · refine k_iload S dX8_size_95 rfl ?_
                refine k_goto (tgt := 102) S dX8_size_97 (by decide) ?_
                refine k_iadd S dX8_size_102 ?_
                refine k_iadd S dX8_size_103 ?_
                refine k_istore_n S dX8_size_104 (by decide) ?_
                refine k_goto (tgt := 127) S dX8_size_105 (by decide) ?_
                refine next _ _ _ ?_
                dsimp only
                rw [if_neg c30, if_pos k1]
                omega
          · have k1 : kd p = 115 := by omega
            obtain ⟨o1, o2, o3⟩ := b1 (Or.inl k1)
            have e1 : on p = ((on p).toNat : Nat) := by omega
            refine k_iload_n S dX8_size_33 rfl ?_
            refine k_iconst S dX8_size_34 ?_
            refine k_aload_n S dX8_size_35 rfl ?_
            refine k_aload_n S dX8_size_36 rfl ?_
            refine k_getf S dX8_size_37 f_X8_36 hM.1 (by rfl) ?_
            refine k_iload_n S dX8_size_40 rfl ?_
            refine k_iaload S dX8_size_41 (hM.ld (j := 7) rfl rfl) (by omega) ?_
            rw [ep, e1]
            refine k_callV_r S dX8_size_42 v_X8_86 (ih (on p).toNat (by omega) (by omega)) hM.1 (fun h42 hp42 => ?_) rfl rfl (Nat.lt_succ_self _) (by omega) (by omega) (Nat.le_of_ble_eq_true rfl)
            rw [hp42]
            refine k_iadd S dX8_size_45 ?_
            refine k_iadd S dX8_size_46 ?_
            refine k_istore_n S dX8_size_47 (by decide) ?_
            refine k_goto (tgt := 127) S dX8_size_48 (by decide) ?_
            refine next _ _ _ ?_
            dsimp only
            rw [if_pos k1]
    refine k_iconst S dX8_size_0 ?_
    refine k_istore_n S dX8_size_1 (by decide) ?_
    refine k_bipush S dX8_size_2 ?_
    refine k_iload_n S dX8_size_4 rfl ?_
    refine k_imul S dX8_size_5 ?_
    refine k_istore_n S dX8_size_6 (by decide) ?_
    refine loop n (12 * s) 0 none none (by omega) (by omega) ?_
    rw [szF, en, Int.zero_add]
end
