/-! what a body comes to: by fuel -/
def sumR (g : Nat → Int) : Nat → Nat → Int
  | 0, _ => 0
  | n + 1, p => g p + sumR g n (p + 1)
def maxR (g : Nat → Int) : Nat → Nat → Int
  | 0, _ => 0
  | n + 1, p => max (g p) (maxR g n (p + 1))
def anyR (g : Nat → Prop) : Nat → Nat → Prop
  | 0, _ => False
  | n + 1, p => g p ∨ anyR g n (p + 1)
section
variable (pn kd on ot : Nat → Int)
def szF : Nat → Nat → Int
  | 0, _ => 0
  | f + 1, s => sumR (fun p => if kd p = 115 then 1 + szF f (on p).toNat else if kd p = 111 then 1 + max (szF f (on p).toNat) (szF f (ot p).toNat) else if kd p = 100 then 5 else 1) (pn s).toNat (12 * s)
def goF (t : Nat) : Nat → Nat → Prop
  | 0, _ => False
  | f + 1, s => anyR (fun p => ((kd p = 115 ∨ kd p = 111) ∧ (on p = (t : Nat) ∨ goF t f (on p).toNat)) ∨ (kd p = 111 ∧ (ot p = (t : Nat) ∨ goF t f (ot p).toNat))) (pn s).toNat (12 * s)
def dpF : Nat → Nat → Int
  | 0, _ => 0
  | f + 1, s => maxR (fun p => if kd p = 115 then dpF f (on p).toNat else if kd p = 111 then max (dpF f (on p).toNat) (dpF f (ot p).toNat) else 0) (pn s).toNat (12 * s) + 1
end
def allC (f : Nat → Int) : Prop := ∀ q, 0 ≤ f q ∧ f q < 65536
def BOk (sn : Int) (pn kd on ot : Nat → Int) (rk : Nat → Nat) : Prop := ∀ s : Nat, (s : Int) < sn → (0 ≤ pn s ∧ pn s ≤ 12) ∧ ∀ p : Nat, 12 * s ≤ p → (p : Int) < 12 * (s : Nat) + pn s → ((kd p = 115 ∨ kd p = 111) → 0 ≤ on p ∧ on p < sn ∧ rk (on p).toNat < rk s) ∧ (kd p = 111 → 0 ≤ ot p ∧ ot p < sn ∧ rk (ot p).toNat < rk s)
section
variable {h : GH} {mo : Nat} {am : Nat → Nat} {th sn td ln ca st ld ls wl wc ws ex kp la sv cu : Int} {tg kd tx wa ou le pn on ot sp wp op fw of sc : Nat → Int} {rk : Nat → Nat}
/-- size(s) -/
theorem m_size (D : DD) (hM : IsM h h mo am [gI th, gI sn, gI td, gI ln, gI ca, gI st, gI ld, gI ls, gI wl, gI wc, gI ws, gI ex, gI kp, gI la, gL sv, gI cu] [tg, kd, tx, wa, ou, le, pn, on, ot, sp, wp, op, fw, of, sc]) (hn : 0 ≤ sn ∧ sn ≤ 8) (hk : allC kd) (hB : BOk sn pn kd on ot rk) (hR : ∀ f s : Nat, (s : Int) < sn → 0 ≤ szF pn kd on ot f s ∧ szF pn kd on ot f s < 2147483648) : ∀ f s : Nat, (s : Int) < sn → rk s < f → GMet D yX8_size cX8_size 6 (some .int) [] f 0 0 [gR (some mo), gI s] h (pr (gI (szF pn kd on ot f s)) (fun h1 => h1 = h)) := by
  intro f
  induction f with
  | zero => intro s hs hr; omega
  | succ f ih =>
    intro s hs hr
    refine GMet.intro RX8 rfl (by decide) (gcats rfl) (Nat.le_of_ble_eq_true rfl) fun K KX S => ?_
    show K 0 [some _, some _, none, none, none, none] [] _ 0 0
    obtain ⟨⟨hp0, hp12⟩, hb⟩ := hB s hs
    obtain ⟨n, hn2⟩ := Int.eq_ofNat_of_zero_le hp0
    have es : ((s : Nat) : Int).toNat = s := by omega
    have en : (pn s).toNat = n := by omega
    have loop : ∀ (d p : Nat) (sum : Int) (v4 v5 : Option GV), 12 * s ≤ p → p + d = 12 * s + n → szF pn kd on ot (f + 1) s = sum + sumR (fun p => if kd p = 115 then 1 + szF pn kd on ot f (on p).toNat else if kd p = 111 then 1 + max (szF pn kd on ot f (on p).toNat) (szF pn kd on ot f (ot p).toNat) else if kd p = 100 then 5 else 1) d p → K 7 [some (gR (some mo)), some (gI s), some (gI sum), some (gI p), v4, v5] [] h 0 0 := by
      intro d
      induction d with
      | zero =>
        intro p sum v4 v5 hp1 hp2 hv
        refine k_iload_n S dX8_size_7 rfl ?_
        refine k_bipush S dX8_size_8 ?_
        refine k_iload_n S dX8_size_10 rfl ?_
        refine k_imul S dX8_size_11 ?_
        refine k_aload_n S dX8_size_12 rfl ?_
        refine k_getf S dX8_size_13 f_X8_33 hM.1 (by rfl) ?_
        refine k_iload_n S dX8_size_16 rfl ?_
        refine k_iaload S dX8_size_17 (hM.ld (j := 6) rfl rfl) (by omega) ?_
        rw [es, hn2]
        refine k_iadd S dX8_size_18 ?_
        refine k_icmp_ge (tgt := 133) S dX8_size_19 (by decide) (by omega) (by omega) (fun c19 => ?_) (fun c19 => ?_)
        · refine k_iload_n S dX8_size_133 rfl ?_
          exact k_ireturn S dX8_size_134 ⟨by rw [hv, sumR, Int.add_zero], rfl⟩ (by omega) (by omega)
        · omega
      | succ d ih2 =>
        intro p sum v4 v5 hp1 hp2 hv
        have ep : ((p : Nat) : Int).toNat = p := by omega
        obtain ⟨b1, b2⟩ := hb p (by omega) (by omega)
        have kr := hk p
        have next : ∀ (x : Int) (v4 v5 : Option GV), x = sum + (fun p => if kd p = 115 then 1 + szF pn kd on ot f (on p).toNat else if kd p = 111 then 1 + max (szF pn kd on ot f (on p).toNat) (szF pn kd on ot f (ot p).toNat) else if kd p = 100 then 5 else 1) p → K 127 [some (gR (some mo)), some (gI s), some (gI x), some (gI p), v4, v5] [] h 0 0 := fun x v4 v5 hx => by
          refine k_iinc S dX8_size_127 rfl (by decide) ?_
          refine k_goto (tgt := 7) S dX8_size_130 (by decide) ?_
          refine ih2 (p + 1) x v4 v5 (by omega) (by omega) ?_
          rw [hv, sumR, hx, Int.add_assoc]
        refine k_iload_n S dX8_size_7 rfl ?_
        refine k_bipush S dX8_size_8 ?_
        refine k_iload_n S dX8_size_10 rfl ?_
        refine k_imul S dX8_size_11 ?_
        refine k_aload_n S dX8_size_12 rfl ?_
        refine k_getf S dX8_size_13 f_X8_33 hM.1 (by rfl) ?_
        refine k_iload_n S dX8_size_16 rfl ?_
        refine k_iaload S dX8_size_17 (hM.ld (j := 6) rfl rfl) (by omega) ?_
        rw [es, hn2]
        refine k_iadd S dX8_size_18 ?_
        refine k_icmp_ge (tgt := 133) S dX8_size_19 (by decide) (by omega) (by omega) (fun c19 => ?_) (fun c19 => ?_)
        · omega
        · refine k_aload_n S dX8_size_22 rfl ?_
          refine k_getf S dX8_size_23 f_X8_17 hM.1 (by rfl) ?_
          refine k_iload_n S dX8_size_26 rfl ?_
          refine k_caload S dX8_size_27 (hM.ld (j := 1) rfl rfl) (by omega) ?_
          rw [ep]
          refine k_bipush S dX8_size_28 ?_
          refine k_icmp_ne (tgt := 51) S dX8_size_30 (by decide) (by omega) (by omega) (fun c30 => ?_) (fun c30 => ?_)
          · refine k_aload_n S dX8_size_51 rfl ?_
            refine k_getf S dX8_size_52 f_X8_17 hM.1 (by rfl) ?_
            refine k_iload_n S dX8_size_55 rfl ?_
            refine k_caload S dX8_size_56 (hM.ld (j := 1) rfl rfl) (by omega) ?_
            rw [ep]
            refine k_bipush S dX8_size_57 ?_
            refine k_icmp_ne (tgt := 108) S dX8_size_59 (by decide) (by omega) (by omega) (fun c59 => ?_) (fun c59 => ?_)
            · refine k_iload_n S dX8_size_108 rfl ?_
              refine k_aload_n S dX8_size_109 rfl ?_
              refine k_getf S dX8_size_110 f_X8_17 hM.1 (by rfl) ?_
              refine k_iload_n S dX8_size_113 rfl ?_
              refine k_caload S dX8_size_114 (hM.ld (j := 1) rfl rfl) (by omega) ?_
              rw [ep]
              refine k_bipush S dX8_size_115 ?_
              refine k_icmp_ne (tgt := 124) S dX8_size_117 (by decide) (by omega) (by omega) (fun c117 => ?_) (fun c117 => ?_)
              · refine k_iconst S dX8_size_124 ?_
                refine k_iadd S dX8_size_125 ?_
                refine k_istore_n S dX8_size_126 (by decide) ?_
                refine next _ _ _ ?_
                dsimp only
                rw [if_neg c30, if_neg c59, if_neg c117]
              · refine k_iconst S dX8_size_120 ?_
                refine k_goto (tgt := 125) S dX8_size_121 (by decide) ?_
                refine k_iadd S dX8_size_125 ?_
                refine k_istore_n S dX8_size_126 (by decide) ?_
                refine next _ _ _ ?_
                dsimp only
                rw [if_neg c30, if_neg c59, if_pos (by omega)]
            · have k1 : kd p = 111 := by omega
              obtain ⟨o1, o2, o3⟩ := b1 (Or.inr k1)
              obtain ⟨o4, o5, o6⟩ := b2 k1
              have r1 := hR f (on p).toNat (by omega)
              have r2 := hR f (ot p).toNat (by omega)
              have e1 : on p = ((on p).toNat : Nat) := by omega
              have e2 : ot p = ((ot p).toNat : Nat) := by omega
              refine k_aload_n S dX8_size_62 rfl ?_
              refine k_aload_n S dX8_size_63 rfl ?_
              refine k_getf S dX8_size_64 f_X8_36 hM.1 (by rfl) ?_
              refine k_iload_n S dX8_size_67 rfl ?_
              refine k_iaload S dX8_size_68 (hM.ld (j := 7) rfl rfl) (by omega) ?_
              rw [ep, e1]
              refine k_callV_r S dX8_size_69 v_X8_86 (ih (on p).toNat (by omega) (by omega)) hM.1 (fun h69 hp69 => ?_) rfl rfl (Nat.lt_succ_self _) (by omega) (by omega) (Nat.le_of_ble_eq_true rfl)
              rw [hp69]
              refine k_istore S dX8_size_72 (by decide) ?_
              refine k_aload_n S dX8_size_74 rfl ?_
              refine k_aload_n S dX8_size_75 rfl ?_
              refine k_getf S dX8_size_76 f_X8_39 hM.1 (by rfl) ?_
              refine k_iload_n S dX8_size_79 rfl ?_
              refine k_iaload S dX8_size_80 (hM.ld (j := 8) rfl rfl) (by omega) ?_
              rw [ep, e2]
              refine k_callV_r S dX8_size_81 v_X8_86 (ih (ot p).toNat (by omega) (by omega)) hM.1 (fun h81 hp81 => ?_) rfl rfl (Nat.lt_succ_self _) (by omega) (by omega) (Nat.le_of_ble_eq_true rfl)
              rw [hp81]
              refine k_istore S dX8_size_84 (by decide) ?_
              refine k_iload_n S dX8_size_86 rfl ?_
              refine k_iconst S dX8_size_87 ?_
              refine k_iload S dX8_size_88 rfl ?_
              refine k_iload S dX8_size_90 rfl ?_
              refine k_icmp_le (tgt := 100) S dX8_size_92 (by decide) (by omega) (by omega) (fun c92 => ?_) (fun c92 => ?_)
              · refine k_iload S dX8_size_100 rfl ?_
                refine k_iadd S dX8_size_102 ?_
                refine k_iadd S dX8_size_103 ?_
                refine k_istore_n S dX8_size_104 (by decide) ?_
                refine k_goto (tgt := 127) S dX8_size_105 (by decide) ?_
                refine next _ _ _ ?_
                dsimp only
                rw [if_neg c30, if_pos k1]
                omega
              · refine k_iload S dX8_size_95 rfl ?_
                refine k_goto (tgt := 102) S dX8_size_97 (by decide) ?_
                refine k_iadd S dX8_size_102 ?_
                refine k_iadd S dX8_size_103 ?_
                refine k_istore_n S dX8_size_104 (by decide) ?_
                refine k_goto (tgt := 127) S dX8_size_105 (by decide) ?_
                refine next _ _ _ ?_
                dsimp only
                rw [if_neg c30, if_pos k1]
                omega
          · have k1 : kd p = 115 := by omega
            obtain ⟨o1, o2, o3⟩ := b1 (Or.inl k1)
            have e1 : on p = ((on p).toNat : Nat) := by omega
            refine k_iload_n S dX8_size_33 rfl ?_
            refine k_iconst S dX8_size_34 ?_
            refine k_aload_n S dX8_size_35 rfl ?_
            refine k_aload_n S dX8_size_36 rfl ?_
            refine k_getf S dX8_size_37 f_X8_36 hM.1 (by rfl) ?_
            refine k_iload_n S dX8_size_40 rfl ?_
            refine k_iaload S dX8_size_41 (hM.ld (j := 7) rfl rfl) (by omega) ?_
            rw [ep, e1]
            refine k_callV_r S dX8_size_42 v_X8_86 (ih (on p).toNat (by omega) (by omega)) hM.1 (fun h42 hp42 => ?_) rfl rfl (Nat.lt_succ_self _) (by omega) (by omega) (Nat.le_of_ble_eq_true rfl)
            rw [hp42]
            refine k_iadd S dX8_size_45 ?_
            refine k_iadd S dX8_size_46 ?_
            refine k_istore_n S dX8_size_47 (by decide) ?_
            refine k_goto (tgt := 127) S dX8_size_48 (by decide) ?_
            refine next _ _ _ ?_
            dsimp only
            rw [if_pos k1]
    refine k_iconst S dX8_size_0 ?_
    refine k_istore_n S dX8_size_1 (by decide) ?_
    refine k_bipush S dX8_size_2 ?_
    refine k_iload_n S dX8_size_4 rfl ?_
    refine k_imul S dX8_size_5 ?_
    refine k_istore_n S dX8_size_6 (by decide) ?_
    refine loop n (12 * s) 0 none none (by omega) (by omega) ?_
    rw [szF, en, Int.zero_add]
/-- goesTo(s, t) -/
theorem m_goesTo (D : DD) (hM : IsM h h mo am [gI th, gI sn, gI td, gI ln, gI ca, gI st, gI ld, gI ls, gI wl, gI wc, gI ws, gI ex, gI kp, gI la, gL sv, gI cu] [tg, kd, tx, wa, ou, le, pn, on, ot, sp, wp, op, fw, of, sc]) (hn : 0 ≤ sn ∧ sn ≤ 8) (hk : allC kd) (hB : BOk sn pn kd on ot rk) {t : Nat} (ht : (t : Int) < sn) : ∀ f s : Nat, (s : Int) < sn → rk s < f → GMet D yX8_goesTo cX8_goesTo 4 (some .boolean) [] f 0 0 [gR (some mo), gI s, gI t] h (pr (gI (b01 (goF pn kd on ot t f s))) (fun h1 => h1 = h)) := by
  intro f
  induction f with
  | zero => intro s hs hr; omega
  | succ f ih =>
    intro s hs hr
    refine GMet.intro RX8 rfl (by decide) (gcats rfl) (Nat.le_of_ble_eq_true rfl) fun K KX S => ?_
    show K 0 [some _, some _, some _, none] [] _ 0 0
    obtain ⟨⟨hp0, hp12⟩, hb⟩ := hB s hs
    obtain ⟨n, hn2⟩ := Int.eq_ofNat_of_zero_le hp0
    have es : ((s : Nat) : Int).toNat = s := by omega
    have en : (pn s).toNat = n := by omega
    have loop : ∀ (d p : Nat), 12 * s ≤ p → p + d = 12 * s + n → (goF pn kd on ot t (f + 1) s ↔ anyR (fun p => ((kd p = 115 ∨ kd p = 111) ∧ (on p = (t : Nat) ∨ goF pn kd on ot t f (on p).toNat)) ∨ (kd p = 111 ∧ (ot p = (t : Nat) ∨ goF pn kd on ot t f (ot p).toNat))) d p) → K 5 [some (gR (some mo)), some (gI s), some (gI t), some (gI p)] [] h 0 0 := by
      intro d
      induction d with
      | zero =>
        intro p hp1 hp2 hv
        refine k_iload_n S dX8_goesTo_5 rfl ?_
        refine k_bipush S dX8_goesTo_6 ?_
        refine k_iload_n S dX8_goesTo_8 rfl ?_
        refine k_imul S dX8_goesTo_9 ?_
        refine k_aload_n S dX8_goesTo_10 rfl ?_
        refine k_getf S dX8_goesTo_11 f_X8_33 hM.1 (by rfl) ?_
        refine k_iload_n S dX8_goesTo_14 rfl ?_
        refine k_iaload S dX8_goesTo_15 (hM.ld (j := 6) rfl rfl) (by omega) ?_
        rw [es, hn2]
        refine k_iadd S dX8_goesTo_16 ?_
        refine k_icmp_ge (tgt := 111) S dX8_goesTo_17 (by decide) (by omega) (by omega) (fun c17 => ?_) (fun c17 => ?_)
        · refine k_iconst S dX8_goesTo_111 ?_
          exact k_zreturn S dX8_goesTo_112 (by omega) ⟨by rw [b01_f (fun z => hv.mp z)], rfl⟩ (by omega) (by omega)
        · omega
      | succ d ih2 =>
        intro p hp1 hp2 hv
        have ep : ((p : Nat) : Int).toNat = p := by omega
        obtain ⟨b1, b2⟩ := hb p (by omega) (by omega)
        have kr := hk p
        have at105 : ¬ (fun p => ((kd p = 115 ∨ kd p = 111) ∧ (on p = (t : Nat) ∨ goF pn kd on ot t f (on p).toNat)) ∨ (kd p = 111 ∧ (ot p = (t : Nat) ∨ goF pn kd on ot t f (ot p).toNat))) p → K 105 [some (gR (some mo)), some (gI s), some (gI t), some (gI p)] [] h 0 0 := fun hg => by
          refine k_iinc S dX8_goesTo_105 rfl (by decide) ?_
          refine k_goto (tgt := 5) S dX8_goesTo_108 (by decide) ?_
          refine ih2 (p + 1) (by omega) (by omega) (hv.trans ⟨fun z => z.elim (fun z => absurd z hg) id, Or.inr⟩)
        have yes : (fun p => ((kd p = 115 ∨ kd p = 111) ∧ (on p = (t : Nat) ∨ goF pn kd on ot t f (on p).toNat)) ∨ (kd p = 111 ∧ (ot p = (t : Nat) ∨ goF pn kd on ot t f (ot p).toNat))) p → b01 (goF pn kd on ot t (f + 1) s) = 1 := fun hg => b01_t (hv.mpr (Or.inl hg))
        have at103 : (fun p => ((kd p = 115 ∨ kd p = 111) ∧ (on p = (t : Nat) ∨ goF pn kd on ot t f (on p).toNat)) ∨ (kd p = 111 ∧ (ot p = (t : Nat) ∨ goF pn kd on ot t f (ot p).toNat))) p → K 103 [some (gR (some mo)), some (gI s), some (gI t), some (gI p)] [] h 0 0 := fun hg => by
          refine k_iconst S dX8_goesTo_103 ?_
          exact k_zreturn S dX8_goesTo_104 (by omega) ⟨by rw [yes hg], rfl⟩ (by omega) (by omega)
        have at66 : (fun p => ((kd p = 115 ∨ kd p = 111) ∧ (on p = (t : Nat) ∨ goF pn kd on ot t f (on p).toNat)) ∨ (kd p = 111 ∧ (ot p = (t : Nat) ∨ goF pn kd on ot t f (ot p).toNat))) p → K 66 [some (gR (some mo)), some (gI s), some (gI t), some (gI p)] [] h 0 0 := fun hg => by
          refine k_iconst S dX8_goesTo_66 ?_
          exact k_zreturn S dX8_goesTo_67 (by omega) ⟨by rw [yes hg], rfl⟩ (by omega) (by omega)
        have at68 : ¬ ((kd p = 115 ∨ kd p = 111) ∧ (on p = (t : Nat) ∨ goF pn kd on ot t f (on p).toNat)) → K 68 [some (gR (some mo)), some (gI s), some (gI t), some (gI p)] [] h 0 0 := fun hg => by
          refine k_aload_n S dX8_goesTo_68 rfl ?_
          refine k_getf S dX8_goesTo_69 f_X8_17 hM.1 (by rfl) ?_
          refine k_iload_n S dX8_goesTo_72 rfl ?_
          refine k_caload S dX8_goesTo_73 (hM.ld (j := 1) rfl rfl) (by omega) ?_
          rw [ep]
          refine k_bipush S dX8_goesTo_74 ?_
          refine k_icmp_ne (tgt := 105) S dX8_goesTo_76 (by decide) (by omega) (by omega) (fun c76 => ?_) (fun c76 => ?_)
          · exact at105 (fun z => z.elim hg (fun z => c76 z.1))
          · have k1 : kd p = 111 := by omega
            obtain ⟨o4, o5, o6⟩ := b2 k1
            have e2 : ot p = ((ot p).toNat : Nat) := by omega
            refine k_aload_n S dX8_goesTo_79 rfl ?_
            refine k_getf S dX8_goesTo_80 f_X8_39 hM.1 (by rfl) ?_
            refine k_iload_n S dX8_goesTo_83 rfl ?_
            refine k_iaload S dX8_goesTo_84 (hM.ld (j := 8) rfl rfl) (by omega) ?_
            rw [ep, e2]
            refine k_iload_n S dX8_goesTo_85 rfl ?_
            refine k_icmp_eq (tgt := 103) S dX8_goesTo_86 (by decide) (by omega) (by omega) (fun c86 => ?_) (fun c86 => ?_)
            · exact at103 (Or.inr ⟨k1, Or.inl (by omega)⟩)
            · refine k_aload_n S dX8_goesTo_89 rfl ?_
              refine k_aload_n S dX8_goesTo_90 rfl ?_
              refine k_getf S dX8_goesTo_91 f_X8_39 hM.1 (by rfl) ?_
              refine k_iload_n S dX8_goesTo_94 rfl ?_
              refine k_iaload S dX8_goesTo_95 (hM.ld (j := 8) rfl rfl) (by omega) ?_
              rw [ep, e2]
              refine k_iload_n S dX8_goesTo_96 rfl ?_
              refine k_callV_r S dX8_goesTo_97 v_X8_93 (ih (ot p).toNat (by omega) (by omega)) hM.1 (fun h97 hp97 => ?_) rfl rfl (Nat.lt_succ_self _) (by omega) (by omega) (Nat.le_of_ble_eq_true rfl)
              rw [hp97]
              refine k_if_eq (tgt := 105) S dX8_goesTo_100 (by decide) (b01_r _) (fun c100 => ?_) (fun c100 => ?_)
              · refine at105 (fun z => z.elim hg (fun z => z.2.elim (fun y => ?_) (b01_0.mp c100)))
                omega
              · exact at103 (Or.inr ⟨k1, Or.inr (b01_n.mp c100)⟩)
        have at42 : (kd p = 115 ∨ kd p = 111) → K 42 [some (gR (some mo)), some (gI s), some (gI t), some (gI p)] [] h 0 0 := fun hA => by
          obtain ⟨o1, o2, o3⟩ := b1 hA
          have e1 : on p = ((on p).toNat : Nat) := by omega
          refine k_aload_n S dX8_goesTo_42 rfl ?_
          refine k_getf S dX8_goesTo_43 f_X8_36 hM.1 (by rfl) ?_
          refine k_iload_n S dX8_goesTo_46 rfl ?_
          refine k_iaload S dX8_goesTo_47 (hM.ld (j := 7) rfl rfl) (by omega) ?_
          rw [ep, e1]
          refine k_iload_n S dX8_goesTo_48 rfl ?_
          refine k_icmp_eq (tgt := 66) S dX8_goesTo_49 (by decide) (by omega) (by omega) (fun c49 => ?_) (fun c49 => ?_)
          · exact at66 (Or.inl ⟨hA, Or.inl (by omega)⟩)
          · refine k_aload_n S dX8_goesTo_52 rfl ?_
            refine k_aload_n S dX8_goesTo_53 rfl ?_
            refine k_getf S dX8_goesTo_54 f_X8_36 hM.1 (by rfl) ?_
            refine k_iload_n S dX8_goesTo_57 rfl ?_
            refine k_iaload S dX8_goesTo_58 (hM.ld (j := 7) rfl rfl) (by omega) ?_
            rw [ep, e1]
            refine k_iload_n S dX8_goesTo_59 rfl ?_
            refine k_callV_r S dX8_goesTo_60 v_X8_93 (ih (on p).toNat (by omega) (by omega)) hM.1 (fun h60 hp60 => ?_) rfl rfl (Nat.lt_succ_self _) (by omega) (by omega) (Nat.le_of_ble_eq_true rfl)
            rw [hp60]
            refine k_if_eq (tgt := 68) S dX8_goesTo_63 (by decide) (b01_r _) (fun c63 => ?_) (fun c63 => ?_)
            · refine at68 (fun z => z.2.elim (fun y => ?_) (b01_0.mp c63))
              omega
            · exact at66 (Or.inl ⟨hA, Or.inr (b01_n.mp c63)⟩)
        refine k_iload_n S dX8_goesTo_5 rfl ?_
        refine k_bipush S dX8_goesTo_6 ?_
        refine k_iload_n S dX8_goesTo_8 rfl ?_
        refine k_imul S dX8_goesTo_9 ?_
        refine k_aload_n S dX8_goesTo_10 rfl ?_
        refine k_getf S dX8_goesTo_11 f_X8_33 hM.1 (by rfl) ?_
        refine k_iload_n S dX8_goesTo_14 rfl ?_
        refine k_iaload S dX8_goesTo_15 (hM.ld (j := 6) rfl rfl) (by omega) ?_
        rw [es, hn2]
        refine k_iadd S dX8_goesTo_16 ?_
        refine k_icmp_ge (tgt := 111) S dX8_goesTo_17 (by decide) (by omega) (by omega) (fun c17 => ?_) (fun c17 => ?_)
        · omega
        · refine k_aload_n S dX8_goesTo_20 rfl ?_
          refine k_getf S dX8_goesTo_21 f_X8_17 hM.1 (by rfl) ?_
          refine k_iload_n S dX8_goesTo_24 rfl ?_
          refine k_caload S dX8_goesTo_25 (hM.ld (j := 1) rfl rfl) (by omega) ?_
          rw [ep]
          refine k_bipush S dX8_goesTo_26 ?_
          refine k_icmp_eq (tgt := 42) S dX8_goesTo_28 (by decide) (by omega) (by omega) (fun c28 => ?_) (fun c28 => ?_)
          · exact at42 (Or.inl (by omega))
          · refine k_aload_n S dX8_goesTo_31 rfl ?_
            refine k_getf S dX8_goesTo_32 f_X8_17 hM.1 (by rfl) ?_
            refine k_iload_n S dX8_goesTo_35 rfl ?_
            refine k_caload S dX8_goesTo_36 (hM.ld (j := 1) rfl rfl) (by omega) ?_
            rw [ep]
            refine k_bipush S dX8_goesTo_37 ?_
            refine k_icmp_ne (tgt := 68) S dX8_goesTo_39 (by decide) (by omega) (by omega) (fun c39 => ?_) (fun c39 => ?_)
            · exact at68 (fun z => z.1.elim c28 c39)
            · exact at42 (Or.inr (by omega))
    refine k_bipush S dX8_goesTo_0 ?_
    refine k_iload_n S dX8_goesTo_2 rfl ?_
    refine k_imul S dX8_goesTo_3 ?_
    refine k_istore_n S dX8_goesTo_4 (by decide) ?_
    refine loop n (12 * s) (by omega) (by omega) ?_
    rw [goF, en]
theorem maxR_r {g : Nat → Int} {B : Int} (hB : 0 ≤ B) : ∀ n p, (∀ q, p ≤ q → q < p + n → g q ≤ B) → 0 ≤ maxR g n p ∧ maxR g n p ≤ B
  | 0, _, _ => ⟨Int.le_refl _, hB⟩
  | n + 1, p, h => by
    have := maxR_r hB n (p + 1) (fun q h1 h2 => h q (by omega) (by omega))
    have := h p (by omega) (by omega)
    unfold maxR
    omega
theorem dpF_r {pn kd on ot : Nat → Int} : ∀ f s, 0 ≤ dpF pn kd on ot f s ∧ dpF pn kd on ot f s ≤ f
  | 0, _ => ⟨Int.le_refl _, Int.le_refl _⟩
  | f + 1, s => by
    unfold dpF
    have := maxR_r (g := (fun p => if kd p = 115 then dpF pn kd on ot f (on p).toNat else if kd p = 111 then max (dpF pn kd on ot f (on p).toNat) (dpF pn kd on ot f (ot p).toNat) else 0)) (B := (f : Nat)) (by omega) (pn s).toNat (12 * s) (fun q _ _ => by
      have h1 := dpF_r (pn := pn) (kd := kd) (on := on) (ot := ot) f (on q).toNat
      have h2 := dpF_r (pn := pn) (kd := kd) (on := on) (ot := ot) f (ot q).toNat
      split
      · omega
      · split <;> omega)
    omega
/-- deep(s) -/
theorem m_deep (D : DD) (hM : IsM h h mo am [gI th, gI sn, gI td, gI ln, gI ca, gI st, gI ld, gI ls, gI wl, gI wc, gI ws, gI ex, gI kp, gI la, gL sv, gI cu] [tg, kd, tx, wa, ou, le, pn, on, ot, sp, wp, op, fw, of, sc]) (hn : 0 ≤ sn ∧ sn ≤ 8) (hk : allC kd) (hB : BOk sn pn kd on ot rk) : ∀ f s : Nat, f < 1000 → (s : Int) < sn → rk s < f → GMet D yX8_deep cX8_deep 6 (some .int) [] f 0 0 [gR (some mo), gI s] h (pr (gI (dpF pn kd on ot f s)) (fun h1 => h1 = h)) := by
  intro f
  induction f with
  | zero => intro s hf hs hr; omega
  | succ f ih =>
    intro s hf hs hr
    refine GMet.intro RX8 rfl (by decide) (gcats rfl) (Nat.le_of_ble_eq_true rfl) fun K KX S => ?_
    show K 0 [some _, some _, none, none, none, none] [] _ 0 0
    obtain ⟨⟨hp0, hp12⟩, hb⟩ := hB s hs
    obtain ⟨n, hn2⟩ := Int.eq_ofNat_of_zero_le hp0
    have es : ((s : Nat) : Int).toNat = s := by omega
    have en : (pn s).toNat = n := by omega
    have loop : ∀ (d p : Nat) (most : Int) (v4 v5 : Option GV), 12 * s ≤ p → p + d = 12 * s + n → 0 ≤ most ∧ most < 1000 → dpF pn kd on ot (f + 1) s = max most (maxR (fun p => if kd p = 115 then dpF pn kd on ot f (on p).toNat else if kd p = 111 then max (dpF pn kd on ot f (on p).toNat) (dpF pn kd on ot f (ot p).toNat) else 0) d p) + 1 → K 7 [some (gR (some mo)), some (gI s), some (gI most), some (gI p), v4, v5] [] h 0 0 := by
      intro d
      induction d with
      | zero =>
        intro p most v4 v5 hp1 hp2 hm hv
        refine k_iload_n S dX8_deep_7 rfl ?_
        refine k_bipush S dX8_deep_8 ?_
        refine k_iload_n S dX8_deep_10 rfl ?_
        refine k_imul S dX8_deep_11 ?_
        refine k_aload_n S dX8_deep_12 rfl ?_
        refine k_getf S dX8_deep_13 f_X8_33 hM.1 (by rfl) ?_
        refine k_iload_n S dX8_deep_16 rfl ?_
        refine k_iaload S dX8_deep_17 (hM.ld (j := 6) rfl rfl) (by omega) ?_
        rw [es, hn2]
        refine k_iadd S dX8_deep_18 ?_
        refine k_icmp_ge (tgt := 110) S dX8_deep_19 (by decide) (by omega) (by omega) (fun c19 => ?_) (fun c19 => ?_)
        · refine k_iload_n S dX8_deep_110 rfl ?_
          refine k_iconst S dX8_deep_111 ?_
          refine k_iadd S dX8_deep_112 ?_
          exact k_ireturn S dX8_deep_113 ⟨by rw [hv, maxR, show max most 0 = most by omega], rfl⟩ (by omega) (by omega)
        · omega
      | succ d ih2 =>
        intro p most v4 v5 hp1 hp2 hm hv
        have ep : ((p : Nat) : Int).toNat = p := by omega
        obtain ⟨b1, b2⟩ := hb p (by omega) (by omega)
        have kr := hk p
        have q1 := dpF_r (pn := pn) (kd := kd) (on := on) (ot := ot) f (on p).toNat
        have q2 := dpF_r (pn := pn) (kd := kd) (on := on) (ot := ot) f (ot p).toNat
        have next : ∀ (x : Int) (v4 v5 : Option GV), 0 ≤ x ∧ x < 1000 → x = max most ((fun p => if kd p = 115 then dpF pn kd on ot f (on p).toNat else if kd p = 111 then max (dpF pn kd on ot f (on p).toNat) (dpF pn kd on ot f (ot p).toNat) else 0) p) → K 104 [some (gR (some mo)), some (gI s), some (gI x), some (gI p), v4, v5] [] h 0 0 := fun x v4 v5 hx0 hx => by
          refine k_iinc S dX8_deep_104 rfl (by decide) ?_
          refine k_goto (tgt := 7) S dX8_deep_107 (by decide) ?_
          refine ih2 (p + 1) x v4 v5 (by omega) (by omega) hx0 ?_
          rw [hv, maxR, hx]
          dsimp only
          omega
        have at86 : ∀ (x y : Int), 0 ≤ x ∧ x < 1000 → 0 ≤ y ∧ y < 1000 → max x y = (fun p => if kd p = 115 then dpF pn kd on ot f (on p).toNat else if kd p = 111 then max (dpF pn kd on ot f (on p).toNat) (dpF pn kd on ot f (ot p).toNat) else 0) p → K 86 [some (gR (some mo)), some (gI s), some (gI most), some (gI p), some (gI x), some (gI y)] [] h 0 0 := fun x y hx hy hxy => by
          refine k_iload S dX8_deep_86 rfl ?_
          refine k_iload_n S dX8_deep_88 rfl ?_
          refine k_icmp_le (tgt := 95) S dX8_deep_89 (by decide) (by omega) (by omega) (fun c89 => ?_) (fun c89 => ?_)
          · refine k_iload S dX8_deep_95 rfl ?_
            refine k_iload_n S dX8_deep_97 rfl ?_
            refine k_icmp_le (tgt := 104) S dX8_deep_98 (by decide) (by omega) (by omega) (fun c98 => ?_) (fun c98 => ?_)
            · refine next _ _ _ hm ?_
              rw [← hxy]; omega
            · refine k_iload S dX8_deep_101 rfl ?_
              refine k_istore_n S dX8_deep_103 (by decide) ?_
              refine next _ _ _ hy ?_
              rw [← hxy]; omega
          · refine k_iload S dX8_deep_92 rfl ?_
            refine k_istore_n S dX8_deep_94 (by decide) ?_
            refine k_iload S dX8_deep_95 rfl ?_
            refine k_iload_n S dX8_deep_97 rfl ?_
            refine k_icmp_le (tgt := 104) S dX8_deep_98 (by decide) (by omega) (by omega) (fun c98 => ?_) (fun c98 => ?_)
            · refine next _ _ _ hx ?_
              rw [← hxy]; omega
            · refine k_iload S dX8_deep_101 rfl ?_
              refine k_istore_n S dX8_deep_103 (by decide) ?_
              refine next _ _ _ hy ?_
              rw [← hxy]; omega
        have at47 : (kd p = 115 ∨ kd p = 111) → K 47 [some (gR (some mo)), some (gI s), some (gI most), some (gI p), v4, v5] [] h 0 0 := fun hA => by
          obtain ⟨o1, o2, o3⟩ := b1 hA
          have e1 : on p = ((on p).toNat : Nat) := by omega
          refine k_aload_n S dX8_deep_47 rfl ?_
          refine k_aload_n S dX8_deep_48 rfl ?_
          refine k_getf S dX8_deep_49 f_X8_36 hM.1 (by rfl) ?_
          refine k_iload_n S dX8_deep_52 rfl ?_
          refine k_iaload S dX8_deep_53 (hM.ld (j := 7) rfl rfl) (by omega) ?_
          rw [ep, e1]
          refine k_callV_r S dX8_deep_54 v_X8_121 (ih (on p).toNat (by omega) (by omega) (by omega)) hM.1 (fun h54 hp54 => ?_) rfl rfl (Nat.lt_succ_self _) (by omega) (by omega) (Nat.le_of_ble_eq_true rfl)
          rw [hp54]
          refine k_istore S dX8_deep_57 (by decide) ?_
          refine k_aload_n S dX8_deep_59 rfl ?_
          refine k_getf S dX8_deep_60 f_X8_17 hM.1 (by rfl) ?_
          refine k_iload_n S dX8_deep_63 rfl ?_
          refine k_caload S dX8_deep_64 (hM.ld (j := 1) rfl rfl) (by omega) ?_
          rw [ep]
          refine k_bipush S dX8_deep_65 ?_
          refine k_icmp_ne (tgt := 83) S dX8_deep_67 (by decide) (by omega) (by omega) (fun c67 => ?_) (fun c67 => ?_)
          · refine k_iconst S dX8_deep_83 ?_
            refine k_istore S dX8_deep_84 (by decide) ?_
            refine at86 _ _ (by omega) (by omega) ?_
            dsimp only
            rw [if_pos (by omega)]
            omega
          · have k1 : kd p = 111 := by omega
            obtain ⟨o4, o5, o6⟩ := b2 k1
            have e2 : ot p = ((ot p).toNat : Nat) := by omega
            refine k_aload_n S dX8_deep_70 rfl ?_
            refine k_aload_n S dX8_deep_71 rfl ?_
            refine k_getf S dX8_deep_72 f_X8_39 hM.1 (by rfl) ?_
            refine k_iload_n S dX8_deep_75 rfl ?_
            refine k_iaload S dX8_deep_76 (hM.ld (j := 8) rfl rfl) (by omega) ?_
            rw [ep, e2]
            refine k_callV_r S dX8_deep_77 v_X8_121 (ih (ot p).toNat (by omega) (by omega) (by omega)) hM.1 (fun h77 hp77 => ?_) rfl rfl (Nat.lt_succ_self _) (by omega) (by omega) (Nat.le_of_ble_eq_true rfl)
            rw [hp77]
            refine k_goto (tgt := 84) S dX8_deep_80 (by decide) ?_
            refine k_istore S dX8_deep_84 (by decide) ?_
            refine at86 _ _ (by omega) (by omega) ?_
            dsimp only
            rw [if_neg (by omega), if_pos k1]
        refine k_iload_n S dX8_deep_7 rfl ?_
        refine k_bipush S dX8_deep_8 ?_
        refine k_iload_n S dX8_deep_10 rfl ?_
        refine k_imul S dX8_deep_11 ?_
        refine k_aload_n S dX8_deep_12 rfl ?_
        refine k_getf S dX8_deep_13 f_X8_33 hM.1 (by rfl) ?_
        refine k_iload_n S dX8_deep_16 rfl ?_
        refine k_iaload S dX8_deep_17 (hM.ld (j := 6) rfl rfl) (by omega) ?_
        rw [es, hn2]
        refine k_iadd S dX8_deep_18 ?_
        refine k_icmp_ge (tgt := 110) S dX8_deep_19 (by decide) (by omega) (by omega) (fun c19 => ?_) (fun c19 => ?_)
        · omega
        · refine k_aload_n S dX8_deep_22 rfl ?_
          refine k_getf S dX8_deep_23 f_X8_17 hM.1 (by rfl) ?_
          refine k_iload_n S dX8_deep_26 rfl ?_
          refine k_caload S dX8_deep_27 (hM.ld (j := 1) rfl rfl) (by omega) ?_
          rw [ep]
          refine k_bipush S dX8_deep_28 ?_
          refine k_icmp_eq (tgt := 47) S dX8_deep_30 (by decide) (by omega) (by omega) (fun c30 => ?_) (fun c30 => ?_)
          · exact at47 (Or.inl (by omega))
          · refine k_aload_n S dX8_deep_33 rfl ?_
            refine k_getf S dX8_deep_34 f_X8_17 hM.1 (by rfl) ?_
            refine k_iload_n S dX8_deep_37 rfl ?_
            refine k_caload S dX8_deep_38 (hM.ld (j := 1) rfl rfl) (by omega) ?_
            rw [ep]
            refine k_bipush S dX8_deep_39 ?_
            refine k_icmp_eq (tgt := 47) S dX8_deep_41 (by decide) (by omega) (by omega) (fun c41 => ?_) (fun c41 => ?_)
            · exact at47 (Or.inr (by omega))
            · refine k_goto (tgt := 104) S dX8_deep_44 (by decide) ?_
              refine next _ _ _ hm ?_
              dsimp only
              rw [if_neg c30, if_neg c41]
              omega
    refine k_iconst S dX8_deep_0 ?_
    refine k_istore_n S dX8_deep_1 (by decide) ?_
    refine k_bipush S dX8_deep_2 ?_
    refine k_iload_n S dX8_deep_4 rfl ?_
    refine k_imul S dX8_deep_5 ?_
    refine k_istore_n S dX8_deep_6 (by decide) ?_
    refine loop n (12 * s) 0 none none (by omega) (by omega) (by omega) ?_
    have := maxR_r (g := (fun p => if kd p = 115 then dpF pn kd on ot f (on p).toNat else if kd p = 111 then max (dpF pn kd on ot f (on p).toNat) (dpF pn kd on ot f (ot p).toNat) else 0)) (B := (f : Nat)) (by omega) n (12 * s) (fun q _ _ => by
      have h1 := dpF_r (pn := pn) (kd := kd) (on := on) (ot := ot) f (on q).toNat
      have h2 := dpF_r (pn := pn) (kd := kd) (on := on) (ot := ot) f (ot q).toNat
      split
      · omega
      · split <;> omega)
    rw [dpF, en]
    omega
end
