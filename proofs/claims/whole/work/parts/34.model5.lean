/-! what is laid -/
def wrF (F : Nat → Int) (n : Nat) (l : List Int) : Nat → Int := fun q => if n ≤ q ∧ q < n + l.length then l.getD (q - n) 0 else F q
theorem wrF_nil (F : Nat → Int) (n : Nat) : wrF F n [] = F := by
  funext q
  unfold wrF
  rw [if_neg]
  simp only [List.length_nil]
  omega
theorem wrF_snoc {F : Nat → Int} {l : List Int} {v : Int} : gupd (wrF F 0 l) l.length v = wrF F 0 (l ++ [v]) := by
  funext q
  unfold wrF gupd
  simp only [List.length_append, List.length_cons, List.length_nil, Nat.sub_zero, Nat.zero_add]
  by_cases e : q = l.length
  · subst e
    rw [if_pos rfl, if_pos (by omega), List.getD_eq_getElem?_getD, List.getElem?_append_right (Nat.le_refl _), Nat.sub_self]
    rfl
  · rw [if_neg e]
    by_cases e2 : q < l.length
    · rw [if_pos (by omega), if_pos (by omega), List.getD_eq_getElem?_getD, List.getD_eq_getElem?_getD, List.getElem?_append_left e2]
    · rw [if_neg (by omega), if_neg (by omega)]
def lyR {α : Type} (g : Nat → α → α) : Nat → Nat → α → α
  | 0, _, w => w
  | n + 1, p, w => lyR g n (p + 1) (g p w)
section
variable (pn kd on ot sc : Nat → Int) (td : Int)
def lyF : Nat → Nat → List Int × List Int → List Int × List Int
  | 0, _, w => w
  | f + 1, s, w => lyR (fun p w => if kd p = 99 then (w.1 ++ [on p], w.2) else if kd p = 115 then lyF f (on p).toNat w else if kd p = 111 then lyF f (if sc s = 0 then on p else ot p).toNat w else if kd p = 100 then (w.1 ++ dateT (td + on p).toNat (ot p), w.2) else (w.1, w.2 ++ [(w.1.length : Int)])) (pn s).toNat (12 * s) w
end
def BOk2 (sn : Int) (pn kd on ot : Nat → Int) : Prop := ∀ s : Nat, (s : Int) < sn → ∀ p : Nat, 12 * s ≤ p → (p : Int) < 12 * (s : Nat) + pn s → (kd p = 99 → 0 ≤ on p ∧ on p < 65536) ∧ (kd p = 100 → (-99 ≤ on p ∧ on p ≤ 99) ∧ (ot p = 110 ∨ ot p = 119 ∨ ot p = 109))
theorem wk1 : ∀ d : Nat, d < 7 → wkc (2 * d) = if d = 0 then 109 else if d = 2 then 119 else if d = 4 then 102 else if 4 < d then 115 else 116 := by decide
theorem wk2 : ∀ d : Nat, d < 7 → wkc (2 * d + 1) = if d = 0 then 111 else if d = 1 ∨ d = 6 then 117 else if d = 2 then 101 else if d = 3 then 104 else if d = 4 then 114 else 97 := by decide
section
variable {mo : Nat} {am : Nat → Nat} {th sn td ln ca st ld ls wl wc ws ex kp la sv cu : Int} {tg kd tx wa ou le pn on ot sp wp op fw of sc : Nat → Int}
/-- lay(c), behind what is laid -/
theorem m_layc (D : DD) {h : GH} {cl sl : List Int} (hM : IsM h h mo am [gI th, gI sn, gI td, gI ln, gI ca, gI st, gI (((cl).length : Nat)), gI (((sl).length : Nat)), gI wl, gI wc, gI ws, gI ex, gI kp, gI la, gL sv, gI cu] [tg, kd, tx, wa, (wrF ou 0 (cl)), le, pn, on, ot, sp, wp, (wrF op 0 (sl)), fw, of, sc]) {c : Int} (hc : 0 ≤ c ∧ c < 65536) (hl : cl.length < 400) : GMet D yX8_lay cX8_lay 2 none [] 1 0 0 [gR (some mo), gI c] h (pv (fun h1 => IsM h h1 mo am [gI th, gI sn, gI td, gI ln, gI ca, gI st, gI (((cl ++ [c]).length : Nat)), gI (((sl).length : Nat)), gI wl, gI wc, gI ws, gI ex, gI kp, gI la, gL sv, gI cu] [tg, kd, tx, wa, (wrF ou 0 (cl ++ [c])), le, pn, on, ot, sp, wp, (wrF op 0 (sl)), fw, of, sc])) := by
  have := m_lay D hM hc (by omega)
  rw [show (((cl.length : Nat)) : Int).toNat = cl.length by omega, wrF_snoc, show ((cl.length : Nat) : Int) + 1 = (((cl ++ [c]).length : Nat) : Int) by simp] at this
  exact this
/-- layNumber(x) -/
theorem m_layNumber (D : DD)  : ∀ (d x : Nat) {h : GH} {cl sl : List Int} (hM : IsM h h mo am [gI th, gI sn, gI td, gI ln, gI ca, gI st, gI (((cl).length : Nat)), gI (((sl).length : Nat)), gI wl, gI wc, gI ws, gI ex, gI kp, gI la, gL sv, gI cu] [tg, kd, tx, wa, (wrF ou 0 (cl)), le, pn, on, ot, sp, wp, (wrF op 0 (sl)), fw, of, sc]) (_ : x < 2147483648) (_ : x < 10 ^ (d + 1)) (_ : cl.length + (digits x).length ≤ 400), GMet D yX8_layNumber cX8_layNumber 2 none [] (d + 2) 0 0 [gR (some mo), gI x] h (pv (fun h1 => IsM h h1 mo am [gI th, gI sn, gI td, gI ln, gI ca, gI st, gI (((cl ++ digits x).length : Nat)), gI (((sl).length : Nat)), gI wl, gI wc, gI ws, gI ex, gI kp, gI la, gL sv, gI cu] [tg, kd, tx, wa, (wrF ou 0 (cl ++ digits x)), le, pn, on, ot, sp, wp, (wrF op 0 (sl)), fw, of, sc])) := by
  intro d
  induction d with
  | zero =>
    intro x h cl sl hM hxr hx hc
    have hx : x < 10 := hx
    have ed : digits x = [48 + (x : Int)] := by rw [digits, if_pos hx]
    rw [ed] at hc ⊢
    simp only [List.length_cons, List.length_nil] at hc
    refine GMet.intro RX8 rfl (by decide) (gcats rfl) (Nat.le_of_ble_eq_true rfl) fun K KX S => ?_
    show K 0 [some _, some _] [] _ 0 0
    refine k_iload_n S dX8_layNumber_0 rfl ?_
    refine k_bipush S dX8_layNumber_1 ?_
    refine k_icmp_le (tgt := 14) S dX8_layNumber_3 (by decide) (by omega) (by omega) (fun c3 => ?_) (fun c3 => ?_)
    · refine k_aload_n S dX8_layNumber_14 rfl ?_
      refine k_bipush S dX8_layNumber_15 ?_
      refine k_iload_n S dX8_layNumber_17 rfl ?_
      refine k_bipush S dX8_layNumber_18 ?_
      refine k_irem S dX8_layNumber_20 (by omega) (by omega) ?_
      refine k_iadd S dX8_layNumber_21 ?_
      refine k_i2c S dX8_layNumber_22 ?_
      rw [show (48 + ((x : Nat) : Int) % 10) % 65536 = 48 + (x : Int) by omega]
      refine k_callV_v S dX8_layNumber_23 v_X8_104 (m_layc D hM (by omega) (by omega)) hM.1 (fun h23 hp23 => ?_) rfl rfl (by decide) (by omega) (by omega) (Nat.le_of_ble_eq_true rfl)
      exact k_return S dX8_layNumber_26 ⟨rfl, hp23⟩ (by omega) (by omega)
    · omega
  | succ d ih =>
    intro x h cl sl hM hxr hx hc
    refine GMet.intro RX8 rfl (by decide) (gcats rfl) (Nat.le_of_ble_eq_true rfl) fun K KX S => ?_
    show K 0 [some _, some _] [] _ 0 0
    refine k_iload_n S dX8_layNumber_0 rfl ?_
    refine k_bipush S dX8_layNumber_1 ?_
    refine k_icmp_le (tgt := 14) S dX8_layNumber_3 (by decide) (by omega) (by omega) (fun c3 => ?_) (fun c3 => ?_)
    · have ed : digits x = [48 + (x : Int)] := by rw [digits, if_pos (by omega)]
      rw [ed] at hc S
      simp only [List.length_cons, List.length_nil] at hc
      refine k_aload_n S dX8_layNumber_14 rfl ?_
      refine k_bipush S dX8_layNumber_15 ?_
      refine k_iload_n S dX8_layNumber_17 rfl ?_
      refine k_bipush S dX8_layNumber_18 ?_
      refine k_irem S dX8_layNumber_20 (by omega) (by omega) ?_
      refine k_iadd S dX8_layNumber_21 ?_
      refine k_i2c S dX8_layNumber_22 ?_
      rw [show (48 + ((x : Nat) : Int) % 10) % 65536 = 48 + (x : Int) by omega]
      refine k_callV_v S dX8_layNumber_23 v_X8_104 (m_layc D hM (by omega) (by omega)) hM.1 (fun h23 hp23 => ?_) rfl rfl (by omega) (by omega) (by omega) (Nat.le_of_ble_eq_true rfl)
      exact k_return S dX8_layNumber_26 ⟨rfl, hp23⟩ (by omega) (by omega)
    · have ed : digits x = digits (x / 10) ++ [48 + ((x % 10 : Nat) : Int)] := by rw [digits, if_neg (by omega)]
      rw [ed] at hc S
      simp only [List.length_append, List.length_cons, List.length_nil] at hc
      refine k_aload_n S dX8_layNumber_6 rfl ?_
      refine k_iload_n S dX8_layNumber_7 rfl ?_
      refine k_bipush S dX8_layNumber_8 ?_
      refine k_idiv S dX8_layNumber_10 (by omega) (by omega) ?_
      rw [show ((x : Nat) : Int) / 10 = ((x / 10 : Nat) : Int) by omega]
      refine k_callV_v S dX8_layNumber_11 v_X8_100 (ih (x / 10) hM (by omega) (by rw [Nat.pow_succ] at hx; omega) (by omega)) hM.1 (fun h11 hp11 => ?_) rfl rfl (by omega) (by omega) (by omega) (Nat.le_of_ble_eq_true rfl)
      refine k_aload_n S dX8_layNumber_14 rfl ?_
      refine k_bipush S dX8_layNumber_15 ?_
      refine k_iload_n S dX8_layNumber_17 rfl ?_
      refine k_bipush S dX8_layNumber_18 ?_
      refine k_irem S dX8_layNumber_20 (by omega) (by omega) ?_
      refine k_iadd S dX8_layNumber_21 ?_
      refine k_i2c S dX8_layNumber_22 ?_
      rw [show (48 + ((x : Nat) : Int) % 10) % 65536 = 48 + ((x % 10 : Nat) : Int) by omega]
      refine k_callV_v S dX8_layNumber_23 v_X8_104 (m_layc D hp11.rb (c := 48 + ((x % 10 : Nat) : Int)) (by omega) (by simp only [List.length_append]; omega)) hp11.1 (fun h23 hp23 => ?_) rfl rfl (by omega) (by omega) (by omega) (Nat.le_of_ble_eq_true rfl)
      exact k_return S dX8_layNumber_26 ⟨rfl, by have := hp11.tr hp23; rw [List.append_assoc] at this; exact this⟩ (by omega) (by omega)
/-- layDay(x, form) -/
theorem m_layDay (D : DD) {h : GH} {cl sl : List Int} (hM : IsM h h mo am [gI th, gI sn, gI td, gI ln, gI ca, gI st, gI (((cl).length : Nat)), gI (((sl).length : Nat)), gI wl, gI wc, gI ws, gI ex, gI kp, gI la, gL sv, gI cu] [tg, kd, tx, wa, (wrF ou 0 (cl)), le, pn, on, ot, sp, wp, (wrF op 0 (sl)), fw, of, sc]) {x : Nat} (hx : x < 100000) {fo : Int} (hf : fo = 110 ∨ fo = 119 ∨ fo = 109) (hc : cl.length + 5 ≤ 400) : GMet D yX8_layDay cX8_layDay 4 none [] 8 0 0 [gR (some mo), gI x, gI fo] h (pv (fun h1 => IsM h h1 mo am [gI th, gI sn, gI td, gI ln, gI ca, gI st, gI (((cl ++ dateT x fo).length : Nat)), gI (((sl).length : Nat)), gI wl, gI wc, gI ws, gI ex, gI kp, gI la, gL sv, gI cu] [tg, kd, tx, wa, (wrF ou 0 (cl ++ dateT x fo)), le, pn, on, ot, sp, wp, (wrF op 0 (sl)), fw, of, sc])) := by
  refine GMet.intro RX8 rfl (by decide) (gcats rfl) (Nat.le_of_ble_eq_true rfl) fun K KX S => ?_
  show K 0 [some _, some _, some _, none] [] _ 0 0
  have dl := dateT_len hx fo
  refine k_iload_n S dX8_layDay_0 rfl ?_
  refine k_bipush S dX8_layDay_1 ?_
  refine k_icmp_ne (tgt := 14) S dX8_layDay_3 (by decide) (by omega) (by omega) (fun c3 => ?_) (fun c3 => ?_)
  · refine k_iload_n S dX8_layDay_14 rfl ?_
    refine k_bipush S dX8_layDay_15 ?_
    refine k_icmp_ne (tgt := 52) S dX8_layDay_17 (by decide) (by omega) (by omega) (fun c17 => ?_) (fun c17 => ?_)
    · -- the day of the week
      have ef : dateT x fo = [wkc (2 * (x % 7)), wkc (2 * (x % 7) + 1)] := by rw [dateT, if_neg c3, if_pos (by omega)]
      have hd := Nat.mod_lt x (show 0 < 7 by omega)
      rw [ef] at S
      refine k_iload_n S dX8_layDay_52 rfl ?_
      refine k_bipush S dX8_layDay_53 ?_
      refine k_irem S dX8_layDay_55 (by omega) (by omega) ?_
      rw [show ((x : Nat) : Int) % 7 = ((x % 7 : Nat) : Int) by omega]
      refine k_istore_n S dX8_layDay_56 (by decide) ?_
      generalize hD : x % 7 = dd at *
      have w1 := wk1 dd hd
      have w2 := wk2 dd hd
      have r1 : 0 ≤ wkc (2 * dd) ∧ wkc (2 * dd) < 65536 := (wkc_ok _ (by omega)).2
      have r2 : 0 ≤ wkc (2 * dd + 1) ∧ wkc (2 * dd + 1) < 65536 := (wkc_ok _ (by omega)).2
      have at160 : ∀ h5, IsM h h5 mo am [gI th, gI sn, gI td, gI ln, gI ca, gI st, gI (((cl ++ [wkc (2 * dd)]).length : Nat)), gI (((sl).length : Nat)), gI wl, gI wc, gI ws, gI ex, gI kp, gI la, gL sv, gI cu] [tg, kd, tx, wa, (wrF ou 0 (cl ++ [wkc (2 * dd)])), le, pn, on, ot, sp, wp, (wrF op 0 (sl)), fw, of, sc] → K 160 [some (gR (some mo)), some (gI x), some (gI fo), some (gI dd)] [gI (wkc (2 * dd + 1)), gR (some mo)] h5 0 0 := fun h5 M5 => by
        refine k_callV_v S dX8_layDay_160 v_X8_104 (m_layc D M5.rb r2 (by simp only [List.length_append, List.length_cons, List.length_nil]; omega)) M5.1 (fun h160 hp160 => ?_) rfl rfl (by decide) (by omega) (by omega) (Nat.le_of_ble_eq_true rfl)
        exact k_return S dX8_layDay_163 ⟨rfl, by have := M5.tr hp160; rw [List.append_assoc] at this; exact this⟩ (by omega) (by omega)
      have at102 : ∀ h5, IsM h h5 mo am [gI th, gI sn, gI td, gI ln, gI ca, gI st, gI (((cl ++ [wkc (2 * dd)]).length : Nat)), gI (((sl).length : Nat)), gI wl, gI wc, gI ws, gI ex, gI kp, gI la, gL sv, gI cu] [tg, kd, tx, wa, (wrF ou 0 (cl ++ [wkc (2 * dd)])), le, pn, on, ot, sp, wp, (wrF op 0 (sl)), fw, of, sc] → K 102 [some (gR (some mo)), some (gI x), some (gI fo), some (gI dd)] [] h5 0 0 := fun h5 M5 => by
        have at160 := at160 h5 M5
        refine k_aload_n S dX8_layDay_102 rfl ?_
        refine k_iload_n S dX8_layDay_103 rfl ?_
        refine k_if_ne (tgt := 112) S dX8_layDay_104 (by decide) (by omega) (fun c104 => ?_) (fun c104 => ?_)
        · refine k_iload_n S dX8_layDay_112 rfl ?_
          refine k_iconst S dX8_layDay_113 ?_
          refine k_icmp_eq (tgt := 123) S dX8_layDay_114 (by decide) (by omega) (by omega) (fun c114 => ?_) (fun c114 => ?_)
          · refine k_bipush S dX8_layDay_123 ?_
            refine k_goto (tgt := 160) S dX8_layDay_125 (by decide) ?_
            rw [show wkc (2 * dd + 1) = 117 by rw [w2, if_neg (by omega), if_pos (by omega)]] at at160; exact at160
          · refine k_iload_n S dX8_layDay_117 rfl ?_
            refine k_bipush S dX8_layDay_118 ?_
            refine k_icmp_ne (tgt := 128) S dX8_layDay_120 (by decide) (by omega) (by omega) (fun c120 => ?_) (fun c120 => ?_)
            · refine k_iload_n S dX8_layDay_128 rfl ?_
              refine k_iconst S dX8_layDay_129 ?_
              refine k_icmp_ne (tgt := 138) S dX8_layDay_130 (by decide) (by omega) (by omega) (fun c130 => ?_) (fun c130 => ?_)
              · refine k_iload_n S dX8_layDay_138 rfl ?_
                refine k_iconst S dX8_layDay_139 ?_
                refine k_icmp_ne (tgt := 148) S dX8_layDay_140 (by decide) (by omega) (by omega) (fun c140 => ?_) (fun c140 => ?_)
                · refine k_iload_n S dX8_layDay_148 rfl ?_
                  refine k_iconst S dX8_layDay_149 ?_
                  refine k_icmp_ne (tgt := 158) S dX8_layDay_150 (by decide) (by omega) (by omega) (fun c150 => ?_) (fun c150 => ?_)
                  · refine k_bipush S dX8_layDay_158 ?_
                    rw [show wkc (2 * dd + 1) = 97 by rw [w2, if_neg (by omega), if_neg (by omega), if_neg (by omega), if_neg (by omega), if_neg (by omega)]] at at160; exact at160
                  · refine k_bipush S dX8_layDay_153 ?_
                    refine k_goto (tgt := 160) S dX8_layDay_155 (by decide) ?_
                    rw [show wkc (2 * dd + 1) = 114 by rw [w2, if_neg (by omega), if_neg (by omega), if_neg (by omega), if_neg (by omega), if_pos (by omega)]] at at160; exact at160
                · refine k_bipush S dX8_layDay_143 ?_
                  refine k_goto (tgt := 160) S dX8_layDay_145 (by decide) ?_
                  rw [show wkc (2 * dd + 1) = 104 by rw [w2, if_neg (by omega), if_neg (by omega), if_neg (by omega), if_pos (by omega)]] at at160; exact at160
              · refine k_bipush S dX8_layDay_133 ?_
                refine k_goto (tgt := 160) S dX8_layDay_135 (by decide) ?_
                rw [show wkc (2 * dd + 1) = 101 by rw [w2, if_neg (by omega), if_neg (by omega), if_pos (by omega)]] at at160; exact at160
            · refine k_bipush S dX8_layDay_123 ?_
              refine k_goto (tgt := 160) S dX8_layDay_125 (by decide) ?_
              rw [show wkc (2 * dd + 1) = 117 by rw [w2, if_neg (by omega), if_pos (by omega)]] at at160; exact at160
        · refine k_bipush S dX8_layDay_107 ?_
          refine k_goto (tgt := 160) S dX8_layDay_109 (by decide) ?_
          rw [show wkc (2 * dd + 1) = 111 by rw [w2, if_pos (by omega)]] at at160; exact at160
      have at99 : K 99 [some (gR (some mo)), some (gI x), some (gI fo), some (gI dd)] [gI (wkc (2 * dd)), gR (some mo)] h 0 0 := by
        refine k_callV_v S dX8_layDay_99 v_X8_104 (m_layc D hM r1 (by omega)) hM.1 (fun h99 hp99 => ?_) rfl rfl (by decide) (by omega) (by omega) (Nat.le_of_ble_eq_true rfl)
        exact at102 _ hp99
      refine k_aload_n S dX8_layDay_57 rfl ?_
      refine k_iload_n S dX8_layDay_58 rfl ?_
      refine k_if_ne (tgt := 67) S dX8_layDay_59 (by decide) (by omega) (fun c59 => ?_) (fun c59 => ?_)
      · refine k_iload_n S dX8_layDay_67 rfl ?_
        refine k_iconst S dX8_layDay_68 ?_
        refine k_icmp_ne (tgt := 77) S dX8_layDay_69 (by decide) (by omega) (by omega) (fun c69 => ?_) (fun c69 => ?_)
        · refine k_iload_n S dX8_layDay_77 rfl ?_
          refine k_iconst S dX8_layDay_78 ?_
          refine k_icmp_ne (tgt := 87) S dX8_layDay_79 (by decide) (by omega) (by omega) (fun c79 => ?_) (fun c79 => ?_)
          · refine k_iload_n S dX8_layDay_87 rfl ?_
            refine k_iconst S dX8_layDay_88 ?_
            refine k_icmp_le (tgt := 97) S dX8_layDay_89 (by decide) (by omega) (by omega) (fun c89 => ?_) (fun c89 => ?_)
            · refine k_bipush S dX8_layDay_97 ?_
              rw [show wkc (2 * dd) = 116 by rw [w1, if_neg (by omega), if_neg (by omega), if_neg (by omega), if_neg (by omega)]] at at99; exact at99
            · refine k_bipush S dX8_layDay_92 ?_
              refine k_goto (tgt := 99) S dX8_layDay_94 (by decide) ?_
              rw [show wkc (2 * dd) = 115 by rw [w1, if_neg (by omega), if_neg (by omega), if_neg (by omega), if_pos (by omega)]] at at99; exact at99
          · refine k_bipush S dX8_layDay_82 ?_
            refine k_goto (tgt := 99) S dX8_layDay_84 (by decide) ?_
            rw [show wkc (2 * dd) = 102 by rw [w1, if_neg (by omega), if_neg (by omega), if_pos (by omega)]] at at99; exact at99
        · refine k_bipush S dX8_layDay_72 ?_
          refine k_goto (tgt := 99) S dX8_layDay_74 (by decide) ?_
          rw [show wkc (2 * dd) = 119 by rw [w1, if_neg (by omega), if_pos (by omega)]] at at99; exact at99
      · refine k_bipush S dX8_layDay_62 ?_
        refine k_goto (tgt := 99) S dX8_layDay_64 (by decide) ?_
        rw [show wkc (2 * dd) = 109 by rw [w1, if_pos (by omega)]] at at99; exact at99
    · have ef : dateT x fo = digits (x / 30 % 12 + 1) ++ [46] ++ digits (x % 30 + 1) := by rw [dateT, if_neg c3, if_neg (by omega)]
      rw [ef] at S dl
      have g1 := dg_len 1 (x / 30 % 12 + 1) (by omega)
      have g2 := dg_len 1 (x % 30 + 1) (by omega)
      refine k_aload_n S dX8_layDay_20 rfl ?_
      refine k_iload_n S dX8_layDay_21 rfl ?_
      refine k_bipush S dX8_layDay_22 ?_
      refine k_idiv S dX8_layDay_24 (by omega) (by omega) ?_
      refine k_bipush S dX8_layDay_25 ?_
      refine k_irem S dX8_layDay_27 (by omega) (by omega) ?_
      refine k_iconst S dX8_layDay_28 ?_
      refine k_iadd S dX8_layDay_29 ?_
      rw [show ((x : Nat) : Int) / 30 % 12 + 1 = ((x / 30 % 12 + 1 : Nat) : Int) by omega]
      refine k_callV_v S dX8_layDay_30 v_X8_100 (m_layNumber D 4 _ hM (by omega) (by omega) (by omega)) hM.1 (fun h30 hp30 => ?_) rfl rfl (by decide) (by omega) (by omega) (Nat.le_of_ble_eq_true rfl)
      refine k_aload_n S dX8_layDay_33 rfl ?_
      refine k_bipush S dX8_layDay_34 ?_
      refine k_callV_v S dX8_layDay_36 v_X8_104 (m_layc D hp30.rb (by omega) (by simp only [List.length_append]; omega)) hp30.1 (fun h36 hp36 => ?_) rfl rfl (by decide) (by omega) (by omega) (Nat.le_of_ble_eq_true rfl)
      have M36 := hp30.tr hp36
      refine k_aload_n S dX8_layDay_39 rfl ?_
      refine k_iload_n S dX8_layDay_40 rfl ?_
      refine k_bipush S dX8_layDay_41 ?_
      refine k_irem S dX8_layDay_43 (by omega) (by omega) ?_
      refine k_iconst S dX8_layDay_44 ?_
      refine k_iadd S dX8_layDay_45 ?_
      rw [show ((x : Nat) : Int) % 30 + 1 = ((x % 30 + 1 : Nat) : Int) by omega]
      refine k_callV_v S dX8_layDay_46 v_X8_100 (m_layNumber D 4 _ M36.rb (by omega) (by omega) (by simp only [List.length_append, List.length_cons, List.length_nil]; omega)) M36.1 (fun h46 hp46 => ?_) rfl rfl (by decide) (by omega) (by omega) (Nat.le_of_ble_eq_true rfl)
      refine k_goto (tgt := 163) S dX8_layDay_49 (by decide) ?_
      exact k_return S dX8_layDay_163 ⟨rfl, by have := M36.tr hp46; rw [List.append_assoc, List.append_assoc, ← List.append_assoc (digits (x / 30 % 12 + 1))] at this; exact this⟩ (by omega) (by omega)
  · have ef : dateT x fo = digits x := by rw [dateT, if_pos c3]
    rw [ef] at S dl
    refine k_aload_n S dX8_layDay_6 rfl ?_
    refine k_iload_n S dX8_layDay_7 rfl ?_
    refine k_callV_v S dX8_layDay_8 v_X8_100 (m_layNumber D 4 _ hM (by omega) (by omega) (by omega)) hM.1 (fun h8 hp8 => ?_) rfl rfl (by decide) (by omega) (by omega) (Nat.le_of_ble_eq_true rfl)
    refine k_goto (tgt := 163) S dX8_layDay_11 (by decide) ?_
    exact k_return S dX8_layDay_163 ⟨rfl, hp8⟩ (by omega) (by omega)
end
