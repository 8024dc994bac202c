/-! what is laid -/
def wrF (F : Nat → Int) (n : Nat) (l : List Int) : Nat → Int := fun q => if n ≤ q ∧ q < n + l.length then l.getD (q - n) 0 else F q
theorem wrF_nil (F : Nat → Int) (n : Nat) : wrF F n [] = F := by
  funext q
  unfold wrF
  rw [if_neg]
  simp only [List.length_nil]
  omega
theorem wrF_snoc {F : Nat → Int} {l : List Int} {v : Int} : gupd (wrF F 0 l) l.length v = wrF F 0 (l ++ [v]) := by
  funext q
  unfold wrF gupd
  simp only [List.length_append, List.length_cons, List.length_nil, Nat.sub_zero, Nat.zero_add]
  by_cases e : q = l.length
  · subst e
    rw [if_pos rfl, if_pos (by omega), List.getD_eq_getElem?_getD, List.getElem?_append_right (Nat.le_refl _), Nat.sub_self]
    rfl
  · rw [if_neg e]
    by_cases e2 : q < l.length
    · rw [if_pos (by omega), if_pos (by omega), List.getD_eq_getElem?_getD, List.getD_eq_getElem?_getD, List.getElem?_append_left e2]
    · rw [if_neg (by omega), if_neg (by omega)]
def lyR {α : Type} (g : Nat → α → α) : Nat → Nat → α → α
  | 0, _, w => w
  | n + 1, p, w => lyR g n (p + 1) (g p w)
section
variable (pn kd on ot sc : Nat → Int) (td : Int)
def lyF : Nat → Nat → List Int × List Int → List Int × List Int
  | 0, _, w => w
  | f + 1, s, w => lyR (fun p w => if kd p = 99 then (w.1 ++ [on p], w.2) else if kd p = 115 then lyF f (on p).toNat w else if kd p = 111 then lyF f (if sc s = 0 then on p else ot p).toNat w else if kd p = 100 then (w.1 ++ dateT (td + on p).toNat (ot p), w.2) else (w.1, w.2 ++ [(w.1.length : Int)])) (pn s).toNat (12 * s) w
end
def BOk2 (sn : Int) (pn kd on ot : Nat → Int) : Prop := ∀ s : Nat, (s : Int) < sn → ∀ p : Nat, 12 * s ≤ p → (p : Int) < 12 * (s : Nat) + pn s → (kd p = 99 → 0 ≤ on p ∧ on p < 65536) ∧ (kd p = 100 → (-99 ≤ on p ∧ on p ≤ 99) ∧ (ot p = 110 ∨ ot p = 119 ∨ ot p = 109))
theorem wk1 : ∀ d : Nat, d < 7 → wkc (2 * d) = if d = 0 then 109 else if d = 2 then 119 else if d = 4 then 102 else if 4 < d then 115 else 116 := by decide
theorem wk2 : ∀ d : Nat, d < 7 → wkc (2 * d + 1) = if d = 0 then 111 else if d = 1 ∨ d = 6 then 117 else if d = 2 then 101 else if d = 3 then 104 else if d = 4 then 114 else 97 := by decide
section
variable {mo : Nat} {am : Nat → Nat} {th sn td ln ca st ld ls wl wc ws ex kp la sv cu : Int} {tg kd tx wa ou le pn on ot sp wp op fw of sc : Nat → Int}
/-- lay(c), behind what is laid -/
theorem m_layc (D : DD) {h : GH} {cl sl : List Int} (hM : IsM h h mo am [gI th, gI sn, gI td, gI ln, gI ca, gI st, gI (((cl).length : Nat)), gI (((sl).length : Nat)), gI wl, gI wc, gI ws, gI ex, gI kp, gI la, gL sv, gI cu] [tg, kd, tx, wa, (wrF ou 0 (cl)), le, pn, on, ot, sp, wp, (wrF op 0 (sl)), fw, of, sc]) {c : Int} (hc : 0 ≤ c ∧ c < 65536) (hl : cl.length < 400) : GMet D yX8_lay cX8_lay 2 none [] 1 0 0 [gR (some mo), gI c] h (pv (fun h1 => IsM h h1 mo am [gI th, gI sn, gI td, gI ln, gI ca, gI st, gI (((cl ++ [c]).length : Nat)), gI (((sl).length : Nat)), gI wl, gI wc, gI ws, gI ex, gI kp, gI la, gL sv, gI cu] [tg, kd, tx, wa, (wrF ou 0 (cl ++ [c])), le, pn, on, ot, sp, wp, (wrF op 0 (sl)), fw, of, sc])) := by
  have := m_lay D hM hc (by omega)
  rw [show (((cl.length : Nat)) : Int).toNat = cl.length by omega, wrF_snoc, show ((cl.length : Nat) : Int) + 1 = (((cl ++ [c]).length : Nat) : Int) by simp] at this
  exact this
/-- layNumber(x) -/
theorem m_layNumber (D : DD)  : ∀ (d x : Nat) {h : GH} {cl sl : List Int} (hM : IsM h h mo am [gI th, gI sn, gI td, gI ln, gI ca, gI st, gI (((cl).length : Nat)), gI (((sl).length : Nat)), gI wl, gI wc, gI ws, gI ex, gI kp, gI la, gL sv, gI cu] [tg, kd, tx, wa, (wrF ou 0 (cl)), le, pn, on, ot, sp, wp, (wrF op 0 (sl)), fw, of, sc]) (_ : x < 2147483648) (_ : x < 10 ^ (d + 1)) (_ : cl.length + (digits x).length ≤ 400), GMet D yX8_layNumber cX8_layNumber 2 none [] (d + 2) 0 0 [gR (some mo), gI x] h (pv (fun h1 => IsM h h1 mo am [gI th, gI sn, gI td, gI ln, gI ca, gI st, gI (((cl ++ digits x).length : Nat)), gI (((sl).length : Nat)), gI wl, gI wc, gI ws, gI ex, gI kp, gI la, gL sv, gI cu] [tg, kd, tx, wa, (wrF ou 0 (cl ++ digits x)), le, pn, on, ot, sp, wp, (wrF op 0 (sl)), fw, of, sc])) := by
  intro d
  induction d with
  | zero =>
    intro x h cl sl hM hxr hx hc
    have hx : x < 10 := hx
    have ed : digits x = [48 + (x : Int)] := by rw [digits, if_pos hx]
    rw [ed] at hc ⊢
    simp only [List.length_cons, List.length_nil] at hc
    refine GMet.intro RX8 rfl (by decide) (gcats rfl) (Nat.le_of_ble_eq_true rfl) fun K KX S => ?_
    show K 0 [some _, some _] [] _ 0 0
    refine k_iload_n S dX8_layNumber_0 rfl ?_
    refine k_bipush S dX8_layNumber_1 ?_
    refine k_icmp_le (tgt := 14) S dX8_layNumber_3 (by decide) (by omega) (by omega) (fun c3 => ?_) (fun c3 => ?_)
    · refine k_aload_n S dX8_layNumber_14 rfl ?_
      refine k_bipush S dX8_layNumber_15 ?_
      refine k_iload_n S dX8_layNumber_17 rfl ?_
      refine k_bipush S dX8_layNumber_18 ?_
      refine k_irem S dX8_layNumber_20 (by omega) (by omega) ?_
      refine k_iadd S dX8_layNumber_21 ?_
      refine k_i2c S dX8_layNumber_22 ?_
      rw [show (48 + ((x : Nat) : Int) % 10) % 65536 = 48 + (x : Int) by omega]
      refine k_callV_v S dX8_layNumber_23 v_X8_104 (m_layc D hM (by omega) (by omega)) hM.1 (fun h23 hp23 => ?_) rfl rfl (by decide) (by omega) (by omega) (Nat.le_of_ble_eq_true rfl)
      exact k_return S dX8_layNumber_26 ⟨rfl, hp23⟩ (by omega) (by omega)
    · omega
  | succ d ih =>
    intro x h cl sl hM hxr hx hc
    refine GMet.intro RX8 rfl (by decide) (gcats rfl) (Nat.le_of_ble_eq_true rfl) fun K KX S => ?_
    show K 0 [some _, some _] [] _ 0 0
    refine k_iload_n S dX8_layNumber_0 rfl ?_
    refine k_bipush S dX8_layNumber_1 ?_
    refine k_icmp_le (tgt := 14) S dX8_layNumber_3 (by decide) (by omega) (by omega) (fun c3 => ?_) (fun c3 => ?_)
    · have ed : digits x = [48 + (x : Int)] := by rw [digits, if_pos (by omega)]
      rw [ed] at hc S
      simp only [List.length_cons, List.length_nil] at hc
      refine k_aload_n S dX8_layNumber_14 rfl ?_
      refine k_bipush S dX8_layNumber_15 ?_
      refine k_iload_n S dX8_layNumber_17 rfl ?_
      refine k_bipush S dX8_layNumber_18 ?_
      refine k_irem S dX8_layNumber_20 (by omega) (by omega) ?_
      refine k_iadd S dX8_layNumber_21 ?_
      refine k_i2c S dX8_layNumber_22 ?_
      rw [show (48 + ((x : Nat) : Int) % 10) % 65536 = 48 + (x : Int) by omega]
      refine k_callV_v S dX8_layNumber_23 v_X8_104 (m_layc D hM (by omega) (by omega)) hM.1 (fun h23 hp23 => ?_) rfl rfl (by omega) (by omega) (by omega) (Nat.le_of_ble_eq_true rfl)
      exact k_return S dX8_layNumber_26 ⟨rfl, hp23⟩ (by omega) (by omega)
    · have ed : digits x = digits (x / 10) ++ [48 + ((x % 10 : Nat) : Int)] := by rw [digits, if_neg (by omega)]
      rw [ed] at hc S
      simp only [List.length_append, List.length_cons, List.length_nil] at hc
      refine k_aload_n S dX8_layNumber_6 rfl ?_
      refine k_iload_n S dX8_layNumber_7 rfl ?_
      refine k_bipush S dX8_layNumber_8 ?_
      refine k_idiv S dX8_layNumber_10 (by omega) (by omega) ?_
      rw [show ((x : Nat) : Int) / 10 = ((x / 10 : Nat) : Int) by omega]
      refine k_callV_v S dX8_layNumber_11 v_X8_100 (ih (x / 10) hM (by omega) (by rw [Nat.pow_succ] at hx; omega) (by omega)) hM.1 (fun h11 hp11 => ?_) rfl rfl (by omega) (by omega) (by omega) (Nat.le_of_ble_eq_true rfl)
      refine k_aload_n S dX8_layNumber_14 rfl ?_
      refine k_bipush S dX8_layNumber_15 ?_
      refine k_iload_n S dX8_layNumber_17 rfl ?_
      refine k_bipush S dX8_layNumber_18 ?_
      refine k_irem S dX8_layNumber_20 (by omega) (by omega) ?_
      refine k_iadd S dX8_layNumber_21 ?_
      refine k_i2c S dX8_layNumber_22 ?_
      rw [show (48 + ((x : Nat) : Int) % 10) % 65536 = 48 + ((x % 10 : Nat) : Int) by omega]
      refine k_callV_v S dX8_layNumber_23 v_X8_104 (m_layc D hp11.rb (c := 48 + ((x % 10 : Nat) : Int)) (by omega) (by simp only [List.length_append]; omega)) hp11.1 (fun h23 hp23 => ?_) rfl rfl (by omega) (by omega) (by omega) (Nat.le_of_ble_eq_true rfl)
      exact k_return S dX8_layNumber_26 ⟨rfl, by have := hp11.tr hp23; rw [List.append_assoc] at this; exact this⟩ (by omega) (by omega)
/-- layDay(x, form) -/
theorem m_layDay (D : DD) {h : GH} {cl sl : List Int} (hM : IsM h h mo am [gI th, gI sn, gI td, gI ln, gI ca, gI st, gI (((cl).length : Nat)), gI (((sl).length : Nat)), gI wl, gI wc, gI ws, gI ex, gI kp, gI la, gL sv, gI cu] [tg, kd, tx, wa, (wrF ou 0 (cl)), le, pn, on, ot, sp, wp, (wrF op 0 (sl)), fw, of, sc]) {x : Nat} (hx : x < 100000) {fo : Int} (hf : fo = 110 ∨ fo = 119 ∨ fo = 109) (hc : cl.length + 5 ≤ 400) : GMet D yX8_layDay cX8_layDay 4 none [] 8 0 0 [gR (some mo), gI x, gI fo] h (pv (fun h1 => IsM h h1 mo am [gI th, gI sn, gI td, gI ln, gI ca, gI st, gI (((cl ++ dateT x fo).length : Nat)), gI (((sl).length : Nat)), gI wl, gI wc, gI ws, gI ex, gI kp, gI la, gL sv, gI cu] [tg, kd, tx, wa, (wrF ou 0 (cl ++ dateT x fo)), le, pn, on, ot, sp, wp, (wrF op 0 (sl)), fw, of, sc])) := by
  refine GMet.intro RX8 rfl (by decide) (gcats rfl) (Nat.le_of_ble_eq_true rfl) fun K KX S => ?_
  show K 0 [some _, some _, some _, none] [] _ 0 0
  have dl := dateT_len hx fo
  refine k_iload_n S dX8_layDay_0 rfl ?_
  refine k_bipush S dX8_layDay_1 ?_
  refine k_icmp_ne (tgt := 14) S dX8_layDay_3 (by decide) (by omega) (by omega) (fun c3 => ?_) (fun c3 => ?_)
  · refine k_iload_n S dX8_layDay_14 rfl ?_
    refine k_bipush S dX8_layDay_15 ?_
    refine k_icmp_ne (tgt := 52) S dX8_layDay_17 (by decide) (by omega) (by omega) (fun c17 => ?_) (fun c17 => ?_)
    · -- the day of the week
      have ef : dateT x fo = [wkc (2 * (x % 7)), wkc (2 * (x % 7) + 1)] := by rw [dateT, if_neg c3, if_pos (by omega)]
      have hd := Nat.mod_lt x (show 0 < 7 by omega)
      rw [ef] at S
      refine k_iload_n S dX8_layDay_52 rfl ?_
      refine k_bipush S dX8_layDay_53 ?_
      refine k_irem S dX8_layDay_55 (by omega) (by omega) ?_
      rw [show ((x : Nat) : Int) % 7 = ((x % 7 : Nat) : Int) by omega]
      refine k_istore_n S dX8_layDay_56 (by decide) ?_
      generalize hD : x % 7 = dd at *
      have w1 := wk1 dd hd
      have w2 := wk2 dd hd
      have r1 : 0 ≤ wkc (2 * dd) ∧ wkc (2 * dd) < 65536 := (wkc_ok _ (by omega)).2
      have r2 : 0 ≤ wkc (2 * dd + 1) ∧ wkc (2 * dd + 1) < 65536 := (wkc_ok _ (by omega)).2
      have at160 : ∀ h5, IsM h h5 mo am [gI th, gI sn, gI td, gI ln, gI ca, gI st, gI (((cl ++ [wkc (2 * dd)]).length : Nat)), gI (((sl).length : Nat)), gI wl, gI wc, gI ws, gI ex, gI kp, gI la, gL sv, gI cu] [tg, kd, tx, wa, (wrF ou 0 (cl ++ [wkc (2 * dd)])), le, pn, on, ot, sp, wp, (wrF op 0 (sl)), fw, of, sc] → K 160 [some (gR (some mo)), some (gI x), some (gI fo), some (gI dd)] [gI (wkc (2 * dd + 1)), gR (some mo)] h5 0 0 := fun h5 M5 => by
        refine k_callV_v S dX8_layDay_160 v_X8_104 (m_layc D M5.rb r2 (by simp only [List.length_append, List.length_cons, List.length_nil]; omega)) M5.1 (fun h160 hp160 => ?_) rfl rfl (by decide) (by omega) (by omega) (Nat.le_of_ble_eq_true rfl)
        exact k_return S dX8_layDay_163 ⟨rfl, by have := M5.tr hp160; rw [List.append_assoc] at this; exact this⟩ (by omega) (by omega)
      have at102 : ∀ h5, IsM h h5 mo am [gI th, gI sn, gI td, gI ln, gI ca, gI st, gI (((cl ++ [wkc (2 * dd)]).length : Nat)), gI (((sl).length : Nat)), gI wl, gI wc, gI ws, gI ex, gI kp, gI la, gL sv, gI cu] [tg, kd, tx, wa, (wrF ou 0 (cl ++ [wkc (2 * dd)])), le, pn, on, ot, sp, wp, (wrF op 0 (sl)), fw, of, sc] → K 102 [some (gR (some mo)), some (gI x), some (gI fo), some (gI dd)] [] h5 0 0 := fun h5 M5 => by
        have at160 := at160 h5 M5
        refine k_aload_n S dX8_layDay_102 rfl ?_
        refine k_iload_n S dX8_layDay_103 rfl ?_
        refine k_if_ne (tgt := 112) S dX8_layDay_104 (by decide) (by omega) (fun c104 => ?_) (fun c104 => ?_)
        · refine k_iload_n S dX8_layDay_112 rfl ?_
          refine k_iconst S dX8_layDay_113 ?_
          refine k_icmp_eq (tgt := 123) S dX8_layDay_114 (by decide) (by omega) (by omega) (fun c114 => ?_) (fun c114 => ?_)
          · refine k_bipush S dX8_layDay_123 ?_
            refine k_goto (tgt := 160) S dX8_layDay_125 (by decide) ?_
            rw [show wkc (2 * dd + 1) = 117 by rw [w2, if_neg (by omega), if_pos (by omega)]] at at160; exact at160
          · refine k_iload_n S dX8_layDay_117 rfl ?_
            refine k_bipush S dX8_layDay_118 ?_
            refine k_icmp_ne (tgt := 128) S dX8_layDay_120 (by decide) (by omega) (by omega) (fun c120 => ?_) (fun c120 => ?_)
            · refine k_iload_n S dX8_layDay_128 rfl ?_
              refine k_iconst S dX8_layDay_129 ?_
              refine k_icmp_ne (tgt := 138) S dX8_layDay_130 (by decide) (by omega) (by omega) (fun c130 => ?_) (fun c130 => ?_)
              · refine k_iload_n S dX8_layDay_138 rfl ?_
                refine k_iconst S dX8_layDay_139 ?_
                refine k_icmp_ne (tgt := 148) S dX8_layDay_140 (by decide) (by omega) (by omega) (fun c140 => ?_) (fun c140 => ?_)
                · refine k_iload_n S dX8_layDay_148 rfl ?_
                  refine k_iconst S dX8_layDay_149 ?_
                  refine k_icmp_ne (tgt := 158) S dX8_layDay_150 (by decide) (by omega) (by omega) (fun c150 => ?_) (fun c150 => ?_)
                  · refine k_bipush S dX8_layDay_158 ?_
                    rw [show wkc (2 * dd + 1) = 97 by rw [w2, if_neg (by omega), if_neg (by omega), if_neg (by omega), if_neg (by omega), if_neg (by omega)]] at at160; exact at160
                  · refine k_bipush S dX8_layDay_153 ?_
                    refine k_goto (tgt := 160) S dX8_layDay_155 (by decide) ?_
                    rw [show wkc (2 * dd + 1) = 114 by rw [w2, if_neg (by omega), if_neg (by omega), if_neg (by omega), if_neg (by omega), if_pos (by omega)]] at at160; exact at160
                · refine k_bipush S dX8_layDay_143 ?_
                  refine k_goto (tgt := 160) S dX8_layDay_145 (by decide) ?_
                  rw [show wkc (2 * dd + 1) = 104 by rw [w2, if_neg (by omega), if_neg (by omega), if_neg (by omega), if_pos (by omega)]] at at160; exact at160
              · refine k_bipush S dX8_layDay_133 ?_
                refine k_goto (tgt := 160) S dX8_layDay_135 (by decide) ?_
                rw [show wkc (2 * dd + 1) = 101 by rw [w2, if_neg (by omega), if_neg (by omega), if_pos (by omega)]] at at160; exact at160
            · refine k_bipush S dX8_layDay_123 ?_
              refine k_goto (tgt := 160) S dX8_layDay_125 (by decide) ?_
              rw [show wkc (2 * dd + 1) = 117 by rw [w2, if_neg (by omega), if_pos (by omega)]] at at160; exact at160
        · refine k_bipush S dX8_layDay_107 ?_
          refine k_goto (tgt := 160) S dX8_layDay_109 (by decide) ?_
          rw [show wkc (2 * dd + 1) = 111 by rw [w2, if_pos (by omega)]] at at160; exact at160
      have at99 : K 99 [some (gR (some mo)), some (gI x), some (gI fo), some (gI dd)] [gI (wkc (2 * dd)), gR (some mo)] h 0 0 := by
        refine k_callV_v S dX8_layDay_99 v_X8_104 (m_layc D hM r1 (by omega)) hM.1 (fun h99 hp99 => ?_) rfl rfl (by decide) (by omega) (by omega) (Nat.le_of_ble_eq_true rfl)
        exact at102 _ hp99
      refine k_aload_n S dX8_layDay_57 rfl ?_
      refine k_iload_n S dX8_layDay_58 rfl ?_
      refine k_if_ne (tgt := 67) S dX8_layDay_59 (by decide) (by omega) (fun c59 => ?_) (fun c59 => ?_)
      · refine k_iload_n S dX8_layDay_67 rfl ?_
        refine k_iconst S dX8_layDay_68 ?_
        refine k_icmp_ne (tgt := 77) S dX8_layDay_69 (by decide) (by omega) (by omega) (fun c69 => ?_) (fun c69 => ?_)
        · refine k_iload_n S dX8_layDay_77 rfl ?_
          refine k_iconst S dX8_layDay_78 ?_
          refine k_icmp_ne (tgt := 87) S dX8_layDay_79 (by decide) (by omega) (by omega) (fun c79 => ?_) (fun c79 => ?_)
          · refine k_iload_n S dX8_layDay_87 rfl ?_
            refine k_iconst S dX8_layDay_88 ?_
            refine k_icmp_le (tgt := 97) S dX8_layDay_89 (by decide) (by omega) (by omega) (fun c89 => ?_) (fun c89 => ?_)
            · refine k_bipush S dX8_layDay_97 ?_
              rw [show wkc (2 * dd) = 116 by rw [w1, if_neg (by omega), if_neg (by omega), if_neg (by omega), if_neg (by omega)]] at at99; exact at99
            · refine k_bipush S dX8_layDay_92 ?_
              refine k_goto (tgt := 99) S dX8_layDay_94 (by decide) ?_
              rw [show wkc (2 * dd) = 115 by rw [w1, if_neg (by omega), if_neg (by omega), if_neg (by omega), if_pos (by omega)]] at at99; exact at99
          · refine k_bipush S dX8_layDay_82 ?_
            refine k_goto (tgt := 99) S dX8_layDay_84 (by decide) ?_
            rw [show wkc (2 * dd) = 102 by rw [w1, if_neg (by omega), if_neg (by omega), if_pos (by omega)]] at at99; exact at99
        · refine k_bipush S dX8_layDay_72 ?_
          refine k_goto (tgt := 99) S dX8_layDay_74 (by decide) ?_
          rw [show wkc (2 * dd) = 119 by rw [w1, if_neg (by omega), if_pos (by omega)]] at at99; exact at99
      · refine k_bipush S dX8_layDay_62 ?_
        refine k_goto (tgt := 99) S dX8_layDay_64 (by decide) ?_
        rw [show wkc (2 * dd) = 109 by rw [w1, if_pos (by omega)]] at at99; exact at99
    · have ef : dateT x fo = digits (x / 30 % 12 + 1) ++ [46] ++ digits (x % 30 + 1) := by rw [dateT, if_neg c3, if_neg (by omega)]
      rw [ef] at S dl
      have g1 := dg_len 1 (x / 30 % 12 + 1) (by omega)
      have g2 := dg_len 1 (x % 30 + 1) (by omega)
      refine k_aload_n S dX8_layDay_20 rfl ?_
      refine k_iload_n S dX8_layDay_21 rfl ?_
      refine k_bipush S dX8_layDay_22 ?_
      refine k_idiv S dX8_layDay_24 (by omega) (by omega) ?_
      refine k_bipush S dX8_layDay_25 ?_
      refine k_irem S dX8_layDay_27 (by omega) (by omega) ?_
      refine k_iconst S dX8_layDay_28 ?_
      refine k_iadd S dX8_layDay_29 ?_
      rw [show ((x : Nat) : Int) / 30 % 12 + 1 = ((x / 30 % 12 + 1 : Nat) : Int) by omega]
      refine k_callV_v S dX8_layDay_30 v_X8_100 (m_layNumber D 4 _ hM (by omega) (by omega) (by omega)) hM.1 (fun h30 hp30 => ?_) rfl rfl (by decide) (by omega) (by omega) (Nat.le_of_ble_eq_true rfl)
      refine k_aload_n S dX8_layDay_33 rfl ?_
      refine k_bipush S dX8_layDay_34 ?_
      refine k_callV_v S dX8_layDay_36 v_X8_104 (m_layc D hp30.rb (by omega) (by simp only [List.length_append]; omega)) hp30.1 (fun h36 hp36 => ?_) rfl rfl (by decide) (by omega) (by omega) (Nat.le_of_ble_eq_true rfl)
      have M36 := hp30.tr hp36
      refine k_aload_n S dX8_layDay_39 rfl ?_
      refine k_iload_n S dX8_layDay_40 rfl ?_
      refine k_bipush S dX8_layDay_41 ?_
      refine k_irem S dX8_layDay_43 (by omega) (by omega) ?_
      refine k_iconst S dX8_layDay_44 ?_
      refine k_iadd S dX8_layDay_45 ?_
      rw [show ((x : Nat) : Int) % 30 + 1 = ((x % 30 + 1 : Nat) : Int) by omega]
      refine k_callV_v S dX8_layDay_46 v_X8_100 (m_layNumber D 4 _ M36.rb (by omega) (by omega) (by simp only [List.length_append, List.length_cons, List.length_nil]; omega)) M36.1 (fun h46 hp46 => ?_) rfl rfl (by decide) (by omega) (by omega) (Nat.le_of_ble_eq_true rfl)
      refine k_goto (tgt := 163) S dX8_layDay_49 (by decide) ?_
      exact k_return S dX8_layDay_163 ⟨rfl, by have := M36.tr hp46; rw [List.append_assoc, List.append_assoc, ← List.append_assoc (digits (x / 30 % 12 + 1))] at this; exact this⟩ (by omega) (by omega)
  · have ef : dateT x fo = digits x := by rw [dateT, if_pos c3]
    rw [ef] at S dl
    refine k_aload_n S dX8_layDay_6 rfl ?_
    refine k_iload_n S dX8_layDay_7 rfl ?_
    refine k_callV_v S dX8_layDay_8 v_X8_100 (m_layNumber D 4 _ hM (by omega) (by omega) (by omega)) hM.1 (fun h8 hp8 => ?_) rfl rfl (by decide) (by omega) (by omega) (Nat.le_of_ble_eq_true rfl)
    refine k_goto (tgt := 163) S dX8_layDay_11 (by decide) ?_
    exact k_return S dX8_layDay_163 ⟨rfl, hp8⟩ (by omega) (by omega)
theorem sumR_nn {g : Nat → Int} : ∀ n p, (∀ q, p ≤ q → q < p + n → 0 ≤ g q) → 0 ≤ sumR g n p
  | 0, _, _ => Int.le_refl _
  | n + 1, p, hg => by
    unfold sumR
    have h1 := hg p (by omega) (by omega)
    have h2 := sumR_nn n (p + 1) (fun q h1 h2 => hg q (by omega) (by omega))
    omega
theorem szF_nn {pn kd on ot : Nat → Int} : ∀ f s, 0 ≤ szF pn kd on ot f s
  | 0, _ => Int.le_refl _
  | f + 1, s => by
    unfold szF
    refine sumR_nn _ _ (fun q _ _ => ?_)
    have h1 := szF_nn (pn := pn) (kd := kd) (on := on) (ot := ot) f (on q).toNat
    have h2 := szF_nn (pn := pn) (kd := kd) (on := on) (ot := ot) f (ot q).toNat
    split
    · omega
    · split
      · omega
      · split <;> omega
theorem lyR_len {G : Nat → List Int × List Int → List Int × List Int} {g : Nat → Int} : ∀ n p w, (∀ q, p ≤ q → q < p + n → ∀ w, ((G q w).1.length : Int) ≤ w.1.length + g q ∧ ((G q w).2.length : Int) ≤ w.2.length + g q) → ((lyR G n p w).1.length : Int) ≤ w.1.length + sumR g n p ∧ ((lyR G n p w).2.length : Int) ≤ w.2.length + sumR g n p
  | 0, _, w, _ => by unfold lyR sumR; omega
  | n + 1, p, w, hg => by
    unfold lyR sumR
    have h1 := hg p (by omega) (by omega) w
    have h2 := lyR_len (G := G) (g := g) n (p + 1) (G p w) (fun q h1 h2 => hg q (by omega) (by omega))
    omega
theorem lyF_len {pn kd on ot sc : Nat → Int} {sn td : Int} {rk : Nat → Nat} (hB : BOk sn pn kd on ot rk) (hB2 : BOk2 sn pn kd on ot) (htd : 99 ≤ td ∧ td ≤ 9999) : ∀ (f s : Nat), (s : Int) < sn → ∀ w : List Int × List Int, ((lyF pn kd on ot sc td f s w).1.length : Int) ≤ w.1.length + szF pn kd on ot f s ∧ ((lyF pn kd on ot sc td f s w).2.length : Int) ≤ w.2.length + szF pn kd on ot f s
  | 0, s, _, w => by unfold lyF szF; omega
  | f + 1, s, hs, w => by
    unfold lyF szF
    refine lyR_len _ _ _ (fun q h1 h2 w => ?_)
    obtain ⟨⟨p0, p1⟩, hb⟩ := hB s hs
    obtain ⟨b1, b2⟩ := hb q h1 (by omega)
    obtain ⟨b3, b4⟩ := hB2 s hs q h1 (by omega)
    have n1 := szF_nn (pn := pn) (kd := kd) (on := on) (ot := ot) f (on q).toNat
    have n2 := szF_nn (pn := pn) (kd := kd) (on := on) (ot := ot) f (ot q).toNat
    by_cases e1 : kd q = 99
    · simp only [if_pos e1, if_neg (show ¬ kd q = 115 by omega), if_neg (show ¬ kd q = 111 by omega), if_neg (show ¬ kd q = 100 by omega), List.length_append, List.length_cons, List.length_nil]
      omega
    rw [if_neg e1]
    by_cases e2 : kd q = 115
    · obtain ⟨o1, o2, -⟩ := b1 (Or.inl e2)
      have := lyF_len (sc := sc) hB hB2 htd f (on q).toNat (by omega) w
      simp only [if_pos e2]
      omega
    by_cases e3 : kd q = 111
    · obtain ⟨o1, o2, -⟩ := b1 (Or.inr e3)
      obtain ⟨o3, o4, -⟩ := b2 e3
      simp only [if_neg e2, if_pos e3]
      by_cases e4 : sc s = 0
      · have := lyF_len (sc := sc) hB hB2 htd f (on q).toNat (by omega) w
        simp only [if_pos e4]
        omega
      · have := lyF_len (sc := sc) hB hB2 htd f (ot q).toNat (by omega) w
        simp only [if_neg e4]
        omega
    by_cases e4 : kd q = 100
    · have dl := dateT_len (day := (td + on q).toNat) (by have := b4 e4; omega) (ot q)
      simp only [if_neg e2, if_neg e3, if_pos e4, List.length_append]
      omega
    · simp only [if_neg e2, if_neg e3, if_neg e4, List.length_append, List.length_cons, List.length_nil]
      omega
theorem m_lays {h h1 : GH} {cl sl : List Int} (hM : IsM h h1 mo am [gI th, gI sn, gI td, gI ln, gI ca, gI st, gI ((cl.length : Nat)), gI (((sl.length : Nat) : Int) + 1), gI wl, gI wc, gI ws, gI ex, gI kp, gI la, gL sv, gI cu] [tg, kd, tx, wa, (wrF ou 0 cl), le, pn, on, ot, sp, wp, (gupd (wrF op 0 sl) ((sl.length : Nat) : Int).toNat (cl.length : Nat)), fw, of, sc]) : IsM h h1 mo am [gI th, gI sn, gI td, gI ln, gI ca, gI st, gI ((cl.length : Nat)), gI (((sl ++ [(cl.length : Int)]).length : Nat)), gI wl, gI wc, gI ws, gI ex, gI kp, gI la, gL sv, gI cu] [tg, kd, tx, wa, (wrF ou 0 cl), le, pn, on, ot, sp, wp, (wrF op 0 (sl ++ [(cl.length : Int)])), fw, of, sc] := by
  rw [show (((sl.length : Nat)) : Int).toNat = sl.length by omega, wrF_snoc, show ((sl.length : Nat) : Int) + 1 = (((sl ++ [(cl.length : Int)]).length : Nat) : Int) by simp] at hM
  exact hM
theorem m_layAll (D : DD) {rk : Nat → Nat} (hn : 0 ≤ sn ∧ sn ≤ 8) (hk : allC kd) (hB : BOk sn pn kd on ot rk) (hB2 : BOk2 sn pn kd on ot) (htd : 99 ≤ td ∧ td ≤ 9999) (hsc : ∀ s : Nat, (s : Int) < sn → sc s = 0 ∨ sc s = 1) : ∀ (f s : Nat) {h : GH} {cl sl : List Int} (hM : IsM h h mo am [gI th, gI sn, gI td, gI ln, gI ca, gI st, gI (((cl).length : Nat)), gI (((sl).length : Nat)), gI wl, gI wc, gI ws, gI ex, gI kp, gI la, gL sv, gI cu] [tg, kd, tx, wa, (wrF ou 0 (cl)), le, pn, on, ot, sp, wp, (wrF op 0 (sl)), fw, of, sc]) (_ : (s : Int) < sn) (_ : rk s < f) (_ : (cl.length : Int) + szF pn kd on ot f s ≤ 400) (_ : (sl.length : Int) + szF pn kd on ot f s ≤ 400), GMet D yX8_layAll cX8_layAll 3 none [] (f + 8) 0 0 [gR (some mo), gI s] h (pv (fun h1 => IsM h h1 mo am [gI th, gI sn, gI td, gI ln, gI ca, gI st, gI ((((lyF pn kd on ot sc td f s (cl, sl)).1).length : Nat)), gI ((((lyF pn kd on ot sc td f s (cl, sl)).2).length : Nat)), gI wl, gI wc, gI ws, gI ex, gI kp, gI la, gL sv, gI cu] [tg, kd, tx, wa, (wrF ou 0 ((lyF pn kd on ot sc td f s (cl, sl)).1)), le, pn, on, ot, sp, wp, (wrF op 0 ((lyF pn kd on ot sc td f s (cl, sl)).2)), fw, of, sc])) := by
  intro f
  induction f with
  | zero => intro s h cl sl hM hs hr; omega
  | succ f ih =>
    intro s h cl sl hM hs hr hc1 hc2
    refine GMet.intro RX8 rfl (by decide) (gcats rfl) (Nat.le_of_ble_eq_true rfl) fun K KX S => ?_
    show K 0 [some _, some _, none] [] _ 0 0
    obtain ⟨⟨hp0, hp12⟩, hb⟩ := hB s hs
    have hb2 := hB2 s hs
    obtain ⟨n, hn2⟩ := Int.eq_ofNat_of_zero_le hp0
    have es : ((s : Nat) : Int).toNat = s := by omega
    have en : (pn s).toNat = n := by omega
    have nn := fun x => szF_nn (pn := pn) (kd := kd) (on := on) (ot := ot) f x
    have gnn : ∀ q, 0 ≤ (fun p => if kd p = 115 then 1 + szF pn kd on ot f (on p).toNat else if kd p = 111 then 1 + max (szF pn kd on ot f (on p).toNat) (szF pn kd on ot f (ot p).toNat) else if kd p = 100 then 5 else 1) q := fun q => by
      have h1 := nn (on q).toNat
      have h2 := nn (ot q).toNat
      dsimp only
      split
      · omega
      · split
        · omega
        · split <;> omega
    have loop : ∀ (d p : Nat) (h5 : GH) (cl5 sl5 : List Int), IsM h h5 mo am [gI th, gI sn, gI td, gI ln, gI ca, gI st, gI (((cl5).length : Nat)), gI (((sl5).length : Nat)), gI wl, gI wc, gI ws, gI ex, gI kp, gI la, gL sv, gI cu] [tg, kd, tx, wa, (wrF ou 0 (cl5)), le, pn, on, ot, sp, wp, (wrF op 0 (sl5)), fw, of, sc] → 12 * s ≤ p → p + d = 12 * s + n → (cl5.length : Int) + sumR (fun p => if kd p = 115 then 1 + szF pn kd on ot f (on p).toNat else if kd p = 111 then 1 + max (szF pn kd on ot f (on p).toNat) (szF pn kd on ot f (ot p).toNat) else if kd p = 100 then 5 else 1) d p ≤ 400 → (sl5.length : Int) + sumR (fun p => if kd p = 115 then 1 + szF pn kd on ot f (on p).toNat else if kd p = 111 then 1 + max (szF pn kd on ot f (on p).toNat) (szF pn kd on ot f (ot p).toNat) else if kd p = 100 then 5 else 1) d p ≤ 400 → lyF pn kd on ot sc td (f + 1) s (cl, sl) = lyR (fun p w => if kd p = 99 then (w.1 ++ [on p], w.2) else if kd p = 115 then lyF pn kd on ot sc td f (on p).toNat w else if kd p = 111 then lyF pn kd on ot sc td f (if sc s = 0 then on p else ot p).toNat w else if kd p = 100 then (w.1 ++ dateT (td + on p).toNat (ot p), w.2) else (w.1, w.2 ++ [(w.1.length : Int)])) d p (cl5, sl5) → K 5 [some (gR (some mo)), some (gI s), some (gI p)] [] h5 0 0 := by
      intro d
      induction d with
      | zero =>
        intro p h5 cl5 sl5 M5 hp1 hp2 hq1 hq2 hv
        refine k_iload_n S dX8_layAll_5 rfl ?_
        refine k_bipush S dX8_layAll_6 ?_
        refine k_iload_n S dX8_layAll_8 rfl ?_
        refine k_imul S dX8_layAll_9 ?_
        refine k_aload_n S dX8_layAll_10 rfl ?_
        refine k_getf S dX8_layAll_11 f_X8_33 M5.1 (by rfl) ?_
        refine k_iload_n S dX8_layAll_14 rfl ?_
        refine k_iaload S dX8_layAll_15 (M5.ld (j := 6) rfl rfl) (by omega) ?_
        rw [es, hn2]
        refine k_iadd S dX8_layAll_16 ?_
        refine k_icmp_ge (tgt := 176) S dX8_layAll_17 (by decide) (by omega) (by omega) (fun c17 => ?_) (fun c17 => ?_)
        · exact k_return S dX8_layAll_176 ⟨rfl, by rw [hv, lyR]; exact M5⟩ (by omega) (by omega)
        · omega
      | succ d ih2 =>
        intro p h5 cl5 sl5 M5 hp1 hp2 hq1 hq2 hv
        have ep : ((p : Nat) : Int).toNat = p := by omega
        obtain ⟨b1, b2⟩ := hb p (by omega) (by omega)
        obtain ⟨b3, b4⟩ := hb2 p (by omega) (by omega)
        have kr := hk p
        rw [sumR] at hq1 hq2
        rw [lyR] at hv
        have rest := sumR_nn (g := (fun p => if kd p = 115 then 1 + szF pn kd on ot f (on p).toNat else if kd p = 111 then 1 + max (szF pn kd on ot f (on p).toNat) (szF pn kd on ot f (ot p).toNat) else if kd p = 100 then 5 else 1)) d (p + 1) (fun q _ _ => gnn q)
        have n1 := nn (on p).toNat
        have n2 := nn (ot p).toNat
        have next : ∀ (h6 : GH) (cl6 sl6 : List Int), IsM h h6 mo am [gI th, gI sn, gI td, gI ln, gI ca, gI st, gI (((cl6).length : Nat)), gI (((sl6).length : Nat)), gI wl, gI wc, gI ws, gI ex, gI kp, gI la, gL sv, gI cu] [tg, kd, tx, wa, (wrF ou 0 (cl6)), le, pn, on, ot, sp, wp, (wrF op 0 (sl6)), fw, of, sc] → (fun p w => if kd p = 99 then (w.1 ++ [on p], w.2) else if kd p = 115 then lyF pn kd on ot sc td f (on p).toNat w else if kd p = 111 then lyF pn kd on ot sc td f (if sc s = 0 then on p else ot p).toNat w else if kd p = 100 then (w.1 ++ dateT (td + on p).toNat (ot p), w.2) else (w.1, w.2 ++ [(w.1.length : Int)])) p (cl5, sl5) = (cl6, sl6) → (cl6.length : Int) ≤ cl5.length + (fun p => if kd p = 115 then 1 + szF pn kd on ot f (on p).toNat else if kd p = 111 then 1 + max (szF pn kd on ot f (on p).toNat) (szF pn kd on ot f (ot p).toNat) else if kd p = 100 then 5 else 1) p → (sl6.length : Int) ≤ sl5.length + (fun p => if kd p = 115 then 1 + szF pn kd on ot f (on p).toNat else if kd p = 111 then 1 + max (szF pn kd on ot f (on p).toNat) (szF pn kd on ot f (ot p).toNat) else if kd p = 100 then 5 else 1) p → K 170 [some (gR (some mo)), some (gI s), some (gI p)] [] h6 0 0 := fun h6 cl6 sl6 M6 e1 e2 e3 => by
          dsimp only at e2 e3
          refine k_iinc S dX8_layAll_170 rfl (by decide) ?_
          refine k_goto (tgt := 5) S dX8_layAll_173 (by decide) ?_
          exact ih2 (p + 1) h6 cl6 sl6 M6 (by omega) (by omega) (by omega) (by omega) (hv.trans (congrArg (lyR _ d (p + 1)) e1))
        dsimp only at next
        refine k_iload_n S dX8_layAll_5 rfl ?_
        refine k_bipush S dX8_layAll_6 ?_
        refine k_iload_n S dX8_layAll_8 rfl ?_
        refine k_imul S dX8_layAll_9 ?_
        refine k_aload_n S dX8_layAll_10 rfl ?_
        refine k_getf S dX8_layAll_11 f_X8_33 M5.1 (by rfl) ?_
        refine k_iload_n S dX8_layAll_14 rfl ?_
        refine k_iaload S dX8_layAll_15 (M5.ld (j := 6) rfl rfl) (by omega) ?_
        rw [es, hn2]
        refine k_iadd S dX8_layAll_16 ?_
        refine k_icmp_ge (tgt := 176) S dX8_layAll_17 (by decide) (by omega) (by omega) (fun c17 => ?_) (fun c17 => ?_)
        · omega
        · refine k_aload_n S dX8_layAll_20 rfl ?_
          refine k_getf S dX8_layAll_21 f_X8_17 M5.1 (by rfl) ?_
          refine k_iload_n S dX8_layAll_24 rfl ?_
          refine k_caload S dX8_layAll_25 (M5.ld (j := 1) rfl rfl) (by omega) ?_
          rw [ep]
          refine k_bipush S dX8_layAll_26 ?_
          refine k_icmp_ne (tgt := 45) S dX8_layAll_28 (by decide) (by omega) (by omega) (fun c28 => ?_) (fun c28 => ?_)
          · refine k_aload_n S dX8_layAll_45 rfl ?_
            refine k_getf S dX8_layAll_46 f_X8_17 M5.1 (by rfl) ?_
            refine k_iload_n S dX8_layAll_49 rfl ?_
            refine k_caload S dX8_layAll_50 (M5.ld (j := 1) rfl rfl) (by omega) ?_
            rw [ep]
            refine k_bipush S dX8_layAll_51 ?_
            refine k_icmp_ne (tgt := 69) S dX8_layAll_53 (by decide) (by omega) (by omega) (fun c53 => ?_) (fun c53 => ?_)
            · refine k_aload_n S dX8_layAll_69 rfl ?_
              refine k_getf S dX8_layAll_70 f_X8_17 M5.1 (by rfl) ?_
              refine k_iload_n S dX8_layAll_73 rfl ?_
              refine k_caload S dX8_layAll_74 (M5.ld (j := 1) rfl rfl) (by omega) ?_
              rw [ep]
              refine k_bipush S dX8_layAll_75 ?_
              refine k_icmp_ne (tgt := 111) S dX8_layAll_77 (by decide) (by omega) (by omega) (fun c77 => ?_) (fun c77 => ?_)
              · refine k_aload_n S dX8_layAll_111 rfl ?_
                refine k_getf S dX8_layAll_112 f_X8_17 M5.1 (by rfl) ?_
                refine k_iload_n S dX8_layAll_115 rfl ?_
                refine k_caload S dX8_layAll_116 (M5.ld (j := 1) rfl rfl) (by omega) ?_
                rw [ep]
                refine k_bipush S dX8_layAll_117 ?_
                refine k_icmp_ne (tgt := 147) S dX8_layAll_119 (by decide) (by omega) (by omega) (fun c119 => ?_) (fun c119 => ?_)
                · -- a stop
                  simp only [if_neg c28, if_neg c53, if_neg c77, if_neg c119] at next hq1 hq2
                  refine k_aload_n S dX8_layAll_147 rfl ?_
                  refine k_getf S dX8_layAll_148 f_X8_48 M5.1 (by rfl) ?_
                  refine k_aload_n S dX8_layAll_151 rfl ?_
                  refine k_getf S dX8_layAll_152 f_X8_115 M5.1 (by rfl) ?_
                  refine k_aload_n S dX8_layAll_155 rfl ?_
                  refine k_getf S dX8_layAll_156 f_X8_97 M5.1 (by rfl) ?_
                  refine k_mist (j := 11) S dX8_layAll_159 M5 rfl rfl (by omega) (fun h159 M159 => ?_)
                  simp only [List.set_cons_succ, List.set_cons_zero] at M159
                  refine k_aload_n S dX8_layAll_160 rfl ?_
                  refine k_dup S dX8_layAll_161 ?_
                  refine k_getf S dX8_layAll_162 f_X8_115 M159.1 (by rfl) ?_
                  refine k_iconst S dX8_layAll_165 ?_
                  refine k_iadd S dX8_layAll_166 ?_
                  refine k_mput S dX8_layAll_167 f_X8_115 M159 (gfit_int _) (Nat.le_of_ble_eq_true rfl) (fun h167 M167 => ?_)
                  simp only [List.set_cons_succ, List.set_cons_zero] at M167
                  refine next _ _ _ (m_lays M167) rfl (by omega) (by simp only [List.length_append, List.length_cons, List.length_nil]; omega)
                · -- a date
                  have k1 : kd p = 100 := by omega
                  have b5 := b4 k1
                  have eo : ot p % 65536 = ot p := by omega
                  have ed : td + on p = (((td + on p).toNat : Nat) : Int) := by omega
                  have dl := dateT_len (day := (td + on p).toNat) (by omega) (ot p)
                  simp only [if_neg c28, if_neg c53, if_neg c77, if_pos k1] at next hq1 hq2
                  refine k_aload_n S dX8_layAll_122 rfl ?_
                  refine k_aload_n S dX8_layAll_123 rfl ?_
                  refine k_getf S dX8_layAll_124 f_X8_7 M5.1 (by rfl) ?_
                  refine k_aload_n S dX8_layAll_127 rfl ?_
                  refine k_getf S dX8_layAll_128 f_X8_36 M5.1 (by rfl) ?_
                  refine k_iload_n S dX8_layAll_131 rfl ?_
                  refine k_iaload S dX8_layAll_132 (M5.ld (j := 7) rfl rfl) (by omega) ?_
                  rw [ep]
                  refine k_iadd S dX8_layAll_133 ?_
                  rw [ed]
                  refine k_aload_n S dX8_layAll_134 rfl ?_
                  refine k_getf S dX8_layAll_135 f_X8_39 M5.1 (by rfl) ?_
                  refine k_iload_n S dX8_layAll_138 rfl ?_
                  refine k_iaload S dX8_layAll_139 (M5.ld (j := 8) rfl rfl) (by omega) ?_
                  rw [ep]
                  refine k_i2c S dX8_layAll_140 ?_
                  rw [eo]
                  refine k_callV_v S dX8_layAll_141 v_X8_111 (m_layDay D M5.rb (x := (td + on p).toNat) (by omega) b5.2 (by omega)) M5.1 (fun h141 hp141 => ?_) rfl rfl (by omega) (by omega) (by omega) (Nat.le_of_ble_eq_true rfl)
                  refine k_goto (tgt := 170) S dX8_layAll_144 (by decide) ?_
                  refine next _ _ _ (M5.tr hp141) rfl (by simp only [List.length_append]; omega) (by omega)
              · -- a choice
                have k1 : kd p = 111 := by omega
                obtain ⟨o1, o2, o3⟩ := b1 (Or.inr k1)
                obtain ⟨o4, o5, o6⟩ := b2 k1
                have s1 := hsc s hs
                simp only [if_neg c28, if_neg c53, if_pos k1] at next hq1 hq2
                refine k_aload_n S dX8_layAll_80 rfl ?_
                refine k_aload_n S dX8_layAll_81 rfl ?_
                refine k_getf S dX8_layAll_82 f_X8_58 M5.1 (by rfl) ?_
                refine k_iload_n S dX8_layAll_85 rfl ?_
                refine k_baloadz S dX8_layAll_86 (M5.ld (j := 14) rfl rfl) (by omega) ?_
                rw [es]
                refine k_if_eq (tgt := 99) S dX8_layAll_87 (by decide) (by omega) (fun c87 => ?_) (fun c87 => ?_)
                · have e1 : on p = ((on p).toNat : Nat) := by omega
                  have ln := lyF_len (sc := sc) hB hB2 htd f (on p).toNat (by omega) (cl5, sl5)
                  dsimp only at ln
                  simp only [if_pos c87] at next
                  refine k_aload_n S dX8_layAll_99 rfl ?_
                  refine k_getf S dX8_layAll_100 f_X8_36 M5.1 (by rfl) ?_
                  refine k_iload_n S dX8_layAll_103 rfl ?_
                  refine k_iaload S dX8_layAll_104 (M5.ld (j := 7) rfl rfl) (by omega) ?_
                  rw [ep, e1]
                  refine k_callV_v S dX8_layAll_105 v_X8_108 (ih (on p).toNat M5.rb (by omega) (by omega) (by omega) (by omega)) M5.1 (fun h105 hp105 => ?_) rfl rfl (by omega) (by omega) (by omega) (Nat.le_of_ble_eq_true rfl)
                  refine k_goto (tgt := 170) S dX8_layAll_108 (by decide) ?_
                  refine next _ _ _ (M5.tr hp105) rfl (by omega) (by omega)
                · have e1 : ot p = ((ot p).toNat : Nat) := by omega
                  have ln := lyF_len (sc := sc) hB hB2 htd f (ot p).toNat (by omega) (cl5, sl5)
                  dsimp only at ln
                  simp only [if_neg c87] at next
                  refine k_aload_n S dX8_layAll_90 rfl ?_
                  refine k_getf S dX8_layAll_91 f_X8_39 M5.1 (by rfl) ?_
                  refine k_iload_n S dX8_layAll_94 rfl ?_
                  refine k_iaload S dX8_layAll_95 (M5.ld (j := 8) rfl rfl) (by omega) ?_
                  rw [ep, e1]
                  refine k_goto (tgt := 105) S dX8_layAll_96 (by decide) ?_
                  refine k_callV_v S dX8_layAll_105 v_X8_108 (ih (ot p).toNat M5.rb (by omega) (by omega) (by omega) (by omega)) M5.1 (fun h105 hp105 => ?_) rfl rfl (by omega) (by omega) (by omega) (Nat.le_of_ble_eq_true rfl)
                  refine k_goto (tgt := 170) S dX8_layAll_108 (by decide) ?_
                  refine next _ _ _ (M5.tr hp105) rfl (by omega) (by omega)
            · -- a snippet
              have k1 : kd p = 115 := by omega
              obtain ⟨o1, o2, o3⟩ := b1 (Or.inl k1)
              have e1 : on p = ((on p).toNat : Nat) := by omega
              have ln := lyF_len (sc := sc) hB hB2 htd f (on p).toNat (by omega) (cl5, sl5)
              dsimp only at ln
              simp only [if_neg c28, if_pos k1] at next hq1 hq2
              refine k_aload_n S dX8_layAll_56 rfl ?_
              refine k_aload_n S dX8_layAll_57 rfl ?_
              refine k_getf S dX8_layAll_58 f_X8_36 M5.1 (by rfl) ?_
              refine k_iload_n S dX8_layAll_61 rfl ?_
              refine k_iaload S dX8_layAll_62 (M5.ld (j := 7) rfl rfl) (by omega) ?_
              rw [ep, e1]
              refine k_callV_v S dX8_layAll_63 v_X8_108 (ih (on p).toNat M5.rb (by omega) (by omega) (by omega) (by omega)) M5.1 (fun h63 hp63 => ?_) rfl rfl (by omega) (by omega) (by omega) (Nat.le_of_ble_eq_true rfl)
              refine k_goto (tgt := 170) S dX8_layAll_66 (by decide) ?_
              refine next _ _ _ (M5.tr hp63) rfl (by omega) (by omega)
          · -- a character
            have k1 : kd p = 99 := by omega
            have b5 := b3 k1
            have eo : on p % 65536 = on p := by omega
            simp only [if_pos k1, if_neg (show ¬ kd p = 115 by omega), if_neg (show ¬ kd p = 111 by omega), if_neg (show ¬ kd p = 100 by omega)] at next hq1 hq2
            refine k_aload_n S dX8_layAll_31 rfl ?_
            refine k_aload_n S dX8_layAll_32 rfl ?_
            refine k_getf S dX8_layAll_33 f_X8_36 M5.1 (by rfl) ?_
            refine k_iload_n S dX8_layAll_36 rfl ?_
            refine k_iaload S dX8_layAll_37 (M5.ld (j := 7) rfl rfl) (by omega) ?_
            rw [ep]
            refine k_i2c S dX8_layAll_38 ?_
            rw [eo]
            refine k_callV_v S dX8_layAll_39 v_X8_104 (m_layc D M5.rb b5 (by omega)) M5.1 (fun h39 hp39 => ?_) rfl rfl (by omega) (by omega) (by omega) (Nat.le_of_ble_eq_true rfl)
            refine k_goto (tgt := 170) S dX8_layAll_42 (by decide) ?_
            refine next _ _ _ (M5.tr hp39) rfl (by simp only [List.length_append, List.length_cons, List.length_nil]; omega) (by omega)
    refine k_bipush S dX8_layAll_0 ?_
    refine k_iload_n S dX8_layAll_2 rfl ?_
    refine k_imul S dX8_layAll_3 ?_
    refine k_istore_n S dX8_layAll_4 (by decide) ?_
    rw [szF, en] at hc1 hc2
    exact loop n (12 * s) h cl sl hM (by omega) (by omega) hc1 hc2 (by rw [lyF, en])
/-- gives(s) -/
theorem m_gives (D : DD) {h : GH} (hM : IsM h h mo am [gI th, gI sn, gI td, gI ln, gI ca, gI st, gI ld, gI ls, gI wl, gI wc, gI ws, gI ex, gI kp, gI la, gL sv, gI cu] [tg, kd, tx, wa, ou, le, pn, on, ot, sp, wp, op, fw, of, sc]) {rk : Nat → Nat} (hn : 0 ≤ sn ∧ sn ≤ 8) (hk : allC kd) (hB : BOk sn pn kd on ot rk) (hB2 : BOk2 sn pn kd on ot) (htd : 99 ≤ td ∧ td ≤ 9999) (hsc : ∀ s : Nat, (s : Int) < sn → sc s = 0 ∨ sc s = 1) (hr8 : ∀ s, rk s < 8) (h200 : ∀ s : Nat, (s : Int) < sn → szF pn kd on ot 8 s ≤ 200) {s : Nat} (hs : (s : Int) < sn) : GMet D yX8_gives cX8_gives 2 none [] 17 0 0 [gR (some mo), gI s] h (pv (fun h1 => IsM h h1 mo am [gI th, gI sn, gI td, gI ln, gI ca, gI st, gI ((((lyF pn kd on ot sc td 8 s ([], [])).1).length : Nat)), gI ((((lyF pn kd on ot sc td 8 s ([], [])).2).length : Nat)), gI wl, gI wc, gI ws, gI ex, gI kp, gI la, gL sv, gI cu] [tg, kd, tx, wa, (wrF ou 0 ((lyF pn kd on ot sc td 8 s ([], [])).1)), le, pn, on, ot, sp, wp, (wrF op 0 ((lyF pn kd on ot sc td 8 s ([], [])).2)), fw, of, sc])) := by
  refine GMet.intro RX8 rfl (by decide) (gcats rfl) (Nat.le_of_ble_eq_true rfl) fun K KX S => ?_
  show K 0 [some _, some _] [] _ 0 0
  have z2 := h200 s hs
  refine k_aload_n S dX8_gives_0 rfl ?_
  refine k_iconst S dX8_gives_1 ?_
  refine k_mput S dX8_gives_2 f_X8_97 hM (gfit_int _) (Nat.le_of_ble_eq_true rfl) (fun h2 M2 => ?_)
  simp only [List.set_cons_succ, List.set_cons_zero] at M2
  refine k_aload_n S dX8_gives_5 rfl ?_
  refine k_iconst S dX8_gives_6 ?_
  refine k_mput S dX8_gives_7 f_X8_115 M2 (gfit_int _) (Nat.le_of_ble_eq_true rfl) (fun h7 M7 => ?_)
  simp only [List.set_cons_succ, List.set_cons_zero] at M7
  have M9 : IsM h h7 mo am [gI th, gI sn, gI td, gI ln, gI ca, gI st, gI ((([] : List Int).length : Nat)), gI ((([] : List Int).length : Nat)), gI wl, gI wc, gI ws, gI ex, gI kp, gI la, gL sv, gI cu] [tg, kd, tx, wa, (wrF ou 0 ([] : List Int)), le, pn, on, ot, sp, wp, (wrF op 0 ([] : List Int)), fw, of, sc] := by rw [wrF_nil, wrF_nil]; exact M7
  refine k_aload_n S dX8_gives_10 rfl ?_
  refine k_iload_n S dX8_gives_11 rfl ?_
  refine k_callV_v S dX8_gives_12 v_X8_108 (m_layAll D hn hk hB hB2 htd hsc 8 s M9.rb hs (hr8 s) (by simp only [List.length_nil]; omega) (by simp only [List.length_nil]; omega)) M9.1 (fun h12 hp12 => ?_) rfl rfl (by decide) (by omega) (by omega) (Nat.le_of_ble_eq_true rfl)
  exact k_return S dX8_gives_15 ⟨rfl, M9.tr hp12⟩ (by omega) (by omega)
/-- lengthOf, no such snippet -/
theorem m_lengthOf_b (D : DD) {h : GH} (hM : IsM h h mo am [gI th, gI sn, gI td, gI ln, gI ca, gI st, gI ld, gI ls, gI wl, gI wc, gI ws, gI ex, gI kp, gI la, gL sv, gI cu] [tg, kd, tx, wa, ou, le, pn, on, ot, sp, wp, op, fw, of, sc]) (hn : 0 ≤ sn ∧ sn ≤ 8) {s : Int} (hs : inR s) (hb : ¬ (0 ≤ s ∧ s < sn)) : GMet D yX8_lengthOf cX8_lengthOf 2 (some .int) [] 3 0 0 [gR (some mo), gI s] h (pr (gI 0) (fun h1 => IsM h h1 mo am [gI (1), gI sn, gI td, gI ln, gI ca, gI st, gI ld, gI ls, gI wl, gI wc, gI ws, gI ex, gI kp, gI la, gL sv, gI cu] [tg, kd, tx, wa, ou, le, pn, on, ot, sp, wp, op, fw, of, sc])) := by
  refine GMet.intro RX8 rfl (by decide) (gcats rfl) (Nat.le_of_ble_eq_true rfl) fun K KX S => ?_
  show K 0 [some _, some _] [] _ 0 0
  refine k_aload_n S dX8_lengthOf_0 rfl ?_
  refine k_iload_n S dX8_lengthOf_1 rfl ?_
  refine k_callV_r S dX8_lengthOf_2 v_X8_79 (m_noSn_b D hM hs hn hb) hM.1 (fun h2 hp2 => ?_) rfl rfl (by decide) (by omega) (by omega) (Nat.le_of_ble_eq_true rfl)
  refine k_if_eq (tgt := 10) S dX8_lengthOf_5 (by decide) (by omega) (fun c5 => ?_) (fun c5 => ?_)
  · omega
  · refine k_iconst S dX8_lengthOf_8 ?_
    exact k_ireturn S dX8_lengthOf_9 ⟨rfl, hp2⟩ (by omega) (by omega)
/-- stopsOf, no such snippet -/
theorem m_stopsOf_b (D : DD) {h : GH} (hM : IsM h h mo am [gI th, gI sn, gI td, gI ln, gI ca, gI st, gI ld, gI ls, gI wl, gI wc, gI ws, gI ex, gI kp, gI la, gL sv, gI cu] [tg, kd, tx, wa, ou, le, pn, on, ot, sp, wp, op, fw, of, sc]) (hn : 0 ≤ sn ∧ sn ≤ 8) {s : Int} (hs : inR s) (hb : ¬ (0 ≤ s ∧ s < sn)) : GMet D yX8_stopsOf cX8_stopsOf 2 (some .int) [] 3 0 0 [gR (some mo), gI s] h (pr (gI 0) (fun h1 => IsM h h1 mo am [gI (1), gI sn, gI td, gI ln, gI ca, gI st, gI ld, gI ls, gI wl, gI wc, gI ws, gI ex, gI kp, gI la, gL sv, gI cu] [tg, kd, tx, wa, ou, le, pn, on, ot, sp, wp, op, fw, of, sc])) := by
  refine GMet.intro RX8 rfl (by decide) (gcats rfl) (Nat.le_of_ble_eq_true rfl) fun K KX S => ?_
  show K 0 [some _, some _] [] _ 0 0
  refine k_aload_n S dX8_stopsOf_0 rfl ?_
  refine k_iload_n S dX8_stopsOf_1 rfl ?_
  refine k_callV_r S dX8_stopsOf_2 v_X8_79 (m_noSn_b D hM hs hn hb) hM.1 (fun h2 hp2 => ?_) rfl rfl (by decide) (by omega) (by omega) (Nat.le_of_ble_eq_true rfl)
  refine k_if_eq (tgt := 10) S dX8_stopsOf_5 (by decide) (by omega) (fun c5 => ?_) (fun c5 => ?_)
  · omega
  · refine k_iconst S dX8_stopsOf_8 ?_
    exact k_ireturn S dX8_stopsOf_9 ⟨rfl, hp2⟩ (by omega) (by omega)
/-- stopOf, no such snippet -/
theorem m_stopOf_b (D : DD) {h : GH} (hM : IsM h h mo am [gI th, gI sn, gI td, gI ln, gI ca, gI st, gI ld, gI ls, gI wl, gI wc, gI ws, gI ex, gI kp, gI la, gL sv, gI cu] [tg, kd, tx, wa, ou, le, pn, on, ot, sp, wp, op, fw, of, sc]) (hn : 0 ≤ sn ∧ sn ≤ 8) {s : Int} (hs : inR s) (hb : ¬ (0 ≤ s ∧ s < sn)) {u : Int} : GMet D yX8_stopOf cX8_stopOf 3 (some .int) [] 3 0 0 [gR (some mo), gI s, gI u] h (pr (gI 0) (fun h1 => IsM h h1 mo am [gI (1), gI sn, gI td, gI ln, gI ca, gI st, gI ld, gI ls, gI wl, gI wc, gI ws, gI ex, gI kp, gI la, gL sv, gI cu] [tg, kd, tx, wa, ou, le, pn, on, ot, sp, wp, op, fw, of, sc])) := by
  refine GMet.intro RX8 rfl (by decide) (gcats rfl) (Nat.le_of_ble_eq_true rfl) fun K KX S => ?_
  show K 0 [some _, some _, some _] [] _ 0 0
  refine k_aload_n S dX8_stopOf_0 rfl ?_
  refine k_iload_n S dX8_stopOf_1 rfl ?_
  refine k_callV_r S dX8_stopOf_2 v_X8_79 (m_noSn_b D hM hs hn hb) hM.1 (fun h2 hp2 => ?_) rfl rfl (by decide) (by omega) (by omega) (Nat.le_of_ble_eq_true rfl)
  refine k_if_eq (tgt := 10) S dX8_stopOf_5 (by decide) (by omega) (fun c5 => ?_) (fun c5 => ?_)
  · omega
  · refine k_iconst S dX8_stopOf_8 ?_
    exact k_ireturn S dX8_stopOf_9 ⟨rfl, hp2⟩ (by omega) (by omega)
/-- characterOf, no such snippet -/
theorem m_characterOf_b (D : DD) {h : GH} (hM : IsM h h mo am [gI th, gI sn, gI td, gI ln, gI ca, gI st, gI ld, gI ls, gI wl, gI wc, gI ws, gI ex, gI kp, gI la, gL sv, gI cu] [tg, kd, tx, wa, ou, le, pn, on, ot, sp, wp, op, fw, of, sc]) (hn : 0 ≤ sn ∧ sn ≤ 8) {s : Int} (hs : inR s) (hb : ¬ (0 ≤ s ∧ s < sn)) {u : Int} : GMet D yX8_characterOf cX8_characterOf 3 (some .char) [] 3 0 0 [gR (some mo), gI s, gI u] h (pr (gI 32) (fun h1 => IsM h h1 mo am [gI (1), gI sn, gI td, gI ln, gI ca, gI st, gI ld, gI ls, gI wl, gI wc, gI ws, gI ex, gI kp, gI la, gL sv, gI cu] [tg, kd, tx, wa, ou, le, pn, on, ot, sp, wp, op, fw, of, sc])) := by
  refine GMet.intro RX8 rfl (by decide) (gcats rfl) (Nat.le_of_ble_eq_true rfl) fun K KX S => ?_
  show K 0 [some _, some _, some _] [] _ 0 0
  refine k_aload_n S dX8_characterOf_0 rfl ?_
  refine k_iload_n S dX8_characterOf_1 rfl ?_
  refine k_callV_r S dX8_characterOf_2 v_X8_79 (m_noSn_b D hM hs hn hb) hM.1 (fun h2 hp2 => ?_) rfl rfl (by decide) (by omega) (by omega) (Nat.le_of_ble_eq_true rfl)
  refine k_if_eq (tgt := 11) S dX8_characterOf_5 (by decide) (by omega) (fun c5 => ?_) (fun c5 => ?_)
  · omega
  · refine k_bipush S dX8_characterOf_8 ?_
    exact k_creturn S dX8_characterOf_10 (by omega) ⟨rfl, hp2⟩ (by omega) (by omega)
/-- lengthOf -/
theorem m_lengthOf_g (D : DD) {h : GH} (hM : IsM h h mo am [gI th, gI sn, gI td, gI ln, gI ca, gI st, gI ld, gI ls, gI wl, gI wc, gI ws, gI ex, gI kp, gI la, gL sv, gI cu] [tg, kd, tx, wa, ou, le, pn, on, ot, sp, wp, op, fw, of, sc]) {rk : Nat → Nat} (hn : 0 ≤ sn ∧ sn ≤ 8) (hk : allC kd) (hB : BOk sn pn kd on ot rk) (hB2 : BOk2 sn pn kd on ot) (htd : 99 ≤ td ∧ td ≤ 9999) (hsc : ∀ s : Nat, (s : Int) < sn → sc s = 0 ∨ sc s = 1) (hr8 : ∀ s, rk s < 8) (h200 : ∀ s : Nat, (s : Int) < sn → szF pn kd on ot 8 s ≤ 200) {s : Nat} (hs : (s : Int) < sn) : GMet D yX8_lengthOf cX8_lengthOf 2 (some .int) [] 18 0 0 [gR (some mo), gI s] h (pr (gI (((lyF pn kd on ot sc td 8 s ([], [])).1.length : Nat) : Int)) (fun h1 => IsM h h1 mo am [gI (0), gI sn, gI td, gI ln, gI ca, gI st, gI ((((lyF pn kd on ot sc td 8 s ([], [])).1).length : Nat)), gI ((((lyF pn kd on ot sc td 8 s ([], [])).2).length : Nat)), gI wl, gI wc, gI ws, gI ex, gI kp, gI la, gL sv, gI cu] [tg, kd, tx, wa, (wrF ou 0 ((lyF pn kd on ot sc td 8 s ([], [])).1)), le, pn, on, ot, sp, wp, (wrF op 0 ((lyF pn kd on ot sc td 8 s ([], [])).2)), fw, of, sc])) := by
  refine GMet.intro RX8 rfl (by decide) (gcats rfl) (Nat.le_of_ble_eq_true rfl) fun K KX S => ?_
  show K 0 [some _, some _] [] _ 0 0
  refine k_aload_n S dX8_lengthOf_0 rfl ?_
  refine k_iload_n S dX8_lengthOf_1 rfl ?_
  refine k_callV_r S dX8_lengthOf_2 v_X8_79 (m_noSn_g D hM hn hs) hM.1 (fun h2 hp2 => ?_) rfl rfl (by decide) (by omega) (by omega) (Nat.le_of_ble_eq_true rfl)
  refine k_if_eq (tgt := 10) S dX8_lengthOf_5 (by decide) (by omega) (fun c5 => ?_) (fun c5 => ?_)
  · refine k_aload_n S dX8_lengthOf_10 rfl ?_
    refine k_iload_n S dX8_lengthOf_11 rfl ?_
    refine k_callV_v S dX8_lengthOf_12 v_X8_118 (m_gives D hp2.rb hn hk hB hB2 htd hsc hr8 h200 hs) hp2.1 (fun h12 hp12 => ?_) rfl rfl (by decide) (by omega) (by omega) (Nat.le_of_ble_eq_true rfl)
    have M12 := hp2.tr hp12
    refine k_aload_n S dX8_lengthOf_15 rfl ?_
    refine k_getf S dX8_lengthOf_16 f_X8_97 M12.1 (by rfl) ?_
    exact k_ireturn S dX8_lengthOf_19 ⟨rfl, M12⟩ (by omega) (by omega)
  · omega
/-- stopsOf -/
theorem m_stopsOf_g (D : DD) {h : GH} (hM : IsM h h mo am [gI th, gI sn, gI td, gI ln, gI ca, gI st, gI ld, gI ls, gI wl, gI wc, gI ws, gI ex, gI kp, gI la, gL sv, gI cu] [tg, kd, tx, wa, ou, le, pn, on, ot, sp, wp, op, fw, of, sc]) {rk : Nat → Nat} (hn : 0 ≤ sn ∧ sn ≤ 8) (hk : allC kd) (hB : BOk sn pn kd on ot rk) (hB2 : BOk2 sn pn kd on ot) (htd : 99 ≤ td ∧ td ≤ 9999) (hsc : ∀ s : Nat, (s : Int) < sn → sc s = 0 ∨ sc s = 1) (hr8 : ∀ s, rk s < 8) (h200 : ∀ s : Nat, (s : Int) < sn → szF pn kd on ot 8 s ≤ 200) {s : Nat} (hs : (s : Int) < sn) : GMet D yX8_stopsOf cX8_stopsOf 2 (some .int) [] 18 0 0 [gR (some mo), gI s] h (pr (gI (((lyF pn kd on ot sc td 8 s ([], [])).2.length : Nat) : Int)) (fun h1 => IsM h h1 mo am [gI (0), gI sn, gI td, gI ln, gI ca, gI st, gI ((((lyF pn kd on ot sc td 8 s ([], [])).1).length : Nat)), gI ((((lyF pn kd on ot sc td 8 s ([], [])).2).length : Nat)), gI wl, gI wc, gI ws, gI ex, gI kp, gI la, gL sv, gI cu] [tg, kd, tx, wa, (wrF ou 0 ((lyF pn kd on ot sc td 8 s ([], [])).1)), le, pn, on, ot, sp, wp, (wrF op 0 ((lyF pn kd on ot sc td 8 s ([], [])).2)), fw, of, sc])) := by
  refine GMet.intro RX8 rfl (by decide) (gcats rfl) (Nat.le_of_ble_eq_true rfl) fun K KX S => ?_
  show K 0 [some _, some _] [] _ 0 0
  refine k_aload_n S dX8_stopsOf_0 rfl ?_
  refine k_iload_n S dX8_stopsOf_1 rfl ?_
  refine k_callV_r S dX8_stopsOf_2 v_X8_79 (m_noSn_g D hM hn hs) hM.1 (fun h2 hp2 => ?_) rfl rfl (by decide) (by omega) (by omega) (Nat.le_of_ble_eq_true rfl)
  refine k_if_eq (tgt := 10) S dX8_stopsOf_5 (by decide) (by omega) (fun c5 => ?_) (fun c5 => ?_)
  · refine k_aload_n S dX8_stopsOf_10 rfl ?_
    refine k_iload_n S dX8_stopsOf_11 rfl ?_
    refine k_callV_v S dX8_stopsOf_12 v_X8_118 (m_gives D hp2.rb hn hk hB hB2 htd hsc hr8 h200 hs) hp2.1 (fun h12 hp12 => ?_) rfl rfl (by decide) (by omega) (by omega) (Nat.le_of_ble_eq_true rfl)
    have M12 := hp2.tr hp12
    refine k_aload_n S dX8_stopsOf_15 rfl ?_
    refine k_getf S dX8_stopsOf_16 f_X8_115 M12.1 (by rfl) ?_
    exact k_ireturn S dX8_stopsOf_19 ⟨rfl, M12⟩ (by omega) (by omega)
  · omega
/-- stopOf, no such stop -/
theorem m_stopOf_n (D : DD) {h : GH} (hM : IsM h h mo am [gI th, gI sn, gI td, gI ln, gI ca, gI st, gI ld, gI ls, gI wl, gI wc, gI ws, gI ex, gI kp, gI la, gL sv, gI cu] [tg, kd, tx, wa, ou, le, pn, on, ot, sp, wp, op, fw, of, sc]) {rk : Nat → Nat} (hn : 0 ≤ sn ∧ sn ≤ 8) (hk : allC kd) (hB : BOk sn pn kd on ot rk) (hB2 : BOk2 sn pn kd on ot) (htd : 99 ≤ td ∧ td ≤ 9999) (hsc : ∀ s : Nat, (s : Int) < sn → sc s = 0 ∨ sc s = 1) (hr8 : ∀ s, rk s < 8) (h200 : ∀ s : Nat, (s : Int) < sn → szF pn kd on ot 8 s ≤ 200) {s : Nat} (hs : (s : Int) < sn) {u : Int} (hu : inR u) (hb : ¬ (0 ≤ u ∧ u < ((lyF pn kd on ot sc td 8 s ([], [])).2.length : Nat))) : GMet D yX8_stopOf cX8_stopOf 3 (some .int) [] 18 0 0 [gR (some mo), gI s, gI u] h (pr (gI 0) (fun h1 => IsM h h1 mo am [gI (2), gI sn, gI td, gI ln, gI ca, gI st, gI ((((lyF pn kd on ot sc td 8 s ([], [])).1).length : Nat)), gI ((((lyF pn kd on ot sc td 8 s ([], [])).2).length : Nat)), gI wl, gI wc, gI ws, gI ex, gI kp, gI la, gL sv, gI cu] [tg, kd, tx, wa, (wrF ou 0 ((lyF pn kd on ot sc td 8 s ([], [])).1)), le, pn, on, ot, sp, wp, (wrF op 0 ((lyF pn kd on ot sc td 8 s ([], [])).2)), fw, of, sc])) := by
  refine GMet.intro RX8 rfl (by decide) (gcats rfl) (Nat.le_of_ble_eq_true rfl) fun K KX S => ?_
  show K 0 [some _, some _, some _] [] _ 0 0
  have ln := lyF_len (sc := sc) hB hB2 htd 8 s hs ([], [])
  dsimp only at ln
  simp only [List.length_nil] at ln
  have z2 := h200 s hs
  refine k_aload_n S dX8_stopOf_0 rfl ?_
  refine k_iload_n S dX8_stopOf_1 rfl ?_
  refine k_callV_r S dX8_stopOf_2 v_X8_79 (m_noSn_g D hM hn hs) hM.1 (fun h2 hp2 => ?_) rfl rfl (by decide) (by omega) (by omega) (Nat.le_of_ble_eq_true rfl)
  refine k_if_eq (tgt := 10) S dX8_stopOf_5 (by decide) (by omega) (fun c5 => ?_) (fun c5 => ?_)
  · refine k_aload_n S dX8_stopOf_10 rfl ?_
    refine k_iload_n S dX8_stopOf_11 rfl ?_
    refine k_callV_v S dX8_stopOf_12 v_X8_118 (m_gives D hp2.rb hn hk hB hB2 htd hsc hr8 h200 hs) hp2.1 (fun h12 hp12 => ?_) rfl rfl (by decide) (by omega) (by omega) (Nat.le_of_ble_eq_true rfl)
    have M12 := hp2.tr hp12
    refine k_iload_n S dX8_stopOf_15 rfl ?_
    refine k_iconst S dX8_stopOf_16 ?_
    refine k_aload_n S dX8_stopOf_17 rfl ?_
    refine k_getf S dX8_stopOf_18 f_X8_115 M12.1 (by rfl) ?_
    refine k_iconst S dX8_stopOf_21 ?_
    refine k_isub S dX8_stopOf_22 ?_
    refine k_callS_r S dX8_stopOf_23 s_X8_67 (m_isIn D hu (by decide) (by unfold inR; omega)) (fun h23 hp23 => ?_) rfl rfl (by decide) (by omega) (by omega) (Nat.le_of_ble_eq_true rfl)
    rw [hp23, b01_f (by omega)]
    refine k_if_ne (tgt := 35) S dX8_stopOf_26 (by decide) (by omega) (fun c26 => ?_) (fun c26 => ?_)
    · omega
    · refine k_aload_n S dX8_stopOf_29 rfl ?_
      refine k_iconst S dX8_stopOf_30 ?_
      refine k_callV_r S dX8_stopOf_31 v_X8_75 (m_fail D M12.rb) M12.1 (fun h31 hp31 => ?_) rfl rfl (by decide) (by omega) (by omega) (Nat.le_of_ble_eq_true rfl)
      exact k_ireturn S dX8_stopOf_34 ⟨rfl, M12.tr hp31⟩ (by omega) (by omega)
  · omega
/-- stopOf -/
theorem m_stopOf_g (D : DD) {h : GH} (hM : IsM h h mo am [gI th, gI sn, gI td, gI ln, gI ca, gI st, gI ld, gI ls, gI wl, gI wc, gI ws, gI ex, gI kp, gI la, gL sv, gI cu] [tg, kd, tx, wa, ou, le, pn, on, ot, sp, wp, op, fw, of, sc]) {rk : Nat → Nat} (hn : 0 ≤ sn ∧ sn ≤ 8) (hk : allC kd) (hB : BOk sn pn kd on ot rk) (hB2 : BOk2 sn pn kd on ot) (htd : 99 ≤ td ∧ td ≤ 9999) (hsc : ∀ s : Nat, (s : Int) < sn → sc s = 0 ∨ sc s = 1) (hr8 : ∀ s, rk s < 8) (h200 : ∀ s : Nat, (s : Int) < sn → szF pn kd on ot 8 s ≤ 200) {s : Nat} (hs : (s : Int) < sn) {u : Int} (hu : inR u) (hb : 0 ≤ u ∧ u < ((lyF pn kd on ot sc td 8 s ([], [])).2.length : Nat)) : GMet D yX8_stopOf cX8_stopOf 3 (some .int) [] 18 0 0 [gR (some mo), gI s, gI u] h (pr (gI ((lyF pn kd on ot sc td 8 s ([], [])).2.getD u.toNat 0)) (fun h1 => IsM h h1 mo am [gI (0), gI sn, gI td, gI ln, gI ca, gI st, gI ((((lyF pn kd on ot sc td 8 s ([], [])).1).length : Nat)), gI ((((lyF pn kd on ot sc td 8 s ([], [])).2).length : Nat)), gI wl, gI wc, gI ws, gI ex, gI kp, gI la, gL sv, gI cu] [tg, kd, tx, wa, (wrF ou 0 ((lyF pn kd on ot sc td 8 s ([], [])).1)), le, pn, on, ot, sp, wp, (wrF op 0 ((lyF pn kd on ot sc td 8 s ([], [])).2)), fw, of, sc])) := by
  refine GMet.intro RX8 rfl (by decide) (gcats rfl) (Nat.le_of_ble_eq_true rfl) fun K KX S => ?_
  show K 0 [some _, some _, some _] [] _ 0 0
  have ln := lyF_len (sc := sc) hB hB2 htd 8 s hs ([], [])
  dsimp only at ln
  simp only [List.length_nil] at ln
  have z2 := h200 s hs
  have ev : wrF op 0 (lyF pn kd on ot sc td 8 s ([], [])).2 u.toNat = (lyF pn kd on ot sc td 8 s ([], [])).2.getD u.toNat 0 := by rw [wrF, if_pos (by omega), Nat.sub_zero]
  refine k_aload_n S dX8_stopOf_0 rfl ?_
  refine k_iload_n S dX8_stopOf_1 rfl ?_
  refine k_callV_r S dX8_stopOf_2 v_X8_79 (m_noSn_g D hM hn hs) hM.1 (fun h2 hp2 => ?_) rfl rfl (by decide) (by omega) (by omega) (Nat.le_of_ble_eq_true rfl)
  refine k_if_eq (tgt := 10) S dX8_stopOf_5 (by decide) (by omega) (fun c5 => ?_) (fun c5 => ?_)
  · refine k_aload_n S dX8_stopOf_10 rfl ?_
    refine k_iload_n S dX8_stopOf_11 rfl ?_
    refine k_callV_v S dX8_stopOf_12 v_X8_118 (m_gives D hp2.rb hn hk hB hB2 htd hsc hr8 h200 hs) hp2.1 (fun h12 hp12 => ?_) rfl rfl (by decide) (by omega) (by omega) (Nat.le_of_ble_eq_true rfl)
    have M12 := hp2.tr hp12
    refine k_iload_n S dX8_stopOf_15 rfl ?_
    refine k_iconst S dX8_stopOf_16 ?_
    refine k_aload_n S dX8_stopOf_17 rfl ?_
    refine k_getf S dX8_stopOf_18 f_X8_115 M12.1 (by rfl) ?_
    refine k_iconst S dX8_stopOf_21 ?_
    refine k_isub S dX8_stopOf_22 ?_
    refine k_callS_r S dX8_stopOf_23 s_X8_67 (m_isIn D hu (by decide) (by unfold inR; omega)) (fun h23 hp23 => ?_) rfl rfl (by decide) (by omega) (by omega) (Nat.le_of_ble_eq_true rfl)
    rw [hp23, b01_t (by omega)]
    refine k_if_ne (tgt := 35) S dX8_stopOf_26 (by decide) (by omega) (fun c26 => ?_) (fun c26 => ?_)
    · refine k_aload_n S dX8_stopOf_35 rfl ?_
      refine k_getf S dX8_stopOf_36 f_X8_48 M12.1 (by rfl) ?_
      refine k_iload_n S dX8_stopOf_39 rfl ?_
      refine k_iaload S dX8_stopOf_40 (M12.ld (j := 11) rfl rfl) (by omega) ?_
      rw [ev]
      exact k_ireturn S dX8_stopOf_41 ⟨rfl, M12⟩ (by omega) (by omega)
    · omega
  · omega
/-- characterOf, no such character -/
theorem m_characterOf_n (D : DD) {h : GH} (hM : IsM h h mo am [gI th, gI sn, gI td, gI ln, gI ca, gI st, gI ld, gI ls, gI wl, gI wc, gI ws, gI ex, gI kp, gI la, gL sv, gI cu] [tg, kd, tx, wa, ou, le, pn, on, ot, sp, wp, op, fw, of, sc]) {rk : Nat → Nat} (hn : 0 ≤ sn ∧ sn ≤ 8) (hk : allC kd) (hB : BOk sn pn kd on ot rk) (hB2 : BOk2 sn pn kd on ot) (htd : 99 ≤ td ∧ td ≤ 9999) (hsc : ∀ s : Nat, (s : Int) < sn → sc s = 0 ∨ sc s = 1) (hr8 : ∀ s, rk s < 8) (h200 : ∀ s : Nat, (s : Int) < sn → szF pn kd on ot 8 s ≤ 200) {s : Nat} (hs : (s : Int) < sn) {u : Int} (hu : inR u) (hb : ¬ (0 ≤ u ∧ u < ((lyF pn kd on ot sc td 8 s ([], [])).1.length : Nat))) : GMet D yX8_characterOf cX8_characterOf 3 (some .char) [] 18 0 0 [gR (some mo), gI s, gI u] h (pr (gI 32) (fun h1 => IsM h h1 mo am [gI (2), gI sn, gI td, gI ln, gI ca, gI st, gI ((((lyF pn kd on ot sc td 8 s ([], [])).1).length : Nat)), gI ((((lyF pn kd on ot sc td 8 s ([], [])).2).length : Nat)), gI wl, gI wc, gI ws, gI ex, gI kp, gI la, gL sv, gI cu] [tg, kd, tx, wa, (wrF ou 0 ((lyF pn kd on ot sc td 8 s ([], [])).1)), le, pn, on, ot, sp, wp, (wrF op 0 ((lyF pn kd on ot sc td 8 s ([], [])).2)), fw, of, sc])) := by
  refine GMet.intro RX8 rfl (by decide) (gcats rfl) (Nat.le_of_ble_eq_true rfl) fun K KX S => ?_
  show K 0 [some _, some _, some _] [] _ 0 0
  have ln := lyF_len (sc := sc) hB hB2 htd 8 s hs ([], [])
  dsimp only at ln
  simp only [List.length_nil] at ln
  have z2 := h200 s hs
  refine k_aload_n S dX8_characterOf_0 rfl ?_
  refine k_iload_n S dX8_characterOf_1 rfl ?_
  refine k_callV_r S dX8_characterOf_2 v_X8_79 (m_noSn_g D hM hn hs) hM.1 (fun h2 hp2 => ?_) rfl rfl (by decide) (by omega) (by omega) (Nat.le_of_ble_eq_true rfl)
  refine k_if_eq (tgt := 11) S dX8_characterOf_5 (by decide) (by omega) (fun c5 => ?_) (fun c5 => ?_)
  · refine k_aload_n S dX8_characterOf_11 rfl ?_
    refine k_iload_n S dX8_characterOf_12 rfl ?_
    refine k_callV_v S dX8_characterOf_13 v_X8_118 (m_gives D hp2.rb hn hk hB hB2 htd hsc hr8 h200 hs) hp2.1 (fun h13 hp13 => ?_) rfl rfl (by decide) (by omega) (by omega) (Nat.le_of_ble_eq_true rfl)
    have M13 := hp2.tr hp13
    refine k_aload_n S dX8_characterOf_16 rfl ?_
    refine k_iload_n S dX8_characterOf_17 rfl ?_
    refine k_iconst S dX8_characterOf_18 ?_
    refine k_aload_n S dX8_characterOf_19 rfl ?_
    refine k_getf S dX8_characterOf_20 f_X8_97 M13.1 (by rfl) ?_
    refine k_iconst S dX8_characterOf_23 ?_
    refine k_isub S dX8_characterOf_24 ?_
    refine k_callS_r S dX8_characterOf_25 s_X8_67 (m_isIn D hu (by decide) (by unfold inR; omega)) (fun h25 hp25 => ?_) rfl rfl (by decide) (by omega) (by omega) (Nat.le_of_ble_eq_true rfl)
    rw [hp25, b01_f (by omega)]
    refine k_if_eq (tgt := 35) S dX8_characterOf_28 (by decide) (by omega) (fun c28 => ?_) (fun c28 => ?_)
    · refine k_iconst S dX8_characterOf_35 ?_
      refine k_mput S dX8_characterOf_36 f_X8_61 M13 (gfit_int _) (Nat.le_of_ble_eq_true rfl) (fun h36 M36 => ?_)
      simp only [List.set_cons_succ, List.set_cons_zero] at M36
      refine k_aload_n S dX8_characterOf_39 rfl ?_
      refine k_getf S dX8_characterOf_40 f_X8_61 M36.1 (by rfl) ?_
      refine k_if_ne (tgt := 55) S dX8_characterOf_43 (by decide) (by omega) (fun c43 => ?_) (fun c43 => ?_)
      · refine k_bipush S dX8_characterOf_55 ?_
        exact k_creturn S dX8_characterOf_57 (by omega) ⟨rfl, M36⟩ (by omega) (by omega)
      · omega
    · omega
  · omega
/-- characterOf -/
theorem m_characterOf_g (D : DD) {h : GH} (hM : IsM h h mo am [gI th, gI sn, gI td, gI ln, gI ca, gI st, gI ld, gI ls, gI wl, gI wc, gI ws, gI ex, gI kp, gI la, gL sv, gI cu] [tg, kd, tx, wa, ou, le, pn, on, ot, sp, wp, op, fw, of, sc]) {rk : Nat → Nat} (hn : 0 ≤ sn ∧ sn ≤ 8) (hk : allC kd) (hB : BOk sn pn kd on ot rk) (hB2 : BOk2 sn pn kd on ot) (htd : 99 ≤ td ∧ td ≤ 9999) (hsc : ∀ s : Nat, (s : Int) < sn → sc s = 0 ∨ sc s = 1) (hr8 : ∀ s, rk s < 8) (h200 : ∀ s : Nat, (s : Int) < sn → szF pn kd on ot 8 s ≤ 200) {s : Nat} (hs : (s : Int) < sn) {u : Int} (hu : inR u) (hb : 0 ≤ u ∧ u < ((lyF pn kd on ot sc td 8 s ([], [])).1.length : Nat)) (hc : 0 ≤ (lyF pn kd on ot sc td 8 s ([], [])).1.getD u.toNat 0 ∧ (lyF pn kd on ot sc td 8 s ([], [])).1.getD u.toNat 0 < 65536) : GMet D yX8_characterOf cX8_characterOf 3 (some .char) [] 18 0 0 [gR (some mo), gI s, gI u] h (pr (gI ((lyF pn kd on ot sc td 8 s ([], [])).1.getD u.toNat 0)) (fun h1 => IsM h h1 mo am [gI (0), gI sn, gI td, gI ln, gI ca, gI st, gI ((((lyF pn kd on ot sc td 8 s ([], [])).1).length : Nat)), gI ((((lyF pn kd on ot sc td 8 s ([], [])).2).length : Nat)), gI wl, gI wc, gI ws, gI ex, gI kp, gI la, gL sv, gI cu] [tg, kd, tx, wa, (wrF ou 0 ((lyF pn kd on ot sc td 8 s ([], [])).1)), le, pn, on, ot, sp, wp, (wrF op 0 ((lyF pn kd on ot sc td 8 s ([], [])).2)), fw, of, sc])) := by
  refine GMet.intro RX8 rfl (by decide) (gcats rfl) (Nat.le_of_ble_eq_true rfl) fun K KX S => ?_
  show K 0 [some _, some _, some _] [] _ 0 0
  have ln := lyF_len (sc := sc) hB hB2 htd 8 s hs ([], [])
  dsimp only at ln
  simp only [List.length_nil] at ln
  have z2 := h200 s hs
  have ev : wrF ou 0 (lyF pn kd on ot sc td 8 s ([], [])).1 u.toNat = (lyF pn kd on ot sc td 8 s ([], [])).1.getD u.toNat 0 := by rw [wrF, if_pos (by omega), Nat.sub_zero]
  refine k_aload_n S dX8_characterOf_0 rfl ?_
  refine k_iload_n S dX8_characterOf_1 rfl ?_
  refine k_callV_r S dX8_characterOf_2 v_X8_79 (m_noSn_g D hM hn hs) hM.1 (fun h2 hp2 => ?_) rfl rfl (by decide) (by omega) (by omega) (Nat.le_of_ble_eq_true rfl)
  refine k_if_eq (tgt := 11) S dX8_characterOf_5 (by decide) (by omega) (fun c5 => ?_) (fun c5 => ?_)
  · refine k_aload_n S dX8_characterOf_11 rfl ?_
    refine k_iload_n S dX8_characterOf_12 rfl ?_
    refine k_callV_v S dX8_characterOf_13 v_X8_118 (m_gives D hp2.rb hn hk hB hB2 htd hsc hr8 h200 hs) hp2.1 (fun h13 hp13 => ?_) rfl rfl (by decide) (by omega) (by omega) (Nat.le_of_ble_eq_true rfl)
    have M13 := hp2.tr hp13
    refine k_aload_n S dX8_characterOf_16 rfl ?_
    refine k_iload_n S dX8_characterOf_17 rfl ?_
    refine k_iconst S dX8_characterOf_18 ?_
    refine k_aload_n S dX8_characterOf_19 rfl ?_
    refine k_getf S dX8_characterOf_20 f_X8_97 M13.1 (by rfl) ?_
    refine k_iconst S dX8_characterOf_23 ?_
    refine k_isub S dX8_characterOf_24 ?_
    refine k_callS_r S dX8_characterOf_25 s_X8_67 (m_isIn D hu (by decide) (by unfold inR; omega)) (fun h25 hp25 => ?_) rfl rfl (by decide) (by omega) (by omega) (Nat.le_of_ble_eq_true rfl)
    rw [hp25, b01_t (by omega)]
    refine k_if_eq (tgt := 35) S dX8_characterOf_28 (by decide) (by omega) (fun c28 => ?_) (fun c28 => ?_)
    · omega
    · refine k_iconst S dX8_characterOf_31 ?_
      refine k_goto (tgt := 36) S dX8_characterOf_32 (by decide) ?_
      refine k_mput S dX8_characterOf_36 f_X8_61 M13 (gfit_int _) (Nat.le_of_ble_eq_true rfl) (fun h36 M36 => ?_)
      simp only [List.set_cons_succ, List.set_cons_zero] at M36
      refine k_aload_n S dX8_characterOf_39 rfl ?_
      refine k_getf S dX8_characterOf_40 f_X8_61 M36.1 (by rfl) ?_
      refine k_if_ne (tgt := 55) S dX8_characterOf_43 (by decide) (by omega) (fun c43 => ?_) (fun c43 => ?_)
      · omega
      · refine k_aload_n S dX8_characterOf_46 rfl ?_
        refine k_getf S dX8_characterOf_47 f_X8_26 M36.1 (by rfl) ?_
        refine k_iload_n S dX8_characterOf_50 rfl ?_
        refine k_caload S dX8_characterOf_51 (M36.ld (j := 4) rfl rfl) (by omega) ?_
        rw [ev]
        refine k_goto (tgt := 57) S dX8_characterOf_52 (by decide) ?_
        exact k_creturn S dX8_characterOf_57 hc ⟨rfl, M36⟩ (by omega) (by omega)
  · omega
end
