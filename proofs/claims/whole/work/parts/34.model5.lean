/-! what is laid -/
def wrF (F : Nat → Int) (n : Nat) (l : List Int) : Nat → Int := fun q => if n ≤ q ∧ q < n + l.length then l.getD (q - n) 0 else F q
theorem wrF_nil (F : Nat → Int) (n : Nat) : wrF F n [] = F := by
  funext q
  unfold wrF
  rw [if_neg]
  simp only [List.length_nil]
  omega
theorem wrF_snoc {F : Nat → Int} {l : List Int} {v : Int} : gupd (wrF F 0 l) l.length v = wrF F 0 (l ++ [v]) := by
  funext q
  unfold wrF gupd
  simp only [List.length_append, List.length_cons, List.length_nil, Nat.sub_zero, Nat.zero_add]
  by_cases e : q = l.length
  · subst e
    rw [if_pos rfl, if_pos (by omega), List.getD_eq_getElem?_getD, List.getElem?_append_right (Nat.le_refl _), Nat.sub_self]
    rfl
  · rw [if_neg e]
    by_cases e2 : q < l.length
    · rw [if_pos (by omega), if_pos (by omega), List.getD_eq_getElem?_getD, List.getD_eq_getElem?_getD, List.getElem?_append_left e2]
    · rw [if_neg (by omega), if_neg (by omega)]
def lyR {α : Type} (g : Nat → α → α) : Nat → Nat → α → α
  | 0, _, w => w
  | n + 1, p, w => lyR g n (p + 1) (g p w)
section
variable (pn kd on ot sc : Nat → Int) (td : Int)
def lyF : Nat → Nat → List Int × List Int → List Int × List Int
  | 0, _, w => w
  | f + 1, s, w => lyR (fun p w => if kd p = 99 then (w.1 ++ [on p], w.2) else if kd p = 115 then lyF f (on p).toNat w else if kd p = 111 then lyF f (if sc s = 0 then on p else ot p).toNat w else if kd p = 100 then (w.1 ++ dateT (td + on p).toNat (ot p), w.2) else (w.1, w.2 ++ [(w.1.length : Int)])) (pn s).toNat (12 * s) w
end
def BOk2 (sn : Int) (pn kd on ot : Nat → Int) : Prop := ∀ s : Nat, (s : Int) < sn → ∀ p : Nat, 12 * s ≤ p → (p : Int) < 12 * (s : Nat) + pn s → (kd p = 99 → 0 ≤ on p ∧ on p < 65536) ∧ (kd p = 100 → (-99 ≤ on p ∧ on p ≤ 99) ∧ (ot p = 110 ∨ ot p = 119 ∨ ot p = 109))
theorem wk1 : ∀ d : Nat, d < 7 → wkc (2 * d) = if d = 0 then 109 else if d = 2 then 119 else if d = 4 then 102 else if 4 < d then 115 else 116 := by decide
theorem wk2 : ∀ d : Nat, d < 7 → wkc (2 * d + 1) = if d = 0 then 111 else if d = 1 ∨ d = 6 then 117 else if d = 2 then 101 else if d = 3 then 104 else if d = 4 then 114 else 97 := by decide
section
variable {mo : Nat} {am : Nat → Nat} {th sn td ln ca st ld ls wl wc ws ex kp la sv cu : Int} {tg kd tx wa ou le pn on ot sp wp op fw of sc : Nat → Int}
/-- lay(c), behind what is laid -/
theorem m_layc (D : DD) {h : GH} {cl sl : List Int} (hM : IsM h h mo am [gI th, gI sn, gI td, gI ln, gI ca, gI st, gI (((cl).length : Nat)), gI (((sl).length : Nat)), gI wl, gI wc, gI ws, gI ex, gI kp, gI la, gL sv, gI cu] [tg, kd, tx, wa, (wrF ou 0 (cl)), le, pn, on, ot, sp, wp, (wrF op 0 (sl)), fw, of, sc]) {c : Int} (hc : 0 ≤ c ∧ c < 65536) (hl : cl.length < 400) : GMet D yX8_lay cX8_lay 2 none [] 1 0 0 [gR (some mo), gI c] h (pv (fun h1 => IsM h h1 mo am [gI th, gI sn, gI td, gI ln, gI ca, gI st, gI (((cl ++ [c]).length : Nat)), gI (((sl).length : Nat)), gI wl, gI wc, gI ws, gI ex, gI kp, gI la, gL sv, gI cu] [tg, kd, tx, wa, (wrF ou 0 (cl ++ [c])), le, pn, on, ot, sp, wp, (wrF op 0 (sl)), fw, of, sc])) := by
  have := m_lay D hM hc (by omega)
  rw [show (((cl.length : Nat)) : Int).toNat = cl.length by omega, wrF_snoc, show ((cl.length : Nat) : Int) + 1 = (((cl ++ [c]).length : Nat) : Int) by simp] at this
  exact this
/-- layNumber(x) -/
theorem m_layNumber (D : DD)  : ∀ (d x : Nat) {h : GH} {cl sl : List Int} (hM : IsM h h mo am [gI th, gI sn, gI td, gI ln, gI ca, gI st, gI (((cl).length : Nat)), gI (((sl).length : Nat)), gI wl, gI wc, gI ws, gI ex, gI kp, gI la, gL sv, gI cu] [tg, kd, tx, wa, (wrF ou 0 (cl)), le, pn, on, ot, sp, wp, (wrF op 0 (sl)), fw, of, sc]) (_ : x < 2147483648) (_ : x < 10 ^ (d + 1)) (_ : cl.length + (digits x).length ≤ 400), GMet D yX8_layNumber cX8_layNumber 2 none [] (d + 2) 0 0 [gR (some mo), gI x] h (pv (fun h1 => IsM h h1 mo am [gI th, gI sn, gI td, gI ln, gI ca, gI st, gI (((cl ++ digits x).length : Nat)), gI (((sl).length : Nat)), gI wl, gI wc, gI ws, gI ex, gI kp, gI la, gL sv, gI cu] [tg, kd, tx, wa, (wrF ou 0 (cl ++ digits x)), le, pn, on, ot, sp, wp, (wrF op 0 (sl)), fw, of, sc])) := by
  intro d
  induction d with
  | zero =>
    intro x h cl sl hM hxr hx hc
    have hx : x < 10 := hx
    have ed : digits x = [48 + (x : Int)] := by rw [digits, if_pos hx]
    rw [ed] at hc ⊢
    simp only [List.length_cons, List.length_nil] at hc
    refine GMet.intro RX8 rfl (by decide) (gcats rfl) (Nat.le_of_ble_eq_true rfl) fun K KX S => ?_
    show K 0 [some _, some _] [] _ 0 0
    refine k_iload_n S dX8_layNumber_0 rfl ?_
    refine k_bipush S dX8_layNumber_1 ?_
    refine k_icmp_le (tgt := 14) S dX8_layNumber_3 (by decide) (by omega) (by omega) (fun c3 => ?_) (fun c3 => ?_)
    · refine k_aload_n S dX8_layNumber_14 rfl ?_
      refine k_bipush S dX8_layNumber_15 ?_
      refine k_iload_n S dX8_layNumber_17 rfl ?_
      refine k_bipush S dX8_layNumber_18 ?_
      refine k_irem S dX8_layNumber_20 (by omega) (by omega) ?_
      refine k_iadd S dX8_layNumber_21 ?_
      refine k_i2c S dX8_layNumber_22 ?_
      rw [show (48 + ((x : Nat) : Int) % 10) % 65536 = 48 + (x : Int) by omega]
      refine k_callV_v S dX8_layNumber_23 v_X8_104 (m_layc D hM (by omega) (by omega)) hM.1 (fun h23 hp23 => ?_) rfl rfl (by decide) (by omega) (by omega) (Nat.le_of_ble_eq_true rfl)
      exact k_return S dX8_layNumber_26 ⟨rfl, hp23⟩ (by omega) (by omega)
    · omega
  | succ d ih =>
    intro x h cl sl hM hxr hx hc
    refine GMet.intro RX8 rfl (by decide) (gcats rfl) (Nat.le_of_ble_eq_true rfl) fun K KX S => ?_
    show K 0 [some _, some _] [] _ 0 0
    refine k_iload_n S dX8_layNumber_0 rfl ?_
    refine k_bipush S dX8_layNumber_1 ?_
    refine k_icmp_le (tgt := 14) S dX8_layNumber_3 (by decide) (by omega) (by omega) (fun c3 => ?_) (fun c3 => ?_)
    · have ed : digits x = [48 + (x : Int)] := by rw [digits, if_pos (by omega)]
      rw [ed] at hc S
      simp only [List.length_cons, List.length_nil] at hc
      refine k_aload_n S dX8_layNumber_14 rfl ?_
      refine k_bipush S dX8_layNumber_15 ?_
      refine k_iload_n S dX8_layNumber_17 rfl ?_
      refine k_bipush S dX8_layNumber_18 ?_
      refine k_irem S dX8_layNumber_20 (by omega) (by omega) ?_
      refine k_iadd S dX8_layNumber_21 ?_
      refine k_i2c S dX8_layNumber_22 ?_
      rw [show (48 + ((x : Nat) : Int) % 10) % 65536 = 48 + (x : Int) by omega]
      refine k_callV_v S dX8_layNumber_23 v_X8_104 (m_layc D hM (by omega) (by omega)) hM.1 (fun h23 hp23 => ?_) rfl rfl (by omega) (by omega) (by omega) (Nat.le_of_ble_eq_true rfl)
      exact k_return S dX8_layNumber_26 ⟨rfl, hp23⟩ (by omega) (by omega)
    · have ed : digits x = digits (x / 10) ++ [48 + ((x % 10 : Nat) : Int)] := by rw [digits, if_neg (by omega)]
      rw [ed] at hc S
      simp only [List.length_append, List.length_cons, List.length_nil] at hc
      refine k_aload_n S dX8_layNumber_6 rfl ?_
      refine k_iload_n S dX8_layNumber_7 rfl ?_
      refine k_bipush S dX8_layNumber_8 ?_
      refine k_idiv S dX8_layNumber_10 (by omega) (by omega) ?_
      rw [show ((x : Nat) : Int) / 10 = ((x / 10 : Nat) : Int) by omega]
      refine k_callV_v S dX8_layNumber_11 v_X8_100 (ih (x / 10) hM (by omega) (by rw [Nat.pow_succ] at hx; omega) (by omega)) hM.1 (fun h11 hp11 => ?_) rfl rfl (by omega) (by omega) (by omega) (Nat.le_of_ble_eq_true rfl)
      refine k_aload_n S dX8_layNumber_14 rfl ?_
      refine k_bipush S dX8_layNumber_15 ?_
      refine k_iload_n S dX8_layNumber_17 rfl ?_
      refine k_bipush S dX8_layNumber_18 ?_
      refine k_irem S dX8_layNumber_20 (by omega) (by omega) ?_
      refine k_iadd S dX8_layNumber_21 ?_
      refine k_i2c S dX8_layNumber_22 ?_
      rw [show (48 + ((x : Nat) : Int) % 10) % 65536 = 48 + ((x % 10 : Nat) : Int) by omega]
      refine k_callV_v S dX8_layNumber_23 v_X8_104 (m_layc D hp11.rb (c := 48 + ((x % 10 : Nat) : Int)) (by omega) (by simp only [List.length_append]; omega)) hp11.1 (fun h23 hp23 => ?_) rfl rfl (by omega) (by omega) (by omega) (Nat.le_of_ble_eq_true rfl)
      exact k_return S dX8_layNumber_26 ⟨rfl, by have := hp11.tr hp23; rw [List.append_assoc] at this; exact this⟩ (by omega) (by omega)
end
