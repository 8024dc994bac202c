/-! triggers -/
def TOk (sn : Int) (le of fw : Nat → Int) : Prop := ∀ s : Nat, (s : Int) < sn → (0 ≤ le s ∧ le s ≤ 6) ∧ (of s = 0 ∨ of s = 1) ∧ (fw s = 0 ∨ fw s = 1)
def usedP (of le : Nat → Int) (s : Nat) : Prop := of s = 0 ∧ 0 < le s
def endP (tg le : Nat → Int) (s t e : Nat) : Prop := le t ≤ (e : Nat) ∧ ∀ k : Nat, (k : Int) < le t → tg (6 * t + k) = tg (6 * s + e - (le t).toNat + k)
def shP (of le tg : Nat → Int) (s t : Nat) : Prop := usedP of le s ∧ usedP of le t ∧ ((t < s ∧ le t = le s ∧ endP tg le s t (le s).toNat) ∨ ∃ e : Nat, 1 ≤ e ∧ (e : Int) < le s ∧ endP tg le s t e)
noncomputable def fstF (p : Nat → Prop) : Nat → Nat → Int
  | 0, _ => -1
  | d + 1, j => by
    classical
    exact if p j then (j : Nat) else fstF p d (j + 1)
theorem fstF_t {p : Nat → Prop} {d j : Nat} (h : p j) : fstF p (d + 1) j = (j : Nat) := by unfold fstF; exact if_pos h
theorem fstF_f {p : Nat → Prop} {d j : Nat} (h : ¬ p j) : fstF p (d + 1) j = fstF p d (j + 1) := by rw [fstF]; exact if_neg h
theorem fstF_at {p : Nat → Prop} : ∀ d j, fstF p d j = -1 ∧ (∀ i, j ≤ i → i < j + d → ¬ p i) ∨ ∃ i : Nat, fstF p d j = (i : Nat) ∧ j ≤ i ∧ i < j + d ∧ p i ∧ ∀ k, j ≤ k → k < i → ¬ p k
  | 0, j => Or.inl ⟨rfl, fun i h1 h2 => by omega⟩
  | d + 1, j => by
    by_cases e : p j
    · exact Or.inr ⟨j, fstF_t e, by omega, by omega, e, fun k h1 h2 => by omega⟩
    · rw [fstF_f e]
      have sp : ∀ k, j ≤ k → k ≠ j → j + 1 ≤ k := fun k h1 h2 => by omega
      rcases fstF_at (p := p) d (j + 1) with ⟨z1, z2⟩ | ⟨i, z1, z2, z3, z4, z5⟩
      · refine Or.inl ⟨z1, fun i h1 h2 => ?_⟩
        by_cases e2 : i = j
        · subst e2; exact e
        · exact z2 i (by omega) (by omega)
      · refine Or.inr ⟨i, z1, by omega, by omega, z4, fun k h1 h2 => ?_⟩
        by_cases e2 : k = j
        · subst e2; exact e
        · exact z5 k (by omega) h2
theorem fstF_r {p : Nat → Prop} {d j : Nat} (hd : j + d < 65536) : -1 ≤ fstF p d j ∧ fstF p d j < 65536 := by
  rcases fstF_at (p := p) d j with ⟨z1, z2⟩ | ⟨i, z1, z2, z3, z4, z5⟩ <;> rw [z1] <;> omega
noncomputable def cntF (p : Nat → Prop) : Nat → Nat → Int
  | 0, _ => 0
  | d + 1, j => b01 (p j) + cntF p d (j + 1)
def mtP (of le tg tx fw : Nat → Int) (ca : Int) (s : Nat) : Prop := usedP of le s ∧ le s ≤ ca ∧ (∀ k : Nat, (k : Int) < le s → tx ((ca - le s).toNat + k) = tg (6 * s + k)) ∧ (fw s = 0 ∨ ca = le s ∨ ¬ isWd (tx (ca - le s - 1).toNat))
noncomputable def bsF (m : Nat → Prop) (le : Nat → Int) : Nat → Nat → Int → Int
  | 0, _, b => b
  | d + 1, j, b => by
    classical
    exact bsF m le d (j + 1) (if m j ∧ (b < 0 ∨ le b.toNat < le j) then (j : Nat) else b)
theorem bsF_t {m : Nat → Prop} {le : Nat → Int} {d j : Nat} {b : Int} (h : m j ∧ (b < 0 ∨ le b.toNat < le j)) : bsF m le (d + 1) j b = bsF m le d (j + 1) (j : Nat) := by rw [bsF, if_pos h]
theorem bsF_f {m : Nat → Prop} {le : Nat → Int} {d j : Nat} {b : Int} (h : ¬ (m j ∧ (b < 0 ∨ le b.toNat < le j))) : bsF m le (d + 1) j b = bsF m le d (j + 1) b := by rw [bsF, if_neg h]
section
variable {h : GH} {mo : Nat} {am : Nat → Nat} {th sn td ln ca st ld ls wl wc ws ex kp la sv cu : Int} {tg kd tx wa ou le pn on ot sp wp op fw of sc : Nat → Int}
/-- isUsed(s) -/
theorem m_isUsed (D : DD) (hM : IsM h h mo am [gI th, gI sn, gI td, gI ln, gI ca, gI st, gI ld, gI ls, gI wl, gI wc, gI ws, gI ex, gI kp, gI la, gL sv, gI cu] [tg, kd, tx, wa, ou, le, pn, on, ot, sp, wp, op, fw, of, sc]) (hn : 0 ≤ sn ∧ sn ≤ 8) (hT : TOk sn le of fw) (hg : allC tg) {s : Nat} (hs : (s : Int) < sn) : GMet D yX8_isUsed cX8_isUsed 2 (some .boolean) [] 1 0 0 [gR (some mo), gI s] h (pr (gI (b01 (usedP of le s))) (fun h1 => h1 = h)) := by
  refine GMet.intro RX8 rfl (by decide) (gcats rfl) (Nat.le_of_ble_eq_true rfl) fun K KX S => ?_
  show K 0 [some _, some _] [] _ 0 0
  have es : ((s : Nat) : Int).toNat = s := by omega
  obtain ⟨l1, l2, l3⟩ := hT s hs
  refine k_aload_n S dX8_isUsed_0 rfl ?_
  refine k_getf S dX8_isUsed_1 f_X8_55 hM.1 (by rfl) ?_
  refine k_iload_n S dX8_isUsed_4 rfl ?_
  refine k_baloadz S dX8_isUsed_5 (hM.ld (j := 13) rfl rfl) (by omega) ?_
  rw [es]
  refine k_if_ne (tgt := 22) S dX8_isUsed_6 (by decide) (by omega) (fun c6 => ?_) (fun c6 => ?_)
  · refine k_iconst S dX8_isUsed_22 ?_
    exact k_zreturn S dX8_isUsed_23 (by omega) ⟨by rw [b01_f (fun z => c6 z.1)], rfl⟩ (by omega) (by omega)
  · refine k_aload_n S dX8_isUsed_9 rfl ?_
    refine k_getf S dX8_isUsed_10 f_X8_29 hM.1 (by rfl) ?_
    refine k_iload_n S dX8_isUsed_13 rfl ?_
    refine k_iaload S dX8_isUsed_14 (hM.ld (j := 5) rfl rfl) (by omega) ?_
    rw [es]
    refine k_if_le (tgt := 22) S dX8_isUsed_15 (by decide) (by omega) (fun c15 => ?_) (fun c15 => ?_)
    · refine k_iconst S dX8_isUsed_22 ?_
      exact k_zreturn S dX8_isUsed_23 (by omega) ⟨by rw [b01_f (fun z => absurd z.2 (by omega))], rfl⟩ (by omega) (by omega)
    · refine k_iconst S dX8_isUsed_18 ?_
      refine k_goto (tgt := 23) S dX8_isUsed_19 (by decide) ?_
      exact k_zreturn S dX8_isUsed_23 (by omega) ⟨by rw [b01_t ⟨by omega, by omega⟩], rfl⟩ (by omega) (by omega)
/-- endsAt(s, t, e) -/
theorem m_endsAt (D : DD) (hM : IsM h h mo am [gI th, gI sn, gI td, gI ln, gI ca, gI st, gI ld, gI ls, gI wl, gI wc, gI ws, gI ex, gI kp, gI la, gL sv, gI cu] [tg, kd, tx, wa, ou, le, pn, on, ot, sp, wp, op, fw, of, sc]) (hn : 0 ≤ sn ∧ sn ≤ 8) (hT : TOk sn le of fw) (hg : allC tg) {s : Nat} (hs : (s : Int) < sn) {t : Nat} (ht : (t : Int) < sn) {e : Nat} (he : (e : Int) ≤ le s) : GMet D yX8_endsAt cX8_endsAt 5 (some .boolean) [] 1 0 0 [gR (some mo), gI s, gI t, gI e] h (pr (gI (b01 (endP tg le s t e))) (fun h1 => h1 = h)) := by
  refine GMet.intro RX8 rfl (by decide) (gcats rfl) (Nat.le_of_ble_eq_true rfl) fun K KX S => ?_
  show K 0 [some _, some _, some _, some _, none] [] _ 0 0
  have es : ((s : Nat) : Int).toNat = s := by omega
  have et : ((t : Nat) : Int).toNat = t := by omega
  have l1 := (hT s hs).1
  have l2 := (hT t ht).1
  obtain ⟨n, hn2⟩ := Int.eq_ofNat_of_zero_le l2.1
  refine k_aload_n S dX8_endsAt_0 rfl ?_
  refine k_getf S dX8_endsAt_1 f_X8_29 hM.1 (by rfl) ?_
  refine k_iload_n S dX8_endsAt_4 rfl ?_
  refine k_iaload S dX8_endsAt_5 (hM.ld (j := 5) rfl rfl) (by omega) ?_
  rw [et]
  refine k_iload_n S dX8_endsAt_6 rfl ?_
  refine k_icmp_le (tgt := 12) S dX8_endsAt_7 (by decide) (by omega) (by omega) (fun c7 => ?_) (fun c7 => ?_)
  · have loop : ∀ (d k : Nat), k + d = n → (∀ q : Nat, q < k → tg (6 * t + q) = tg (6 * s + e - n + q)) → K 15 [some (gR (some mo)), some (gI s), some (gI t), some (gI e), some (gI k)] [] h 0 0 := by
      intro d
      induction d with
      | zero =>
        intro k hk hq
        refine k_iload S dX8_endsAt_15 rfl ?_
        refine k_aload_n S dX8_endsAt_17 rfl ?_
        refine k_getf S dX8_endsAt_18 f_X8_29 hM.1 (by rfl) ?_
        refine k_iload_n S dX8_endsAt_21 rfl ?_
        refine k_iaload S dX8_endsAt_22 (hM.ld (j := 5) rfl rfl) (by omega) ?_
        rw [et]
        refine k_icmp_ge (tgt := 70) S dX8_endsAt_23 (by decide) (by omega) (by omega) (fun c23 => ?_) (fun c23 => ?_)
        · refine k_iconst S dX8_endsAt_70 ?_
          exact k_zreturn S dX8_endsAt_71 (by omega) ⟨by rw [b01_t ⟨by omega, fun q h1 => by rw [hn2]; exact hq q (by omega)⟩], rfl⟩ (by omega) (by omega)
        · omega
      | succ d ih =>
        intro k hk hq
        have e1 : (6 * ((t : Nat) : Int) + k).toNat = 6 * t + k := by omega
        have e2 : (6 * ((s : Nat) : Int) + e - le t + k).toNat = 6 * s + e - n + k := by omega
        have r1 := hg (6 * t + k)
        have r2 := hg (6 * s + e - n + k)
        refine k_iload S dX8_endsAt_15 rfl ?_
        refine k_aload_n S dX8_endsAt_17 rfl ?_
        refine k_getf S dX8_endsAt_18 f_X8_29 hM.1 (by rfl) ?_
        refine k_iload_n S dX8_endsAt_21 rfl ?_
        refine k_iaload S dX8_endsAt_22 (hM.ld (j := 5) rfl rfl) (by omega) ?_
        rw [et]
        refine k_icmp_ge (tgt := 70) S dX8_endsAt_23 (by decide) (by omega) (by omega) (fun c23 => ?_) (fun c23 => ?_)
        · omega
        · refine k_aload_n S dX8_endsAt_26 rfl ?_
          refine k_getf S dX8_endsAt_27 f_X8_13 hM.1 (by rfl) ?_
          refine k_bipush S dX8_endsAt_30 ?_
          refine k_iload_n S dX8_endsAt_32 rfl ?_
          refine k_imul S dX8_endsAt_33 ?_
          refine k_iload S dX8_endsAt_34 rfl ?_
          refine k_iadd S dX8_endsAt_36 ?_
          refine k_caload S dX8_endsAt_37 (hM.ld (j := 0) rfl rfl) (by omega) ?_
          rw [e1]
          refine k_aload_n S dX8_endsAt_38 rfl ?_
          refine k_getf S dX8_endsAt_39 f_X8_13 hM.1 (by rfl) ?_
          refine k_bipush S dX8_endsAt_42 ?_
          refine k_iload_n S dX8_endsAt_44 rfl ?_
          refine k_imul S dX8_endsAt_45 ?_
          refine k_iload_n S dX8_endsAt_46 rfl ?_
          refine k_iadd S dX8_endsAt_47 ?_
          refine k_aload_n S dX8_endsAt_48 rfl ?_
          refine k_getf S dX8_endsAt_49 f_X8_29 hM.1 (by rfl) ?_
          refine k_iload_n S dX8_endsAt_52 rfl ?_
          refine k_iaload S dX8_endsAt_53 (hM.ld (j := 5) rfl rfl) (by omega) ?_
          rw [et]
          refine k_isub S dX8_endsAt_54 ?_
          refine k_iload S dX8_endsAt_55 rfl ?_
          refine k_iadd S dX8_endsAt_57 ?_
          refine k_caload S dX8_endsAt_58 (hM.ld (j := 0) rfl rfl) (by omega) ?_
          rw [e2]
          refine k_icmp_eq (tgt := 64) S dX8_endsAt_59 (by decide) (by omega) (by omega) (fun c59 => ?_) (fun c59 => ?_)
          · refine k_iinc S dX8_endsAt_64 rfl (by decide) ?_
            refine k_goto (tgt := 15) S dX8_endsAt_67 (by decide) ?_
            refine ih (k + 1) (by omega) (fun q h1 => ?_)
            by_cases e9 : q = k
            · subst e9; exact c59
            · exact hq q (by omega)
          · refine k_iconst S dX8_endsAt_62 ?_
            exact k_zreturn S dX8_endsAt_63 (by omega) ⟨by rw [b01_f (fun z => c59 (by have := z.2 k (by omega); rw [hn2] at this; exact this))], rfl⟩ (by omega) (by omega)
    refine k_iconst S dX8_endsAt_12 ?_
    refine k_istore S dX8_endsAt_13 (by decide) ?_
    exact loop n 0 (by omega) (fun q h1 => by omega)
  · refine k_iconst S dX8_endsAt_10 ?_
    exact k_zreturn S dX8_endsAt_11 (by omega) ⟨by rw [b01_f (fun z => absurd z.1 (by omega))], rfl⟩ (by omega) (by omega)
/-- shadows(s, t) -/
theorem m_shadows (D : DD) (hM : IsM h h mo am [gI th, gI sn, gI td, gI ln, gI ca, gI st, gI ld, gI ls, gI wl, gI wc, gI ws, gI ex, gI kp, gI la, gL sv, gI cu] [tg, kd, tx, wa, ou, le, pn, on, ot, sp, wp, op, fw, of, sc]) (hn : 0 ≤ sn ∧ sn ≤ 8) (hT : TOk sn le of fw) (hg : allC tg) {s : Nat} (hs : (s : Int) < sn) {t : Nat} (ht : (t : Int) < sn) : GMet D yX8_shadows cX8_shadows 4 (some .boolean) [] 2 0 0 [gR (some mo), gI s, gI t] h (pr (gI (b01 (shP of le tg s t))) (fun h1 => h1 = h)) := by
  refine GMet.intro RX8 rfl (by decide) (gcats rfl) (Nat.le_of_ble_eq_true rfl) fun K KX S => ?_
  show K 0 [some _, some _, some _, none] [] _ 0 0
  have es : ((s : Nat) : Int).toNat = s := by omega
  have et : ((t : Nat) : Int).toNat = t := by omega
  have l1 := (hT s hs).1
  have l2 := (hT t ht).1
  obtain ⟨n, hn2⟩ := Int.eq_ofNat_of_zero_le l1.1
  have loop : usedP of le s → usedP of le t → ¬ (t < s ∧ le t = le s ∧ endP tg le s t (le s).toNat) → ∀ (d k : Nat), 1 ≤ k → k + d = max n 1 → (∀ e : Nat, 1 ≤ e → e < k → ¬ endP tg le s t e) → K 57 [some (gR (some mo)), some (gI s), some (gI t), some (gI k)] [] h 0 0 := fun u1 u2 hne => by
    have no : (∀ e : Nat, 1 ≤ e → (e : Int) < le s → ¬ endP tg le s t e) → b01 (shP of le tg s t) = 0 := fun z => b01_f (fun y => y.2.2.elim hne (fun ⟨e, q1, q2, q3⟩ => z e q1 q2 q3))
    intro d
    induction d with
    | zero =>
      intro k hk1 hk hq
      refine k_iload_n S dX8_shadows_57 rfl ?_
      refine k_aload_n S dX8_shadows_58 rfl ?_
      refine k_getf S dX8_shadows_59 f_X8_29 hM.1 (by rfl) ?_
      refine k_iload_n S dX8_shadows_62 rfl ?_
      refine k_iaload S dX8_shadows_63 (hM.ld (j := 5) rfl rfl) (by omega) ?_
      rw [es]
      refine k_icmp_ge (tgt := 85) S dX8_shadows_64 (by decide) (by omega) (by omega) (fun c64 => ?_) (fun c64 => ?_)
      · refine k_iconst S dX8_shadows_85 ?_
        exact k_zreturn S dX8_shadows_86 (by omega) ⟨by rw [no (fun e q1 q2 => hq e q1 (by omega))], rfl⟩ (by omega) (by omega)
      · omega
    | succ d ih =>
      intro k hk1 hk hq
      refine k_iload_n S dX8_shadows_57 rfl ?_
      refine k_aload_n S dX8_shadows_58 rfl ?_
      refine k_getf S dX8_shadows_59 f_X8_29 hM.1 (by rfl) ?_
      refine k_iload_n S dX8_shadows_62 rfl ?_
      refine k_iaload S dX8_shadows_63 (hM.ld (j := 5) rfl rfl) (by omega) ?_
      rw [es]
      refine k_icmp_ge (tgt := 85) S dX8_shadows_64 (by decide) (by omega) (by omega) (fun c64 => ?_) (fun c64 => ?_)
      · omega
      · refine k_aload_n S dX8_shadows_67 rfl ?_
        refine k_iload_n S dX8_shadows_68 rfl ?_
        refine k_iload_n S dX8_shadows_69 rfl ?_
        refine k_iload_n S dX8_shadows_70 rfl ?_
        refine k_callV_r S dX8_shadows_71 v_X8_127 (m_endsAt D hM hn hT hg hs ht (e := k) (by omega)) hM.1 (fun h71 hp71 => ?_) rfl rfl (by decide) (by omega) (by omega) (Nat.le_of_ble_eq_true rfl)
        rw [hp71]
        refine k_if_eq (tgt := 79) S dX8_shadows_74 (by decide) (b01_r _) (fun c74 => ?_) (fun c74 => ?_)
        · refine k_iinc S dX8_shadows_79 rfl (by decide) ?_
          refine k_goto (tgt := 57) S dX8_shadows_82 (by decide) ?_
          refine ih (k + 1) (by omega) (by omega) (fun e q1 q2 => ?_)
          by_cases e9 : e = k
          · subst e9; exact b01_0.mp c74
          · exact hq e q1 (by omega)
        · refine k_iconst S dX8_shadows_77 ?_
          exact k_zreturn S dX8_shadows_78 (by omega) ⟨by rw [b01_t ⟨u1, u2, Or.inr ⟨k, hk1, by omega, b01_n.mp c74⟩⟩], rfl⟩ (by omega) (by omega)
  have at55 : usedP of le s → usedP of le t → ¬ (t < s ∧ le t = le s ∧ endP tg le s t (le s).toNat) → K 55 [some (gR (some mo)), some (gI s), some (gI t), none] [] h 0 0 := fun u1 u2 hne => by
    refine k_iconst S dX8_shadows_55 ?_
    refine k_istore_n S dX8_shadows_56 (by decide) ?_
    exact loop u1 u2 hne (max n 1 - 1) 1 (by omega) (by omega) (fun e q1 q2 => by omega)
  refine k_aload_n S dX8_shadows_0 rfl ?_
  refine k_iload_n S dX8_shadows_1 rfl ?_
  refine k_callV_r S dX8_shadows_2 v_X8_124 (m_isUsed D hM hn hT hg hs) hM.1 (fun h2 hp2 => ?_) rfl rfl (by decide) (by omega) (by omega) (Nat.le_of_ble_eq_true rfl)
  rw [hp2]
  refine k_if_eq (tgt := 16) S dX8_shadows_5 (by decide) (b01_r _) (fun c5 => ?_) (fun c5 => ?_)
  · refine k_iconst S dX8_shadows_16 ?_
    exact k_zreturn S dX8_shadows_17 (by omega) ⟨by rw [b01_f (fun z => b01_0.mp c5 z.1)], rfl⟩ (by omega) (by omega)
  · have u1 := b01_n.mp c5
    refine k_aload_n S dX8_shadows_8 rfl ?_
    refine k_iload_n S dX8_shadows_9 rfl ?_
    refine k_callV_r S dX8_shadows_10 v_X8_124 (m_isUsed D hM hn hT hg ht) hM.1 (fun h10 hp10 => ?_) rfl rfl (by decide) (by omega) (by omega) (Nat.le_of_ble_eq_true rfl)
    rw [hp10]
    refine k_if_ne (tgt := 18) S dX8_shadows_13 (by decide) (b01_r _) (fun c13 => ?_) (fun c13 => ?_)
    · have u2 := b01_n.mp c13
      refine k_iload_n S dX8_shadows_18 rfl ?_
      refine k_iload_n S dX8_shadows_19 rfl ?_
      refine k_icmp_ge (tgt := 55) S dX8_shadows_20 (by decide) (by omega) (by omega) (fun c20 => ?_) (fun c20 => ?_)
      · exact at55 u1 u2 (fun z => by omega)
      · refine k_aload_n S dX8_shadows_23 rfl ?_
        refine k_getf S dX8_shadows_24 f_X8_29 hM.1 (by rfl) ?_
        refine k_iload_n S dX8_shadows_27 rfl ?_
        refine k_iaload S dX8_shadows_28 (hM.ld (j := 5) rfl rfl) (by omega) ?_
        rw [et]
        refine k_aload_n S dX8_shadows_29 rfl ?_
        refine k_getf S dX8_shadows_30 f_X8_29 hM.1 (by rfl) ?_
        refine k_iload_n S dX8_shadows_33 rfl ?_
        refine k_iaload S dX8_shadows_34 (hM.ld (j := 5) rfl rfl) (by omega) ?_
        rw [es]
        refine k_icmp_ne (tgt := 55) S dX8_shadows_35 (by decide) (by omega) (by omega) (fun c35 => ?_) (fun c35 => ?_)
        · exact at55 u1 u2 (fun z => c35 z.2.1)
        · refine k_aload_n S dX8_shadows_38 rfl ?_
          refine k_iload_n S dX8_shadows_39 rfl ?_
          refine k_iload_n S dX8_shadows_40 rfl ?_
          refine k_aload_n S dX8_shadows_41 rfl ?_
          refine k_getf S dX8_shadows_42 f_X8_29 hM.1 (by rfl) ?_
          refine k_iload_n S dX8_shadows_45 rfl ?_
          refine k_iaload S dX8_shadows_46 (hM.ld (j := 5) rfl rfl) (by omega) ?_
          rw [es, hn2]
          refine k_callV_r S dX8_shadows_47 v_X8_127 (m_endsAt D hM hn hT hg hs ht (e := n) (by omega)) hM.1 (fun h47 hp47 => ?_) rfl rfl (by decide) (by omega) (by omega) (Nat.le_of_ble_eq_true rfl)
          rw [hp47]
          refine k_if_eq (tgt := 55) S dX8_shadows_50 (by decide) (b01_r _) (fun c50 => ?_) (fun c50 => ?_)
          · refine at55 u1 u2 (fun z => b01_0.mp c50 (by have := z.2.2; rw [show (le s).toNat = n by omega] at this; exact this))
          · refine k_iconst S dX8_shadows_53 ?_
            exact k_zreturn S dX8_shadows_54 (by omega) ⟨by rw [b01_t ⟨u1, u2, Or.inl ⟨by omega, by omega, by rw [show (le s).toNat = n by omega]; exact b01_n.mp c50⟩⟩], rfl⟩ (by omega) (by omega)
    · refine k_iconst S dX8_shadows_16 ?_
      exact k_zreturn S dX8_shadows_17 (by omega) ⟨by rw [b01_f (fun z => absurd z.2.1 (b01_0.mp c13))], rfl⟩ (by omega) (by omega)
/-- firstShadow(s) -/
theorem m_firstShadow (D : DD) (hM : IsM h h mo am [gI th, gI sn, gI td, gI ln, gI ca, gI st, gI ld, gI ls, gI wl, gI wc, gI ws, gI ex, gI kp, gI la, gL sv, gI cu] [tg, kd, tx, wa, ou, le, pn, on, ot, sp, wp, op, fw, of, sc]) (hn : 0 ≤ sn ∧ sn ≤ 8) (hT : TOk sn le of fw) (hg : allC tg) {s : Nat} (hs : (s : Int) < sn) : GMet D yX8_firstShadow cX8_firstShadow 3 (some .int) [] 3 0 0 [gR (some mo), gI s] h (pr (gI (fstF (shP of le tg s) sn.toNat 0)) (fun h1 => h1 = h)) := by
  refine GMet.intro RX8 rfl (by decide) (gcats rfl) (Nat.le_of_ble_eq_true rfl) fun K KX S => ?_
  show K 0 [some _, some _, none] [] _ 0 0
  have es : ((s : Nat) : Int).toNat = s := by omega

  have loop : ∀ (d k : Nat), k + d = sn.toNat → fstF (shP of le tg s) sn.toNat 0 = fstF (shP of le tg s) d k → K 2 [some (gR (some mo)), some (gI s), some (gI k)] [] h 0 0 := by
    intro d
    induction d with
    | zero =>
      intro k hk hv
      refine k_iload_n S dX8_firstShadow_2 rfl ?_
      refine k_aload_n S dX8_firstShadow_3 rfl ?_
      refine k_getf S dX8_firstShadow_4 f_X8_64 hM.1 (by rfl) ?_
      refine k_icmp_ge (tgt := 27) S dX8_firstShadow_7 (by decide) (by omega) (by omega) (fun c7 => ?_) (fun c7 => ?_)
      · refine k_iconst S dX8_firstShadow_27 ?_
        exact k_ireturn S dX8_firstShadow_28 ⟨by rw [hv, fstF], rfl⟩ (by omega) (by omega)
      · omega
    | succ d ih =>
      intro k hk hv
      refine k_iload_n S dX8_firstShadow_2 rfl ?_
      refine k_aload_n S dX8_firstShadow_3 rfl ?_
      refine k_getf S dX8_firstShadow_4 f_X8_64 hM.1 (by rfl) ?_
      refine k_icmp_ge (tgt := 27) S dX8_firstShadow_7 (by decide) (by omega) (by omega) (fun c7 => ?_) (fun c7 => ?_)
      · omega
      · refine k_aload_n S dX8_firstShadow_10 rfl ?_
        refine k_iload_n S dX8_firstShadow_11 rfl ?_
        refine k_iload_n S dX8_firstShadow_12 rfl ?_
        refine k_callV_r S dX8_firstShadow_13 v_X8_130 (m_shadows D hM hn hT hg hs (t := k) (by omega)) hM.1 (fun h13 hp13 => ?_) rfl rfl (by decide) (by omega) (by omega) (Nat.le_of_ble_eq_true rfl)
        rw [hp13]
        refine k_if_eq (tgt := 21) S dX8_firstShadow_16 (by decide) (b01_r _) (fun c16 => ?_) (fun c16 => ?_)
        · refine k_iinc S dX8_firstShadow_21 rfl (by decide) ?_
          refine k_goto (tgt := 2) S dX8_firstShadow_24 (by decide) ?_
          exact ih (k + 1) (by omega) (hv.trans (fstF_f (b01_0.mp c16)))
        · refine k_iload_n S dX8_firstShadow_19 rfl ?_
          exact k_ireturn S dX8_firstShadow_20 ⟨by rw [hv, fstF_t (b01_n.mp c16)], rfl⟩ (by omega) (by omega)
  refine k_iconst S dX8_firstShadow_0 ?_
  refine k_istore_n S dX8_firstShadow_1 (by decide) ?_
  exact loop sn.toNat 0 (by omega) rfl
/-- clashes() -/
theorem m_clashes (D : DD) (hM : IsM h h mo am [gI th, gI sn, gI td, gI ln, gI ca, gI st, gI ld, gI ls, gI wl, gI wc, gI ws, gI ex, gI kp, gI la, gL sv, gI cu] [tg, kd, tx, wa, ou, le, pn, on, ot, sp, wp, op, fw, of, sc]) (hn : 0 ≤ sn ∧ sn ≤ 8) (hT : TOk sn le of fw) (hg : allC tg) : GMet D yX8_clashes cX8_clashes 3 (some .int) [] 4 0 0 [gR (some mo)] h (pr (gI (cntF (fun s => 0 ≤ fstF (shP of le tg s) sn.toNat 0) sn.toNat 0)) (fun h1 => h1 = h)) := by
  refine GMet.intro RX8 rfl (by decide) (gcats rfl) (Nat.le_of_ble_eq_true rfl) fun K KX S => ?_
  show K 0 [some _, none, none] [] _ 0 0
  have loop : ∀ (d k : Nat) (many : Int), k + d = sn.toNat → cntF (fun s => 0 ≤ fstF (shP of le tg s) sn.toNat 0) sn.toNat 0 = many + cntF (fun s => 0 ≤ fstF (shP of le tg s) sn.toNat 0) d k → K 4 [some (gR (some mo)), some (gI many), some (gI k)] [] h 0 0 := by
    intro d
    induction d with
    | zero =>
      intro k many hk hv
      refine k_iload_n S dX8_clashes_4 rfl ?_
      refine k_aload_n S dX8_clashes_5 rfl ?_
      refine k_getf S dX8_clashes_6 f_X8_64 hM.1 (by rfl) ?_
      refine k_icmp_ge (tgt := 34) S dX8_clashes_9 (by decide) (by omega) (by omega) (fun c9 => ?_) (fun c9 => ?_)
      · refine k_iload_n S dX8_clashes_34 rfl ?_
        exact k_ireturn S dX8_clashes_35 ⟨by rw [hv, cntF, Int.add_zero], rfl⟩ (by omega) (by omega)
      · omega
    | succ d ih =>
      intro k many hk hv
      have r1 := fstF_r (p := shP of le tg k) (d := sn.toNat) (j := 0) (by omega)
      rw [cntF] at hv
      refine k_iload_n S dX8_clashes_4 rfl ?_
      refine k_aload_n S dX8_clashes_5 rfl ?_
      refine k_getf S dX8_clashes_6 f_X8_64 hM.1 (by rfl) ?_
      refine k_icmp_ge (tgt := 34) S dX8_clashes_9 (by decide) (by omega) (by omega) (fun c9 => ?_) (fun c9 => ?_)
      · omega
      · refine k_iload_n S dX8_clashes_12 rfl ?_
        refine k_aload_n S dX8_clashes_13 rfl ?_
        refine k_iload_n S dX8_clashes_14 rfl ?_
        refine k_callV_r S dX8_clashes_15 v_X8_133 (m_firstShadow D hM hn hT hg (s := k) (by omega)) hM.1 (fun h15 hp15 => ?_) rfl rfl (by decide) (by omega) (by omega) (Nat.le_of_ble_eq_true rfl)
        rw [hp15]
        refine k_if_lt (tgt := 25) S dX8_clashes_18 (by decide) (by omega) (fun c18 => ?_) (fun c18 => ?_)
        · refine k_iconst S dX8_clashes_25 ?_
          refine k_iadd S dX8_clashes_26 ?_
          refine k_istore_n S dX8_clashes_27 (by decide) ?_
          refine k_iinc S dX8_clashes_28 rfl (by decide) ?_
          refine k_goto (tgt := 4) S dX8_clashes_31 (by decide) ?_
          rw [b01_f (by omega)] at hv
          exact ih (k + 1) _ (by omega) (by omega)
        · refine k_iconst S dX8_clashes_21 ?_
          refine k_goto (tgt := 26) S dX8_clashes_22 (by decide) ?_
          refine k_iadd S dX8_clashes_26 ?_
          refine k_istore_n S dX8_clashes_27 (by decide) ?_
          refine k_iinc S dX8_clashes_28 rfl (by decide) ?_
          refine k_goto (tgt := 4) S dX8_clashes_31 (by decide) ?_
          rw [b01_t (by omega)] at hv
          exact ih (k + 1) _ (by omega) (by omega)
  refine k_iconst S dX8_clashes_0 ?_
  refine k_istore_n S dX8_clashes_1 (by decide) ?_
  refine k_iconst S dX8_clashes_2 ?_
  refine k_istore_n S dX8_clashes_3 (by decide) ?_
  exact loop sn.toNat 0 0 (by omega) (by omega)
/-- matches(s) -/
theorem m_matches (D : DD) (hM : IsM h h mo am [gI th, gI sn, gI td, gI ln, gI ca, gI st, gI ld, gI ls, gI wl, gI wc, gI ws, gI ex, gI kp, gI la, gL sv, gI cu] [tg, kd, tx, wa, ou, le, pn, on, ot, sp, wp, op, fw, of, sc]) (hn : 0 ≤ sn ∧ sn ≤ 8) (hT : TOk sn le of fw) (hg : allC tg) (hx : allC tx) (hc : 0 ≤ ca ∧ ca ≤ 80) {s : Nat} (hs : (s : Int) < sn) : GMet D yX8_matches cX8_matches 4 (some .boolean) [] 2 0 0 [gR (some mo), gI s] h (pr (gI (b01 (mtP of le tg tx fw ca s))) (fun h1 => h1 = h)) := by
  refine GMet.intro RX8 rfl (by decide) (gcats rfl) (Nat.le_of_ble_eq_true rfl) fun K KX S => ?_
  show K 0 [some _, some _, none, none] [] _ 0 0
  have es : ((s : Nat) : Int).toNat = s := by omega
  obtain ⟨l1, l3, l4⟩ := hT s hs
  obtain ⟨n, hn2⟩ := Int.eq_ofNat_of_zero_le l1.1
  have at21 : ¬ (usedP of le s ∧ le s ≤ ca) → K 21 [some (gR (some mo)), some (gI s), none, none] [] h 0 0 := fun z => by
    refine k_iconst S dX8_matches_21 ?_
    exact k_zreturn S dX8_matches_22 (by omega) ⟨by rw [b01_f (fun y => z ⟨y.1, y.2.1⟩)], rfl⟩ (by omega) (by omega)
  have loop : usedP of le s → le s ≤ ca → ∀ (d k : Nat), k + d = n → (∀ q : Nat, q < k → tx ((ca - le s).toNat + q) = tg (6 * s + q)) → K 37 [some (gR (some mo)), some (gI s), some (gI (ca - n)), some (gI k)] [] h 0 0 := fun u1 u2 => by
    intro d
    induction d with
    | zero =>
      intro k hk hq
      have all : ∀ q : Nat, (q : Int) < le s → tx ((ca - le s).toNat + q) = tg (6 * s + q) := fun q h1 => hq q (by omega)
      have r1 := hx (ca - le s - 1).toNat
      refine k_iload_n S dX8_matches_37 rfl ?_
      refine k_aload_n S dX8_matches_38 rfl ?_
      refine k_getf S dX8_matches_39 f_X8_29 hM.1 (by rfl) ?_
      refine k_iload_n S dX8_matches_42 rfl ?_
      refine k_iaload S dX8_matches_43 (hM.ld (j := 5) rfl rfl) (by omega) ?_
      rw [es]
      refine k_icmp_ge (tgt := 77) S dX8_matches_44 (by decide) (by omega) (by omega) (fun c44 => ?_) (fun c44 => ?_)
      · refine k_aload_n S dX8_matches_77 rfl ?_
        refine k_getf S dX8_matches_78 f_X8_51 hM.1 (by rfl) ?_
        refine k_iload_n S dX8_matches_81 rfl ?_
        refine k_baloadz S dX8_matches_82 (hM.ld (j := 12) rfl rfl) (by omega) ?_
        rw [es]
        refine k_if_eq (tgt := 104) S dX8_matches_83 (by decide) (by omega) (fun c83 => ?_) (fun c83 => ?_)
        · refine k_iconst S dX8_matches_104 ?_
          refine k_goto (tgt := 109) S dX8_matches_105 (by decide) ?_
          exact k_zreturn S dX8_matches_109 (by omega) ⟨by rw [b01_t ⟨u1, u2, all, Or.inl c83⟩], rfl⟩ (by omega) (by omega)
        · refine k_iload_n S dX8_matches_86 rfl ?_
          refine k_if_eq (tgt := 104) S dX8_matches_87 (by decide) (by omega) (fun c87 => ?_) (fun c87 => ?_)
          · refine k_iconst S dX8_matches_104 ?_
            refine k_goto (tgt := 109) S dX8_matches_105 (by decide) ?_
            exact k_zreturn S dX8_matches_109 (by omega) ⟨by rw [b01_t ⟨u1, u2, all, Or.inr (Or.inl (by omega))⟩], rfl⟩ (by omega) (by omega)
          · have e9 : (ca - (n : Nat) - 1).toNat = (ca - le s - 1).toNat := by omega
            refine k_aload_n S dX8_matches_90 rfl ?_
            refine k_getf S dX8_matches_91 f_X8_20 hM.1 (by rfl) ?_
            refine k_iload_n S dX8_matches_94 rfl ?_
            refine k_iconst S dX8_matches_95 ?_
            refine k_isub S dX8_matches_96 ?_
            refine k_caload S dX8_matches_97 (hM.ld (j := 2) rfl rfl) (by omega) ?_
            rw [e9]
            refine k_callS_r S dX8_matches_98 s_X8_71 (m_isWord D r1) (fun h98 hp98 => ?_) rfl rfl (by decide) (by omega) (by omega) (Nat.le_of_ble_eq_true rfl)
            rw [hp98]
            refine k_if_ne (tgt := 108) S dX8_matches_101 (by decide) (b01_r _) (fun c101 => ?_) (fun c101 => ?_)
            · refine k_iconst S dX8_matches_108 ?_
              exact k_zreturn S dX8_matches_109 (by omega) ⟨by rw [b01_f (fun z => z.2.2.2.elim c83 (fun z => z.elim (fun z => c87 (by omega)) (fun z => z (b01_n.mp c101))))], rfl⟩ (by omega) (by omega)
            · refine k_iconst S dX8_matches_104 ?_
              refine k_goto (tgt := 109) S dX8_matches_105 (by decide) ?_
              exact k_zreturn S dX8_matches_109 (by omega) ⟨by rw [b01_t ⟨u1, u2, all, Or.inr (Or.inr (b01_0.mp c101))⟩], rfl⟩ (by omega) (by omega)
      · omega
    | succ d ih =>
      intro k hk hq
      have e1 : (6 * ((s : Nat) : Int) + k).toNat = 6 * s + k := by omega
      have e2 : (ca - (n : Nat) + k).toNat = (ca - le s).toNat + k := by omega
      have r1 := hg (6 * s + k)
      have r2 := hx ((ca - le s).toNat + k)
      refine k_iload_n S dX8_matches_37 rfl ?_
      refine k_aload_n S dX8_matches_38 rfl ?_
      refine k_getf S dX8_matches_39 f_X8_29 hM.1 (by rfl) ?_
      refine k_iload_n S dX8_matches_42 rfl ?_
      refine k_iaload S dX8_matches_43 (hM.ld (j := 5) rfl rfl) (by omega) ?_
      rw [es]
      refine k_icmp_ge (tgt := 77) S dX8_matches_44 (by decide) (by omega) (by omega) (fun c44 => ?_) (fun c44 => ?_)
      · omega
      · refine k_aload_n S dX8_matches_47 rfl ?_
        refine k_getf S dX8_matches_48 f_X8_20 hM.1 (by rfl) ?_
        refine k_iload_n S dX8_matches_51 rfl ?_
        refine k_iload_n S dX8_matches_52 rfl ?_
        refine k_iadd S dX8_matches_53 ?_
        refine k_caload S dX8_matches_54 (hM.ld (j := 2) rfl rfl) (by omega) ?_
        rw [e2]
        refine k_aload_n S dX8_matches_55 rfl ?_
        refine k_getf S dX8_matches_56 f_X8_13 hM.1 (by rfl) ?_
        refine k_bipush S dX8_matches_59 ?_
        refine k_iload_n S dX8_matches_61 rfl ?_
        refine k_imul S dX8_matches_62 ?_
        refine k_iload_n S dX8_matches_63 rfl ?_
        refine k_iadd S dX8_matches_64 ?_
        refine k_caload S dX8_matches_65 (hM.ld (j := 0) rfl rfl) (by omega) ?_
        rw [e1]
        refine k_icmp_eq (tgt := 71) S dX8_matches_66 (by decide) (by omega) (by omega) (fun c66 => ?_) (fun c66 => ?_)
        · refine k_iinc S dX8_matches_71 rfl (by decide) ?_
          refine k_goto (tgt := 37) S dX8_matches_74 (by decide) ?_
          refine ih (k + 1) (by omega) (fun q h1 => ?_)
          by_cases e9 : q = k
          · subst e9; exact c66
          · exact hq q (by omega)
        · refine k_iconst S dX8_matches_69 ?_
          exact k_zreturn S dX8_matches_70 (by omega) ⟨by rw [b01_f (fun z => c66 (z.2.2.1 k (by omega)))], rfl⟩ (by omega) (by omega)
  refine k_aload_n S dX8_matches_0 rfl ?_
  refine k_iload_n S dX8_matches_1 rfl ?_
  refine k_callV_r S dX8_matches_2 v_X8_124 (m_isUsed D hM hn hT hg hs) hM.1 (fun h2 hp2 => ?_) rfl rfl (by decide) (by omega) (by omega) (Nat.le_of_ble_eq_true rfl)
  rw [hp2]
  refine k_if_eq (tgt := 21) S dX8_matches_5 (by decide) (b01_r _) (fun c5 => ?_) (fun c5 => ?_)
  · exact at21 (fun z => b01_0.mp c5 z.1)
  · have u1 := b01_n.mp c5
    refine k_aload_n S dX8_matches_8 rfl ?_
    refine k_getf S dX8_matches_9 f_X8_29 hM.1 (by rfl) ?_
    refine k_iload_n S dX8_matches_12 rfl ?_
    refine k_iaload S dX8_matches_13 (hM.ld (j := 5) rfl rfl) (by omega) ?_
    rw [es]
    refine k_aload_n S dX8_matches_14 rfl ?_
    refine k_getf S dX8_matches_15 f_X8_136 hM.1 (by rfl) ?_
    refine k_icmp_le (tgt := 23) S dX8_matches_18 (by decide) (by omega) (by omega) (fun c18 => ?_) (fun c18 => ?_)
    · refine k_aload_n S dX8_matches_23 rfl ?_
      refine k_getf S dX8_matches_24 f_X8_136 hM.1 (by rfl) ?_
      refine k_aload_n S dX8_matches_27 rfl ?_
      refine k_getf S dX8_matches_28 f_X8_29 hM.1 (by rfl) ?_
      refine k_iload_n S dX8_matches_31 rfl ?_
      refine k_iaload S dX8_matches_32 (hM.ld (j := 5) rfl rfl) (by omega) ?_
      rw [es]
      refine k_isub S dX8_matches_33 ?_
      rw [hn2]
      refine k_istore_n S dX8_matches_34 (by decide) ?_
      refine k_iconst S dX8_matches_35 ?_
      refine k_istore_n S dX8_matches_36 (by decide) ?_
      exact loop u1 c18 n 0 (by omega) (fun q h1 => by omega)
    · exact at21 (fun z => c18 z.2)
/-- matching() -/
theorem m_matching (D : DD) (hM : IsM h h mo am [gI th, gI sn, gI td, gI ln, gI ca, gI st, gI ld, gI ls, gI wl, gI wc, gI ws, gI ex, gI kp, gI la, gL sv, gI cu] [tg, kd, tx, wa, ou, le, pn, on, ot, sp, wp, op, fw, of, sc]) (hn : 0 ≤ sn ∧ sn ≤ 8) (hT : TOk sn le of fw) (hg : allC tg) (hx : allC tx) (hc : 0 ≤ ca ∧ ca ≤ 80) : GMet D yX8_matching cX8_matching 3 (some .int) [] 3 0 0 [gR (some mo)] h (pr (gI (bsF (mtP of le tg tx fw ca) le sn.toNat 0 (-1))) (fun h1 => h1 = h)) := by
  refine GMet.intro RX8 rfl (by decide) (gcats rfl) (Nat.le_of_ble_eq_true rfl) fun K KX S => ?_
  show K 0 [some _, none, none] [] _ 0 0
  have loop : ∀ (d k : Nat) (b : Int), k + d = sn.toNat → -1 ≤ b → b < k → bsF (mtP of le tg tx fw ca) le sn.toNat 0 (-1) = bsF (mtP of le tg tx fw ca) le d k b → K 4 [some (gR (some mo)), some (gI b), some (gI k)] [] h 0 0 := by
    intro d
    induction d with
    | zero =>
      intro k b hk hb1 hb2 hv
      refine k_iload_n S dX8_matching_4 rfl ?_
      refine k_aload_n S dX8_matching_5 rfl ?_
      refine k_getf S dX8_matching_6 f_X8_64 hM.1 (by rfl) ?_
      refine k_icmp_ge (tgt := 47) S dX8_matching_9 (by decide) (by omega) (by omega) (fun c9 => ?_) (fun c9 => ?_)
      · refine k_iload_n S dX8_matching_47 rfl ?_
        exact k_ireturn S dX8_matching_48 ⟨by rw [hv, bsF], rfl⟩ (by omega) (by omega)
      · omega
    | succ d ih =>
      intro k b hk hb1 hb2 hv
      have ek : ((k : Nat) : Int).toNat = k := by omega
      have l1 := (hT k (by omega)).1
      have next : ¬ (mtP of le tg tx fw ca k ∧ (b < 0 ∨ le b.toNat < le k)) → K 41 [some (gR (some mo)), some (gI b), some (gI k)] [] h 0 0 := fun z => by
        refine k_iinc S dX8_matching_41 rfl (by decide) ?_
        refine k_goto (tgt := 4) S dX8_matching_44 (by decide) ?_
        exact ih (k + 1) b (by omega) hb1 (by omega) (hv.trans (bsF_f z))
      have take : (mtP of le tg tx fw ca k ∧ (b < 0 ∨ le b.toNat < le k)) → K 39 [some (gR (some mo)), some (gI b), some (gI k)] [] h 0 0 := fun z => by
        refine k_iload_n S dX8_matching_39 rfl ?_
        refine k_istore_n S dX8_matching_40 (by decide) ?_
        refine k_iinc S dX8_matching_41 rfl (by decide) ?_
        refine k_goto (tgt := 4) S dX8_matching_44 (by decide) ?_
        exact ih (k + 1) k (by omega) (by omega) (by omega) (hv.trans (bsF_t z))
      refine k_iload_n S dX8_matching_4 rfl ?_
      refine k_aload_n S dX8_matching_5 rfl ?_
      refine k_getf S dX8_matching_6 f_X8_64 hM.1 (by rfl) ?_
      refine k_icmp_ge (tgt := 47) S dX8_matching_9 (by decide) (by omega) (by omega) (fun c9 => ?_) (fun c9 => ?_)
      · omega
      · refine k_aload_n S dX8_matching_12 rfl ?_
        refine k_iload_n S dX8_matching_13 rfl ?_
        refine k_callV_r S dX8_matching_14 v_X8_139 (m_matches D hM hn hT hg hx hc (s := k) (by omega)) hM.1 (fun h14 hp14 => ?_) rfl rfl (by decide) (by omega) (by omega) (Nat.le_of_ble_eq_true rfl)
        rw [hp14]
        refine k_if_eq (tgt := 41) S dX8_matching_17 (by decide) (b01_r _) (fun c17 => ?_) (fun c17 => ?_)
        · exact next (fun z => b01_0.mp c17 z.1)
        · have u1 := b01_n.mp c17
          refine k_iload_n S dX8_matching_20 rfl ?_
          refine k_if_lt (tgt := 39) S dX8_matching_21 (by decide) (by omega) (fun c21 => ?_) (fun c21 => ?_)
          · exact take ⟨u1, Or.inl c21⟩
          · have l2 := (hT b.toNat (by omega)).1
            refine k_aload_n S dX8_matching_24 rfl ?_
            refine k_getf S dX8_matching_25 f_X8_29 hM.1 (by rfl) ?_
            refine k_iload_n S dX8_matching_28 rfl ?_
            refine k_iaload S dX8_matching_29 (hM.ld (j := 5) rfl rfl) (by omega) ?_
            rw [ek]
            refine k_aload_n S dX8_matching_30 rfl ?_
            refine k_getf S dX8_matching_31 f_X8_29 hM.1 (by rfl) ?_
            refine k_iload_n S dX8_matching_34 rfl ?_
            refine k_iaload S dX8_matching_35 (hM.ld (j := 5) rfl rfl) (by omega) ?_
            refine k_icmp_le (tgt := 41) S dX8_matching_36 (by decide) (by omega) (by omega) (fun c36 => ?_) (fun c36 => ?_)
            · exact next (fun z => by omega)
            · exact take ⟨u1, Or.inr (by omega)⟩
  refine k_iconst S dX8_matching_0 ?_
  refine k_istore_n S dX8_matching_1 (by decide) ?_
  refine k_iconst S dX8_matching_2 ?_
  refine k_istore_n S dX8_matching_3 (by decide) ?_
  exact loop sn.toNat 0 (-1) (by omega) (by omega) (by omega) rfl
/-- matchingByLooking() -/
theorem m_mbl (D : DD) (hM : IsM h h mo am [gI th, gI sn, gI td, gI ln, gI ca, gI st, gI ld, gI ls, gI wl, gI wc, gI ws, gI ex, gI kp, gI la, gL sv, gI cu] [tg, kd, tx, wa, ou, le, pn, on, ot, sp, wp, op, fw, of, sc]) (hn : 0 ≤ sn ∧ sn ≤ 8) (hT : TOk sn le of fw) (hg : allC tg) (hx : allC tx) (hc : 0 ≤ ca ∧ ca ≤ 80) : GMet D yX8_matchingByLooking cX8_matchingByLooking 1 (some .int) [] 4 0 0 [gR (some mo)] h (pr (gI (bsF (mtP of le tg tx fw ca) le sn.toNat 0 (-1))) (fun h1 => h1 = h)) := by
  refine GMet.intro RX8 rfl (by decide) (gcats rfl) (Nat.le_of_ble_eq_true rfl) fun K KX S => ?_
  show K 0 [some _] [] _ 0 0
  refine k_aload_n S dX8_matchingByLooking_0 rfl ?_
  refine k_callV_r S dX8_matchingByLooking_1 v_X8_142 (m_matching D hM hn hT hg hx hc) hM.1 (fun h1 hp1 => ?_) rfl rfl (by decide) (by omega) (by omega) (Nat.le_of_ble_eq_true rfl)
  rw [hp1]
  exact k_ireturn S dX8_matchingByLooking_4 ⟨rfl, rfl⟩ (by omega) (by omega)
/-- isShadowedBy, no first snippet -/
theorem m_isShadowedBy_b1 (D : DD) (hM : IsM h h mo am [gI th, gI sn, gI td, gI ln, gI ca, gI st, gI ld, gI ls, gI wl, gI wc, gI ws, gI ex, gI kp, gI la, gL sv, gI cu] [tg, kd, tx, wa, ou, le, pn, on, ot, sp, wp, op, fw, of, sc]) (hn : 0 ≤ sn ∧ sn ≤ 8) {s : Int} (hs : inR s) (hb : ¬ (0 ≤ s ∧ s < sn)) {u : Int} : GMet D yX8_isShadowedBy cX8_isShadowedBy 3 (some .boolean) [] 3 0 0 [gR (some mo), gI s, gI u] h (pr (gI 0) (fun h1 => IsM h h1 mo am [gI (1), gI sn, gI td, gI ln, gI ca, gI st, gI ld, gI ls, gI wl, gI wc, gI ws, gI ex, gI kp, gI la, gL sv, gI cu] [tg, kd, tx, wa, ou, le, pn, on, ot, sp, wp, op, fw, of, sc])) := by
  refine GMet.intro RX8 rfl (by decide) (gcats rfl) (Nat.le_of_ble_eq_true rfl) fun K KX S => ?_
  show K 0 [some _, some _, some _] [] _ 0 0
  refine k_aload_n S dX8_isShadowedBy_0 rfl ?_
  refine k_iload_n S dX8_isShadowedBy_1 rfl ?_
  refine k_callV_r S dX8_isShadowedBy_2 v_X8_79 (m_noSn_b D hM hs hn hb) hM.1 (fun h2 hp2 => ?_) rfl rfl (by decide) (by omega) (by omega) (Nat.le_of_ble_eq_true rfl)
  refine k_if_ne (tgt := 29) S dX8_isShadowedBy_5 (by decide) (by omega) (fun c5 => ?_) (fun c5 => ?_)
  · refine k_iconst S dX8_isShadowedBy_29 ?_
    exact k_zreturn S dX8_isShadowedBy_30 (by omega) ⟨rfl, hp2⟩ (by omega) (by omega)
  · omega
/-- isShadowedBy, no second snippet -/
theorem m_isShadowedBy_b2 (D : DD) (hM : IsM h h mo am [gI th, gI sn, gI td, gI ln, gI ca, gI st, gI ld, gI ls, gI wl, gI wc, gI ws, gI ex, gI kp, gI la, gL sv, gI cu] [tg, kd, tx, wa, ou, le, pn, on, ot, sp, wp, op, fw, of, sc]) (hn : 0 ≤ sn ∧ sn ≤ 8) {s : Nat} (hs : (s : Int) < sn) {u : Int} (hu : inR u) (hb : ¬ (0 ≤ u ∧ u < sn)) : GMet D yX8_isShadowedBy cX8_isShadowedBy 3 (some .boolean) [] 3 0 0 [gR (some mo), gI s, gI u] h (pr (gI 0) (fun h1 => IsM h h1 mo am [gI (1), gI sn, gI td, gI ln, gI ca, gI st, gI ld, gI ls, gI wl, gI wc, gI ws, gI ex, gI kp, gI la, gL sv, gI cu] [tg, kd, tx, wa, ou, le, pn, on, ot, sp, wp, op, fw, of, sc])) := by
  refine GMet.intro RX8 rfl (by decide) (gcats rfl) (Nat.le_of_ble_eq_true rfl) fun K KX S => ?_
  show K 0 [some _, some _, some _] [] _ 0 0
  refine k_aload_n S dX8_isShadowedBy_0 rfl ?_
  refine k_iload_n S dX8_isShadowedBy_1 rfl ?_
  refine k_callV_r S dX8_isShadowedBy_2 v_X8_79 (m_noSn_g D hM hn hs) hM.1 (fun h2 hp2 => ?_) rfl rfl (by decide) (by omega) (by omega) (Nat.le_of_ble_eq_true rfl)
  refine k_if_ne (tgt := 29) S dX8_isShadowedBy_5 (by decide) (by omega) (fun c5 => ?_) (fun c5 => ?_)
  · omega
  · refine k_aload_n S dX8_isShadowedBy_8 rfl ?_
    refine k_iload_n S dX8_isShadowedBy_9 rfl ?_
    refine k_callV_r S dX8_isShadowedBy_10 v_X8_79 (m_noSn_b D hp2.rb hu hn hb) hp2.1 (fun h10 hp10 => ?_) rfl rfl (by decide) (by omega) (by omega) (Nat.le_of_ble_eq_true rfl)
    refine k_if_ne (tgt := 29) S dX8_isShadowedBy_13 (by decide) (by omega) (fun c13 => ?_) (fun c13 => ?_)
    · refine k_iconst S dX8_isShadowedBy_29 ?_
      exact k_zreturn S dX8_isShadowedBy_30 (by omega) ⟨rfl, hp2.tr hp10⟩ (by omega) (by omega)
    · omega
/-- comesTo, no first snippet -/
theorem m_comesTo_b1 (D : DD) (hM : IsM h h mo am [gI th, gI sn, gI td, gI ln, gI ca, gI st, gI ld, gI ls, gI wl, gI wc, gI ws, gI ex, gI kp, gI la, gL sv, gI cu] [tg, kd, tx, wa, ou, le, pn, on, ot, sp, wp, op, fw, of, sc]) (hn : 0 ≤ sn ∧ sn ≤ 8) {s : Int} (hs : inR s) (hb : ¬ (0 ≤ s ∧ s < sn)) {u : Int} : GMet D yX8_comesTo cX8_comesTo 3 (some .boolean) [] 3 0 0 [gR (some mo), gI s, gI u] h (pr (gI 0) (fun h1 => IsM h h1 mo am [gI (1), gI sn, gI td, gI ln, gI ca, gI st, gI ld, gI ls, gI wl, gI wc, gI ws, gI ex, gI kp, gI la, gL sv, gI cu] [tg, kd, tx, wa, ou, le, pn, on, ot, sp, wp, op, fw, of, sc])) := by
  refine GMet.intro RX8 rfl (by decide) (gcats rfl) (Nat.le_of_ble_eq_true rfl) fun K KX S => ?_
  show K 0 [some _, some _, some _] [] _ 0 0
  refine k_aload_n S dX8_comesTo_0 rfl ?_
  refine k_iload_n S dX8_comesTo_1 rfl ?_
  refine k_callV_r S dX8_comesTo_2 v_X8_79 (m_noSn_b D hM hs hn hb) hM.1 (fun h2 hp2 => ?_) rfl rfl (by decide) (by omega) (by omega) (Nat.le_of_ble_eq_true rfl)
  refine k_if_ne (tgt := 29) S dX8_comesTo_5 (by decide) (by omega) (fun c5 => ?_) (fun c5 => ?_)
  · refine k_iconst S dX8_comesTo_29 ?_
    exact k_zreturn S dX8_comesTo_30 (by omega) ⟨rfl, hp2⟩ (by omega) (by omega)
  · omega
/-- comesTo, no second snippet -/
theorem m_comesTo_b2 (D : DD) (hM : IsM h h mo am [gI th, gI sn, gI td, gI ln, gI ca, gI st, gI ld, gI ls, gI wl, gI wc, gI ws, gI ex, gI kp, gI la, gL sv, gI cu] [tg, kd, tx, wa, ou, le, pn, on, ot, sp, wp, op, fw, of, sc]) (hn : 0 ≤ sn ∧ sn ≤ 8) {s : Nat} (hs : (s : Int) < sn) {u : Int} (hu : inR u) (hb : ¬ (0 ≤ u ∧ u < sn)) : GMet D yX8_comesTo cX8_comesTo 3 (some .boolean) [] 3 0 0 [gR (some mo), gI s, gI u] h (pr (gI 0) (fun h1 => IsM h h1 mo am [gI (1), gI sn, gI td, gI ln, gI ca, gI st, gI ld, gI ls, gI wl, gI wc, gI ws, gI ex, gI kp, gI la, gL sv, gI cu] [tg, kd, tx, wa, ou, le, pn, on, ot, sp, wp, op, fw, of, sc])) := by
  refine GMet.intro RX8 rfl (by decide) (gcats rfl) (Nat.le_of_ble_eq_true rfl) fun K KX S => ?_
  show K 0 [some _, some _, some _] [] _ 0 0
  refine k_aload_n S dX8_comesTo_0 rfl ?_
  refine k_iload_n S dX8_comesTo_1 rfl ?_
  refine k_callV_r S dX8_comesTo_2 v_X8_79 (m_noSn_g D hM hn hs) hM.1 (fun h2 hp2 => ?_) rfl rfl (by decide) (by omega) (by omega) (Nat.le_of_ble_eq_true rfl)
  refine k_if_ne (tgt := 29) S dX8_comesTo_5 (by decide) (by omega) (fun c5 => ?_) (fun c5 => ?_)
  · omega
  · refine k_aload_n S dX8_comesTo_8 rfl ?_
    refine k_iload_n S dX8_comesTo_9 rfl ?_
    refine k_callV_r S dX8_comesTo_10 v_X8_79 (m_noSn_b D hp2.rb hu hn hb) hp2.1 (fun h10 hp10 => ?_) rfl rfl (by decide) (by omega) (by omega) (Nat.le_of_ble_eq_true rfl)
    refine k_if_ne (tgt := 29) S dX8_comesTo_13 (by decide) (by omega) (fun c13 => ?_) (fun c13 => ?_)
    · refine k_iconst S dX8_comesTo_29 ?_
      exact k_zreturn S dX8_comesTo_30 (by omega) ⟨rfl, hp2.tr hp10⟩ (by omega) (by omega)
    · omega
/-- isShadowedBy -/
theorem m_isShadowedBy_g (D : DD) (hM : IsM h h mo am [gI th, gI sn, gI td, gI ln, gI ca, gI st, gI ld, gI ls, gI wl, gI wc, gI ws, gI ex, gI kp, gI la, gL sv, gI cu] [tg, kd, tx, wa, ou, le, pn, on, ot, sp, wp, op, fw, of, sc]) (hn : 0 ≤ sn ∧ sn ≤ 8) (hT : TOk sn le of fw) (hg : allC tg) {s : Nat} (hs : (s : Int) < sn) {t : Nat} (ht : (t : Int) < sn) : GMet D yX8_isShadowedBy cX8_isShadowedBy 3 (some .boolean) [] 3 0 0 [gR (some mo), gI s, gI t] h (pr (gI (b01 (shP of le tg s t))) (fun h1 => IsM h h1 mo am [gI (0), gI sn, gI td, gI ln, gI ca, gI st, gI ld, gI ls, gI wl, gI wc, gI ws, gI ex, gI kp, gI la, gL sv, gI cu] [tg, kd, tx, wa, ou, le, pn, on, ot, sp, wp, op, fw, of, sc])) := by
  refine GMet.intro RX8 rfl (by decide) (gcats rfl) (Nat.le_of_ble_eq_true rfl) fun K KX S => ?_
  show K 0 [some _, some _, some _] [] _ 0 0
  refine k_aload_n S dX8_isShadowedBy_0 rfl ?_
  refine k_iload_n S dX8_isShadowedBy_1 rfl ?_
  refine k_callV_r S dX8_isShadowedBy_2 v_X8_79 (m_noSn_g D hM hn hs) hM.1 (fun h2 hp2 => ?_) rfl rfl (by decide) (by omega) (by omega) (Nat.le_of_ble_eq_true rfl)
  refine k_if_ne (tgt := 29) S dX8_isShadowedBy_5 (by decide) (by omega) (fun c5 => ?_) (fun c5 => ?_)
  · omega
  · refine k_aload_n S dX8_isShadowedBy_8 rfl ?_
    refine k_iload_n S dX8_isShadowedBy_9 rfl ?_
    refine k_callV_r S dX8_isShadowedBy_10 v_X8_79 (m_noSn_g D hp2.rb hn ht) hp2.1 (fun h10 hp10 => ?_) rfl rfl (by decide) (by omega) (by omega) (Nat.le_of_ble_eq_true rfl)
    refine k_if_ne (tgt := 29) S dX8_isShadowedBy_13 (by decide) (by omega) (fun c13 => ?_) (fun c13 => ?_)
    · omega
    · have M10 := hp2.tr hp10
      refine k_aload_n S dX8_isShadowedBy_16 rfl ?_
      refine k_iload_n S dX8_isShadowedBy_17 rfl ?_
      refine k_iload_n S dX8_isShadowedBy_18 rfl ?_
      refine k_callV_r S dX8_isShadowedBy_19 v_X8_130 (m_shadows D hp10.rb hn hT hg hs ht) M10.1 (fun h19 hp19 => ?_) rfl rfl (by decide) (by omega) (by omega) (Nat.le_of_ble_eq_true rfl)
      rw [hp19]
      refine k_if_eq (tgt := 29) S dX8_isShadowedBy_22 (by decide) (b01_r _) (fun c22 => ?_) (fun c22 => ?_)
      · refine k_iconst S dX8_isShadowedBy_29 ?_
        exact k_zreturn S dX8_isShadowedBy_30 (by omega) ⟨by rw [c22], M10⟩ (by omega) (by omega)
      · refine k_iconst S dX8_isShadowedBy_25 ?_
        refine k_goto (tgt := 30) S dX8_isShadowedBy_26 (by decide) ?_
        exact k_zreturn S dX8_isShadowedBy_30 (by omega) ⟨by rw [b01_t (b01_n.mp c22)], M10⟩ (by omega) (by omega)
/-- comesTo -/
theorem m_comesTo_g (D : DD) (hM : IsM h h mo am [gI th, gI sn, gI td, gI ln, gI ca, gI st, gI ld, gI ls, gI wl, gI wc, gI ws, gI ex, gI kp, gI la, gL sv, gI cu] [tg, kd, tx, wa, ou, le, pn, on, ot, sp, wp, op, fw, of, sc]) {rk : Nat → Nat} (hn : 0 ≤ sn ∧ sn ≤ 8) (hk : allC kd) (hB : BOk sn pn kd on ot rk) (hr8 : ∀ s, rk s < 8) {s : Nat} (hs : (s : Int) < sn) {t : Nat} (ht : (t : Int) < sn) : GMet D yX8_comesTo cX8_comesTo 3 (some .boolean) [] 9 0 0 [gR (some mo), gI s, gI t] h (pr (gI (b01 (goF pn kd on ot t 8 s))) (fun h1 => IsM h h1 mo am [gI (0), gI sn, gI td, gI ln, gI ca, gI st, gI ld, gI ls, gI wl, gI wc, gI ws, gI ex, gI kp, gI la, gL sv, gI cu] [tg, kd, tx, wa, ou, le, pn, on, ot, sp, wp, op, fw, of, sc])) := by
  refine GMet.intro RX8 rfl (by decide) (gcats rfl) (Nat.le_of_ble_eq_true rfl) fun K KX S => ?_
  show K 0 [some _, some _, some _] [] _ 0 0
  refine k_aload_n S dX8_comesTo_0 rfl ?_
  refine k_iload_n S dX8_comesTo_1 rfl ?_
  refine k_callV_r S dX8_comesTo_2 v_X8_79 (m_noSn_g D hM hn hs) hM.1 (fun h2 hp2 => ?_) rfl rfl (by decide) (by omega) (by omega) (Nat.le_of_ble_eq_true rfl)
  refine k_if_ne (tgt := 29) S dX8_comesTo_5 (by decide) (by omega) (fun c5 => ?_) (fun c5 => ?_)
  · omega
  · refine k_aload_n S dX8_comesTo_8 rfl ?_
    refine k_iload_n S dX8_comesTo_9 rfl ?_
    refine k_callV_r S dX8_comesTo_10 v_X8_79 (m_noSn_g D hp2.rb hn ht) hp2.1 (fun h10 hp10 => ?_) rfl rfl (by decide) (by omega) (by omega) (Nat.le_of_ble_eq_true rfl)
    refine k_if_ne (tgt := 29) S dX8_comesTo_13 (by decide) (by omega) (fun c13 => ?_) (fun c13 => ?_)
    · omega
    · have M10 := hp2.tr hp10
      refine k_aload_n S dX8_comesTo_16 rfl ?_
      refine k_iload_n S dX8_comesTo_17 rfl ?_
      refine k_iload_n S dX8_comesTo_18 rfl ?_
      refine k_callV_r S dX8_comesTo_19 v_X8_93 (m_goesTo D hp10.rb hn hk hB ht 8 s hs (hr8 s)) M10.1 (fun h19 hp19 => ?_) rfl rfl (by decide) (by omega) (by omega) (Nat.le_of_ble_eq_true rfl)
      rw [hp19]
      refine k_if_eq (tgt := 29) S dX8_comesTo_22 (by decide) (b01_r _) (fun c22 => ?_) (fun c22 => ?_)
      · refine k_iconst S dX8_comesTo_29 ?_
        exact k_zreturn S dX8_comesTo_30 (by omega) ⟨by rw [c22], M10⟩ (by omega) (by omega)
      · refine k_iconst S dX8_comesTo_25 ?_
        refine k_goto (tgt := 30) S dX8_comesTo_26 (by decide) ?_
        exact k_zreturn S dX8_comesTo_30 (by omega) ⟨by rw [b01_t (b01_n.mp c22)], M10⟩ (by omega) (by omega)
/-- shadower, no such snippet -/
theorem m_shadower_b (D : DD) (hM : IsM h h mo am [gI th, gI sn, gI td, gI ln, gI ca, gI st, gI ld, gI ls, gI wl, gI wc, gI ws, gI ex, gI kp, gI la, gL sv, gI cu] [tg, kd, tx, wa, ou, le, pn, on, ot, sp, wp, op, fw, of, sc]) (hn : 0 ≤ sn ∧ sn ≤ 8) {s : Int} (hs : inR s) (hb : ¬ (0 ≤ s ∧ s < sn)) : GMet D yX8_shadower cX8_shadower 3 (some .int) [] 3 0 0 [gR (some mo), gI s] h (pr (gI 0) (fun h1 => IsM h h1 mo am [gI (1), gI sn, gI td, gI ln, gI ca, gI st, gI ld, gI ls, gI wl, gI wc, gI ws, gI ex, gI kp, gI la, gL sv, gI cu] [tg, kd, tx, wa, ou, le, pn, on, ot, sp, wp, op, fw, of, sc])) := by
  refine GMet.intro RX8 rfl (by decide) (gcats rfl) (Nat.le_of_ble_eq_true rfl) fun K KX S => ?_
  show K 0 [some _, some _, none] [] _ 0 0
  refine k_aload_n S dX8_shadower_0 rfl ?_
  refine k_iload_n S dX8_shadower_1 rfl ?_
  refine k_callV_r S dX8_shadower_2 v_X8_79 (m_noSn_b D hM hs hn hb) hM.1 (fun h2 hp2 => ?_) rfl rfl (by decide) (by omega) (by omega) (Nat.le_of_ble_eq_true rfl)
  refine k_if_eq (tgt := 10) S dX8_shadower_5 (by decide) (by omega) (fun c5 => ?_) (fun c5 => ?_)
  · omega
  · refine k_iconst S dX8_shadower_8 ?_
    exact k_ireturn S dX8_shadower_9 ⟨rfl, hp2⟩ (by omega) (by omega)
/-- shadower -/
theorem m_shadower_n (D : DD) (hM : IsM h h mo am [gI th, gI sn, gI td, gI ln, gI ca, gI st, gI ld, gI ls, gI wl, gI wc, gI ws, gI ex, gI kp, gI la, gL sv, gI cu] [tg, kd, tx, wa, ou, le, pn, on, ot, sp, wp, op, fw, of, sc]) (hn : 0 ≤ sn ∧ sn ≤ 8) (hT : TOk sn le of fw) (hg : allC tg) {s : Nat} (hs : (s : Int) < sn) (hf : fstF (shP of le tg s) sn.toNat 0 = -1) : GMet D yX8_shadower cX8_shadower 3 (some .int) [] 4 0 0 [gR (some mo), gI s] h (pr (gI 0) (fun h1 => IsM h h1 mo am [gI (2), gI sn, gI td, gI ln, gI ca, gI st, gI ld, gI ls, gI wl, gI wc, gI ws, gI ex, gI kp, gI la, gL sv, gI cu] [tg, kd, tx, wa, ou, le, pn, on, ot, sp, wp, op, fw, of, sc])) := by
  refine GMet.intro RX8 rfl (by decide) (gcats rfl) (Nat.le_of_ble_eq_true rfl) fun K KX S => ?_
  show K 0 [some _, some _, none] [] _ 0 0
  have r1 := fstF_r (p := shP of le tg s) (d := sn.toNat) (j := 0) (by omega)
  refine k_aload_n S dX8_shadower_0 rfl ?_
  refine k_iload_n S dX8_shadower_1 rfl ?_
  refine k_callV_r S dX8_shadower_2 v_X8_79 (m_noSn_g D hM hn hs) hM.1 (fun h2 hp2 => ?_) rfl rfl (by decide) (by omega) (by omega) (Nat.le_of_ble_eq_true rfl)
  refine k_if_eq (tgt := 10) S dX8_shadower_5 (by decide) (by omega) (fun c5 => ?_) (fun c5 => ?_)
  · refine k_aload_n S dX8_shadower_10 rfl ?_
    refine k_iload_n S dX8_shadower_11 rfl ?_
    refine k_callV_r S dX8_shadower_12 v_X8_133 (m_firstShadow D hp2.rb hn hT hg hs) hp2.1 (fun h12 hp12 => ?_) rfl rfl (by decide) (by omega) (by omega) (Nat.le_of_ble_eq_true rfl)
    rw [hp12]
    refine k_istore_n S dX8_shadower_15 (by decide) ?_
    refine k_iload_n S dX8_shadower_16 rfl ?_
    refine k_if_ge (tgt := 26) S dX8_shadower_17 (by decide) (by omega) (fun c17 => ?_) (fun c17 => ?_)
    · omega
    · refine k_aload_n S dX8_shadower_20 rfl ?_
      refine k_iconst S dX8_shadower_21 ?_
      refine k_callV_r S dX8_shadower_22 v_X8_75 (m_fail D hp2.rb) hp2.1 (fun h22 hp22 => ?_) rfl rfl (by decide) (by omega) (by omega) (Nat.le_of_ble_eq_true rfl)
      exact k_ireturn S dX8_shadower_25 ⟨rfl, hp2.tr hp22⟩ (by omega) (by omega)
  · omega
/-- shadower -/
theorem m_shadower_g (D : DD) (hM : IsM h h mo am [gI th, gI sn, gI td, gI ln, gI ca, gI st, gI ld, gI ls, gI wl, gI wc, gI ws, gI ex, gI kp, gI la, gL sv, gI cu] [tg, kd, tx, wa, ou, le, pn, on, ot, sp, wp, op, fw, of, sc]) (hn : 0 ≤ sn ∧ sn ≤ 8) (hT : TOk sn le of fw) (hg : allC tg) {s : Nat} (hs : (s : Int) < sn) (hf : 0 ≤ fstF (shP of le tg s) sn.toNat 0) : GMet D yX8_shadower cX8_shadower 3 (some .int) [] 4 0 0 [gR (some mo), gI s] h (pr (gI (fstF (shP of le tg s) sn.toNat 0)) (fun h1 => IsM h h1 mo am [gI (0), gI sn, gI td, gI ln, gI ca, gI st, gI ld, gI ls, gI wl, gI wc, gI ws, gI ex, gI kp, gI la, gL sv, gI cu] [tg, kd, tx, wa, ou, le, pn, on, ot, sp, wp, op, fw, of, sc])) := by
  refine GMet.intro RX8 rfl (by decide) (gcats rfl) (Nat.le_of_ble_eq_true rfl) fun K KX S => ?_
  show K 0 [some _, some _, none] [] _ 0 0
  have r1 := fstF_r (p := shP of le tg s) (d := sn.toNat) (j := 0) (by omega)
  refine k_aload_n S dX8_shadower_0 rfl ?_
  refine k_iload_n S dX8_shadower_1 rfl ?_
  refine k_callV_r S dX8_shadower_2 v_X8_79 (m_noSn_g D hM hn hs) hM.1 (fun h2 hp2 => ?_) rfl rfl (by decide) (by omega) (by omega) (Nat.le_of_ble_eq_true rfl)
  refine k_if_eq (tgt := 10) S dX8_shadower_5 (by decide) (by omega) (fun c5 => ?_) (fun c5 => ?_)
  · refine k_aload_n S dX8_shadower_10 rfl ?_
    refine k_iload_n S dX8_shadower_11 rfl ?_
    refine k_callV_r S dX8_shadower_12 v_X8_133 (m_firstShadow D hp2.rb hn hT hg hs) hp2.1 (fun h12 hp12 => ?_) rfl rfl (by decide) (by omega) (by omega) (Nat.le_of_ble_eq_true rfl)
    rw [hp12]
    refine k_istore_n S dX8_shadower_15 (by decide) ?_
    refine k_iload_n S dX8_shadower_16 rfl ?_
    refine k_if_ge (tgt := 26) S dX8_shadower_17 (by decide) (by omega) (fun c17 => ?_) (fun c17 => ?_)
    · refine k_iload_n S dX8_shadower_26 rfl ?_
      exact k_ireturn S dX8_shadower_27 ⟨rfl, hp2⟩ (by omega) (by omega)
    · omega
  · omega
/-- depth, no such snippet -/
theorem m_depth_b (D : DD) (hM : IsM h h mo am [gI th, gI sn, gI td, gI ln, gI ca, gI st, gI ld, gI ls, gI wl, gI wc, gI ws, gI ex, gI kp, gI la, gL sv, gI cu] [tg, kd, tx, wa, ou, le, pn, on, ot, sp, wp, op, fw, of, sc]) (hn : 0 ≤ sn ∧ sn ≤ 8) {s : Int} (hs : inR s) (hb : ¬ (0 ≤ s ∧ s < sn)) : GMet D yX8_depth cX8_depth 2 (some .int) [] 3 0 0 [gR (some mo), gI s] h (pr (gI 0) (fun h1 => IsM h h1 mo am [gI (1), gI sn, gI td, gI ln, gI ca, gI st, gI ld, gI ls, gI wl, gI wc, gI ws, gI ex, gI kp, gI la, gL sv, gI cu] [tg, kd, tx, wa, ou, le, pn, on, ot, sp, wp, op, fw, of, sc])) := by
  refine GMet.intro RX8 rfl (by decide) (gcats rfl) (Nat.le_of_ble_eq_true rfl) fun K KX S => ?_
  show K 0 [some _, some _] [] _ 0 0
  refine k_aload_n S dX8_depth_0 rfl ?_
  refine k_iload_n S dX8_depth_1 rfl ?_
  refine k_callV_r S dX8_depth_2 v_X8_79 (m_noSn_b D hM hs hn hb) hM.1 (fun h2 hp2 => ?_) rfl rfl (by decide) (by omega) (by omega) (Nat.le_of_ble_eq_true rfl)
  refine k_if_eq (tgt := 12) S dX8_depth_5 (by decide) (by omega) (fun c5 => ?_) (fun c5 => ?_)
  · omega
  · refine k_iconst S dX8_depth_8 ?_
    refine k_goto (tgt := 17) S dX8_depth_9 (by decide) ?_
    exact k_ireturn S dX8_depth_17 ⟨rfl, hp2⟩ (by omega) (by omega)
/-- depth -/
theorem m_depth_g (D : DD) (hM : IsM h h mo am [gI th, gI sn, gI td, gI ln, gI ca, gI st, gI ld, gI ls, gI wl, gI wc, gI ws, gI ex, gI kp, gI la, gL sv, gI cu] [tg, kd, tx, wa, ou, le, pn, on, ot, sp, wp, op, fw, of, sc]) {rk : Nat → Nat} (hn : 0 ≤ sn ∧ sn ≤ 8) (hk : allC kd) (hB : BOk sn pn kd on ot rk) (hr8 : ∀ s, rk s < 8) {s : Nat} (hs : (s : Int) < sn) : GMet D yX8_depth cX8_depth 2 (some .int) [] 9 0 0 [gR (some mo), gI s] h (pr (gI (dpF pn kd on ot 8 s)) (fun h1 => IsM h h1 mo am [gI (0), gI sn, gI td, gI ln, gI ca, gI st, gI ld, gI ls, gI wl, gI wc, gI ws, gI ex, gI kp, gI la, gL sv, gI cu] [tg, kd, tx, wa, ou, le, pn, on, ot, sp, wp, op, fw, of, sc])) := by
  refine GMet.intro RX8 rfl (by decide) (gcats rfl) (Nat.le_of_ble_eq_true rfl) fun K KX S => ?_
  show K 0 [some _, some _] [] _ 0 0
  refine k_aload_n S dX8_depth_0 rfl ?_
  refine k_iload_n S dX8_depth_1 rfl ?_
  refine k_callV_r S dX8_depth_2 v_X8_79 (m_noSn_g D hM hn hs) hM.1 (fun h2 hp2 => ?_) rfl rfl (by decide) (by omega) (by omega) (Nat.le_of_ble_eq_true rfl)
  refine k_if_eq (tgt := 12) S dX8_depth_5 (by decide) (by omega) (fun c5 => ?_) (fun c5 => ?_)
  · refine k_aload_n S dX8_depth_12 rfl ?_
    refine k_iload_n S dX8_depth_13 rfl ?_
    refine k_callV_r S dX8_depth_14 v_X8_121 (m_deep D hp2.rb hn hk hB 8 s (by omega) hs (hr8 s)) hp2.1 (fun h14 hp14 => ?_) rfl rfl (by decide) (by omega) (by omega) (Nat.le_of_ble_eq_true rfl)
    rw [hp14]
    exact k_ireturn S dX8_depth_17 ⟨rfl, hp2⟩ (by omega) (by omega)
  · omega
end
