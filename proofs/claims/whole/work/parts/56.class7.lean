def shQ (on1 on2 : Int) (n1 n2 : Nat) (F1 F2 : Nat → Int) (s t : Nat) : Prop := on1 = 1 ∧ on2 = 1 ∧ 0 < n1 ∧ 0 < n2 ∧ ((t < s ∧ n1 = n2 ∧ ∀ j : Nat, j < n2 → F1 j = F2 j) ∨ ∃ e : Nat, 1 ≤ e ∧ e < n1 ∧ endQ F1 F2 n2 e)
/-- isInShadow(s, t) -/
theorem c_inShadow (D : DD) {h : GH} {τ A : Nat → Nat} {td cu lg sv ex un : Int} {n s t n1 n2 : Nat} {F1 F2 : Nat → Int} {fw1 on1 sc1 sz1 he1 fw2 on2 sc2 sz2 he2 : Int} {re1 re2 : Nat} (hX : XTop h τ A td cu lg sv ex un) (hL : XLst D h τ (A 1) 2 n (fun k => A (10 + k))) (hn : n ≤ 8) (hks : s < n) (hkt : t < n) (hs1 : XSob h τ A s fw1 on1 sc1 sz1 he1 re1) (ho1 : on1 = 0 ∨ on1 = 1) (ht1 : XTrg h τ A s n1 F1) (hi1 : ∀ j, j < n1 → inR (F1 j)) (hs2 : XSob h τ A t fw2 on2 sc2 sz2 he2 re2) (ho2 : on2 = 0 ∨ on2 = 1) (ht2 : XTrg h τ A t n2 F2) (hi2 : ∀ j, j < n2 → inR (F2 j)) : GMet D yX7_isInShadow cX7_isInShadow 5 (some .boolean) [] 5 0 0 [gR (some (A 0)), gI s, gI t] h (pr (gI (b01 (shQ on1 on2 n1 n2 F1 F2 s t))) (fun h1 => h1 = h)) := by
  refine GMet.intro RX7 rfl (by decide) (gcats rfl) (Nat.le_of_ble_eq_true rfl) fun K KX S => ?_
  show K 0 [some _, some _, some _, none, none] [] _ 0 0
  have g0 := hX.1
  have s1 := hs1.1
  have s2 := hs2.1
  obtain ⟨a1, R1, -⟩ := ht1
  obtain ⟨a2, R2, -⟩ := ht2
  have l1 := R1.le
  have l2 := R2.le
  obtain ⟨f1, q1, q1f⟩ := id R1
  obtain ⟨f2, q2, q2f⟩ := id R2
  have q1a := q1.1
  have q2a := q2.1
  have i1 : ∀ j, j < n1 → inR (f1 j) := fun j hj => by rw [q1f j hj]; exact hi1 j hj
  have i2 : ∀ j, j < n2 → inR (f2 j) := fun j hj => by rw [q2f j hj]; exact hi2 j hj
  have at49 : ¬ shQ on1 on2 n1 n2 F1 F2 s t → K 49 [some (gR (some (A 0))), some (gI s), some (gI t), some (gR (some (A (10 + s)))), some (gR (some (A (10 + t))))] [] h 0 0 := fun hno => by
    refine k_iconst S dX7_isInShadow_49 ?_
    exact k_zreturn S dX7_isInShadow_50 (by omega) ⟨by rw [b01_f hno], rfl⟩ (by omega) (by omega)
  have at90 : ¬ shQ on1 on2 n1 n2 F1 F2 s t → K 90 [some (gR (some (A 0))), some (gI s), some (gI t), some (gR (some (A (10 + s)))), some (gR (some (A (10 + t))))] [] h 0 0 := fun hno => by
    refine k_iconst S dX7_isInShadow_90 ?_
    exact k_zreturn S dX7_isInShadow_91 (by omega) ⟨by rw [b01_f hno], rfl⟩ (by omega) (by omega)
  have at86 : shQ on1 on2 n1 n2 F1 F2 s t → K 86 [some (gR (some (A 0))), some (gI s), some (gI t), some (gR (some (A (10 + s)))), some (gR (some (A (10 + t))))] [] h 0 0 := fun hyes => by
    refine k_iconst S dX7_isInShadow_86 ?_
    refine k_goto (tgt := 91) S dX7_isInShadow_87 (by decide) ?_
    exact k_zreturn S dX7_isInShadow_91 (by omega) ⟨by rw [b01_t hyes], rfl⟩ (by omega) (by omega)
  have at71 : on1 = 1 → on2 = 1 → 0 < n1 → 0 < n2 → ¬ (t < s ∧ n1 = n2 ∧ ∀ j : Nat, j < n2 → F1 j = F2 j) → K 71 [some (gR (some (A 0))), some (gI s), some (gI t), some (gR (some (A (10 + s)))), some (gR (some (A (10 + t))))] [] h 0 0 := fun o1 o2 o3 o4 hno => by
    refine k_aload S dX7_isInShadow_71 rfl ?_
    refine k_getf S dX7_isInShadow_73 f_X7_89 (by assumption) (by rfl) ?_
    refine k_aload_n S dX7_isInShadow_76 rfl ?_
    refine k_getf S dX7_isInShadow_77 f_X7_89 (by assumption) (by rfl) ?_
    refine k_callS_r S dX7_isInShadow_80 s_X7_327 (c_typedEarlier D R2 R1 hi2 hi1 (by omega)) (fun h80 hp80 => ?_) rfl rfl (by decide) (by omega) (by omega) (Nat.le_of_ble_eq_true rfl)
    rw [hp80]
    refine k_if_eq (tgt := 90) S dX7_isInShadow_83 (by decide) (b01_r _) (fun c83 => ?_) (fun c83 => ?_)
    · exact at90 (fun z => z.2.2.2.2.elim hno (b01_0.mp c83))
    · exact at86 ⟨o1, o2, o3, o4, Or.inr (b01_n.mp c83)⟩
  refine k_aload_n S dX7_isInShadow_0 rfl ?_
  refine k_iload_n S dX7_isInShadow_1 rfl ?_
  refine k_callV_r S dX7_isInShadow_2 v_X7_81 (c_snAt_g D hX hL hn hks hs1.1) (by assumption) (fun h2 hp2 => ?_) rfl rfl (by decide) (by omega) (by omega) (Nat.le_of_ble_eq_true rfl)
  rw [hp2]
  refine k_astore_n S dX7_isInShadow_5 (by decide) ?_
  refine k_aload_n S dX7_isInShadow_6 rfl ?_
  refine k_iload_n S dX7_isInShadow_7 rfl ?_
  refine k_callV_r S dX7_isInShadow_8 v_X7_81 (c_snAt_g D hX hL hn hkt hs2.1) (by assumption) (fun h8 hp8 => ?_) rfl rfl (by decide) (by omega) (by omega) (Nat.le_of_ble_eq_true rfl)
  rw [hp8]
  refine k_astore S dX7_isInShadow_11 (by decide) ?_
  refine k_aload_n S dX7_isInShadow_13 rfl ?_
  refine k_getf S dX7_isInShadow_14 f_X7_113 (by assumption) (by rfl) ?_
  refine k_if_eq (tgt := 49) S dX7_isInShadow_17 (by decide) (by omega) (fun c17 => ?_) (fun c17 => ?_)
  · exact at49 (fun z => by have := z.1; omega)
  · refine k_aload S dX7_isInShadow_20 rfl ?_
    refine k_getf S dX7_isInShadow_22 f_X7_113 (by assumption) (by rfl) ?_
    refine k_if_eq (tgt := 49) S dX7_isInShadow_25 (by decide) (by omega) (fun c25 => ?_) (fun c25 => ?_)
    · exact at49 (fun z => by have := z.2.1; omega)
    · refine k_aload_n S dX7_isInShadow_28 rfl ?_
      refine k_getf S dX7_isInShadow_29 f_X7_89 (by assumption) (by rfl) ?_
      refine k_callV_r S dX7_isInShadow_32 v_X7_320 (row_isEmpty D q1) (by assumption) (fun h32 hp32 => ?_) rfl rfl (by decide) (by omega) (by omega) (Nat.le_of_ble_eq_true rfl)
      rw [hp32]
      refine k_if_ne (tgt := 49) S dX7_isInShadow_35 (by decide) (b01_r _) (fun c35 => ?_) (fun c35 => ?_)
      · exact at49 (fun z => by have := b01_n.mp c35; have := z.2.2.1; omega)
      · have n1p : 0 < n1 := by have := b01_0.mp c35; omega
        refine k_aload S dX7_isInShadow_38 rfl ?_
        refine k_getf S dX7_isInShadow_40 f_X7_89 (by assumption) (by rfl) ?_
        refine k_callV_r S dX7_isInShadow_43 v_X7_320 (row_isEmpty D q2) (by assumption) (fun h43 hp43 => ?_) rfl rfl (by decide) (by omega) (by omega) (Nat.le_of_ble_eq_true rfl)
        rw [hp43]
        refine k_if_eq (tgt := 51) S dX7_isInShadow_46 (by decide) (b01_r _) (fun c46 => ?_) (fun c46 => ?_)
        · have n2p : 0 < n2 := by have := b01_0.mp c46; omega
          refine k_iload_n S dX7_isInShadow_51 rfl ?_
          refine k_iload_n S dX7_isInShadow_52 rfl ?_
          refine k_icmp_ge (tgt := 71) S dX7_isInShadow_53 (by decide) (by omega) (by omega) (fun c53 => ?_) (fun c53 => ?_)
          · exact at71 (by omega) (by omega) n1p n2p (fun z => by omega)
          · have ec : (n1 = n2 ∧ ∀ j : Nat, j < n2 → f1 j = f2 j) ↔ (n1 = n2 ∧ ∀ j : Nat, j < n2 → F1 j = F2 j) := by
              constructor <;> rintro ⟨z1, z2⟩ <;> refine ⟨z1, fun j hj => ?_⟩
              · rw [← q1f j (by omega), ← q2f j hj]; exact z2 j hj
              · rw [q1f j (by omega), q2f j hj]; exact z2 j hj
            refine k_aload_n S dX7_isInShadow_56 rfl ?_
            refine k_getf S dX7_isInShadow_57 f_X7_89 (by assumption) (by rfl) ?_
            refine k_aload S dX7_isInShadow_60 rfl ?_
            refine k_getf S dX7_isInShadow_62 f_X7_89 (by assumption) (by rfl) ?_
            refine k_callV_r S dX7_isInShadow_65 v_X7_323 (row_isSameAs D q1 q2 i1 i2) (by assumption) (fun h65 hp65 => ?_) rfl rfl (by decide) (by omega) (by omega) (Nat.le_of_ble_eq_true rfl)
            rw [hp65, b01_c ec]
            refine k_if_ne (tgt := 86) S dX7_isInShadow_68 (by decide) (b01_r _) (fun c68 => ?_) (fun c68 => ?_)
            · exact at86 ⟨by omega, by omega, n1p, n2p, Or.inl ⟨by omega, b01_n.mp c68⟩⟩
            · exact at71 (by omega) (by omega) n1p n2p (fun z => b01_0.mp c68 z.2)
        · exact at49 (fun z => by have := b01_n.mp c46; have := z.2.2.2.1; omega)
