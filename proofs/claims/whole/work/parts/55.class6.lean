/-- g, of length n, ends at e in f -/
def endQ (f g : Nat → Int) (n e : Nat) : Prop := n ≤ e ∧ ∀ j : Nat, j < n → f (e - n + j) = g j
/-- isTypedEarlier(trigger, longer) -/
theorem c_typedEarlier (D : DD) {h : GH} {r a cap n r2 a2 cap2 n2 : Nat} {F F2 : Nat → Int} (hr : RowF h r a cap n F) (hr2 : RowF h r2 a2 cap2 n2 F2) (hin : ∀ j, j < n → inR (F j)) (hin2 : ∀ j, j < n2 → inR (F2 j)) (hn2 : n2 ≤ 200) : GMet D yX7_isTypedEarlier cX7_isTypedEarlier 3 (some .boolean) [] 4 0 0 [gR (some r), gR (some r2)] h (pr (gI (b01 (∃ e : Nat, 1 ≤ e ∧ e < n2 ∧ endQ F2 F n e))) (fun h1 => h1 = h)) := by
  refine GMet.intro RX7 rfl (by decide) (gcats rfl) (Nat.le_of_ble_eq_true rfl) fun K KX S => ?_
  show K 0 [some _, some _, none] [] _ 0 0
  obtain ⟨f, g1, gf⟩ := hr
  obtain ⟨f2, g2, gf2⟩ := hr2
  have g1a := g1.1
  have g2a := g2.1
  have i1 : ∀ j, j < n → inR (f j) := fun j hj => by rw [gf j hj]; exact hin j hj
  have i2 : ∀ j, j < n2 → inR (f2 j) := fun j hj => by rw [gf2 j hj]; exact hin2 j hj
  have loop : ∀ (d k : Nat), 1 ≤ k → k + d = max n2 1 → (∀ e : Nat, 1 ≤ e → e < k → ¬ endQ F2 F n e) → K 2 [some (gR (some r)), some (gR (some r2)), some (gI k)] [] h 0 0 := by
    intro d
    induction d with
    | zero =>
      intro k hk1 hk hq
      refine k_iload_n S dX7_isTypedEarlier_2 rfl ?_
      refine k_aload_n S dX7_isTypedEarlier_3 rfl ?_
      refine k_callV_r S dX7_isTypedEarlier_4 v_X7_107 (row_count D g2) (by assumption) (fun h4 hp4 => ?_) rfl rfl (by decide) (by omega) (by omega) (Nat.le_of_ble_eq_true rfl)
      rw [hp4]
      refine k_icmp_ge (tgt := 27) S dX7_isTypedEarlier_7 (by decide) (by omega) (by omega) (fun c7 => ?_) (fun c7 => ?_)
      · refine k_iconst S dX7_isTypedEarlier_27 ?_
        exact k_zreturn S dX7_isTypedEarlier_28 (by omega) ⟨by rw [b01_f (fun ⟨e, q1, q2, q3⟩ => hq e q1 (by omega) q3)], rfl⟩ (by omega) (by omega)
      · omega
    | succ d ih =>
      intro k hk1 hk hq
      have ec : (n ≤ ((k : Nat) : Int) ∧ ((k : Nat) : Int) ≤ n2 ∧ ∀ j : Nat, j < n → f2 (((k : Nat) : Int).toNat - n + j) = f j) ↔ endQ F2 F n k := by
        rw [show ((k : Nat) : Int).toNat = k by omega]
        constructor
        · rintro ⟨z1, z2, z3⟩
          refine ⟨by omega, fun j hj => ?_⟩
          rw [← gf j hj, ← gf2 (k - n + j) (by omega)]
          exact z3 j hj
        · rintro ⟨z1, z2⟩
          refine ⟨by omega, by omega, fun j hj => ?_⟩
          rw [gf j hj, gf2 (k - n + j) (by omega)]
          exact z2 j hj
      refine k_iload_n S dX7_isTypedEarlier_2 rfl ?_
      refine k_aload_n S dX7_isTypedEarlier_3 rfl ?_
      refine k_callV_r S dX7_isTypedEarlier_4 v_X7_107 (row_count D g2) (by assumption) (fun h4 hp4 => ?_) rfl rfl (by decide) (by omega) (by omega) (Nat.le_of_ble_eq_true rfl)
      rw [hp4]
      refine k_icmp_ge (tgt := 27) S dX7_isTypedEarlier_7 (by decide) (by omega) (by omega) (fun c7 => ?_) (fun c7 => ?_)
      · omega
      · refine k_aload_n S dX7_isTypedEarlier_10 rfl ?_
        refine k_aload_n S dX7_isTypedEarlier_11 rfl ?_
        refine k_iload_n S dX7_isTypedEarlier_12 rfl ?_
        refine k_callV_r S dX7_isTypedEarlier_13 v_X7_331 (row_endsWith D g2 g1 i2 i1 (t := ((k : Nat) : Int)) (by omega)) (by assumption) (fun h13 hp13 => ?_) rfl rfl (by decide) (by omega) (by omega) (Nat.le_of_ble_eq_true rfl)
        rw [hp13, b01_c ec]
        refine k_if_eq (tgt := 21) S dX7_isTypedEarlier_16 (by decide) (b01_r _) (fun c16 => ?_) (fun c16 => ?_)
        · refine k_iinc S dX7_isTypedEarlier_21 rfl (by decide) ?_
          refine k_goto (tgt := 2) S dX7_isTypedEarlier_24 (by decide) ?_
          refine ih (k + 1) (by omega) (by omega) (fun e q1 q2 => ?_)
          by_cases e9 : e = k
          · subst e9; exact b01_0.mp c16
          · exact hq e q1 (by omega)
        · refine k_iconst S dX7_isTypedEarlier_19 ?_
          exact k_zreturn S dX7_isTypedEarlier_20 (by omega) ⟨by rw [b01_t ⟨k, hk1, by omega, b01_n.mp c16⟩], rfl⟩ (by omega) (by omega)
  refine k_iconst S dX7_isTypedEarlier_0 ?_
  refine k_istore_n S dX7_isTypedEarlier_1 (by decide) ?_
  exact loop (max n2 1 - 1) 1 (by omega) (by omega) (fun e q1 q2 => by omega)
