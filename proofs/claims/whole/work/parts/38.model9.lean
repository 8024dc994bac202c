/-! the model as it is made: the arrays laid so far -/
def PM (h0 h : GH) (mo : Nat) (fs : List GV) (l : List (Nat × Nat × Nat)) : Prop := h mo = some (gObj 8 fs) ∧ (∀ e ∈ l, h e.1 = some (gArr e.2.1 e.2.2 (fun _ => 0)) ∧ h0 e.1 = none ∧ e.1 ≠ mo) ∧ (l.map Prod.fst).Nodup ∧ keeps h0 h (fun q => q = mo)
theorem PM.step {h0 h : GH} {mo q t n : Nat} {fs fs1 : List GV} {l : List (Nat × Nat × Nat)} (hP : PM h0 h mo fs l) (hq : h q = none) : PM h0 (hput (hput h q (gArr t n (fun _ => 0))) mo (gObj 8 fs1)) mo fs1 (l ++ [(q, t, n)]) := by
  obtain ⟨g1, g2, g3, g4⟩ := hP
  have e1 : q ≠ mo := (ne_fr g1 hq).symm
  refine ⟨hput_s _ _ _, fun e he => ?_, ?_, g4.tr ((keeps.put (Or.inr hq)).tr (keeps.put (Or.inl rfl)))⟩
  · rcases List.mem_append.mp he with he | he
    · obtain ⟨z1, z2, z3⟩ := g2 e he
      refine ⟨?_, z2, z3⟩
      rw [hput_n _ _ z3, hput_n _ _ (ne_fr z1 hq)]
      exact z1
    · rcases List.mem_singleton.mp he with rfl
      refine ⟨?_, g4.no hq e1, e1⟩
      dsimp only
      rw [hput_n _ _ e1, hput_s]
  · rw [List.map_append, List.nodup_append]
    refine ⟨g3, by simp, fun a ha b hb => ?_⟩
    obtain ⟨e, he, rfl⟩ := List.mem_map.mp ha
    simp only [List.map_cons, List.map_nil, List.mem_singleton] at hb
    subst hb
    exact ne_fr (g2 e he).1 hq
theorem PM.put {h0 h : GH} {mo : Nat} {fs fs1 : List GV} {l : List (Nat × Nat × Nat)} (hP : PM h0 h mo fs l) : PM h0 (hput h mo (gObj 8 fs1)) mo fs1 l := by
  obtain ⟨g1, g2, g3, g4⟩ := hP
  refine ⟨hput_s _ _ _, fun e he => ?_, g3, g4.tr (keeps.put (Or.inl rfl))⟩
  obtain ⟨z1, z2, z3⟩ := g2 e he
  exact ⟨by rw [hput_n _ _ z3]; exact z1, z2, z3⟩
theorem PM.ob {h0 h : GH} {mo q t n : Nat} {fs : List GV} {l : List (Nat × Nat × Nat)} (hP : PM h0 h mo fs l) (hq : h q = none) : hput h q (gArr t n (fun _ => 0)) mo = some (gObj 8 fs) := by
  rw [hput_n _ _ (ne_fr hP.1 hq)]
  exact hP.1
/-- ShorthandRulesModel() -/
theorem m_init (D : DD) {h : GH} {mo : Nat} (ho : h mo = some (gObj 8 [gI 0, gI 0, gI 0, gI 0, gI 0, gI 0, gI 0, gI 0, gI 0, gI 0, gI 0, gI 0, gI 0, gI 0, gL 0, gI 0, gR none, gR none, gR none, gR none, gR none, gR none, gR none, gR none, gR none, gR none, gR none, gR none, gR none, gR none, gR none])) : GMet D yX8_init cX8_init 1 none [] 1 15 3000 [gR (some mo)] h (pv (fun h1 => ∃ am : Nat → Nat, IsM h1 h1 mo am [gI 0, gI 0, gI 99, gI 0, gI 0, gI 0, gI 0, gI 0, gI 0, gI 0, gI 0, gI 0, gI 0, gI 0, gL 0, gI 0] (List.replicate 15 (fun _ => 0)) ∧ (∀ j, j < 15 → h (am j) = none) ∧ keeps h h1 (fun q => q = mo))) := by
  refine GMet.intro RX8 rfl (by decide) (gcats rfl) (Nat.le_of_ble_eq_true rfl) fun K KX S => ?_
  show K 0 [some _] [] _ 0 0
  have P0 : PM h h mo [gI 0, gI 0, gI 0, gI 0, gI 0, gI 0, gI 0, gI 0, gI 0, gI 0, gI 0, gI 0, gI 0, gI 0, gL 0, gI 0, gR none, gR none, gR none, gR none, gR none, gR none, gR none, gR none, gR none, gR none, gR none, gR none, gR none, gR none, gR none] [] := ⟨ho, fun e he => absurd he (List.not_mem_nil), List.nodup_nil, keeps.rf⟩
  refine k_aload_n S dX8_init_0 rfl ?_
  refine k_objInit S dX8_init_1 ml_X8_1 mo_inst mo_code (by decide) ?_ (Nat.le_of_ble_eq_true rfl)
  refine k_aload_n S dX8_init_4 rfl ?_
  refine k_bipush S dX8_init_5 ?_
  refine k_putf S dX8_init_7 f_X8_7 P0.1 (gfit_int _) (Nat.le_of_ble_eq_true rfl) ?_
  have Q : ∃ hx : GH, hx = hput h mo (gObj 8 [gI 0, gI 0, gI 99, gI 0, gI 0, gI 0, gI 0, gI 0, gI 0, gI 0, gI 0, gI 0, gI 0, gI 0, gL 0, gI 0, gR none, gR none, gR none, gR none, gR none, gR none, gR none, gR none, gR none, gR none, gR none, gR none, gR none, gR none, gR none]) ∧ PM h hx mo [gI 0, gI 0, gI 99, gI 0, gI 0, gI 0, gI 0, gI 0, gI 0, gI 0, gI 0, gI 0, gI 0, gI 0, gL 0, gI 0, gR none, gR none, gR none, gR none, gR none, gR none, gR none, gR none, gR none, gR none, gR none, gR none, gR none, gR none, gR none] [] := ⟨_, rfl, P0.put⟩
  obtain ⟨h7, e7, Q7⟩ := Q
  show K 10 _ [] (hput h mo (gObj 8 [gI 0, gI 0, gI 99, gI 0, gI 0, gI 0, gI 0, gI 0, gI 0, gI 0, gI 0, gI 0, gI 0, gI 0, gL 0, gI 0, gR none, gR none, gR none, gR none, gR none, gR none, gR none, gR none, gR none, gR none, gR none, gR none, gR none, gR none, gR none])) 0 0
  rw [← e7]
  refine k_aload_n S dX8_init_10 rfl ?_
  refine k_bipush S dX8_init_11 ?_
  refine k_newa_c S dX8_init_13 (by omega) ac_char (by omega) (by omega) (fun q13 n13 l13 => ?_)
  refine k_putF S rfl dX8_init_15 ff_X8_13 (Q7.ob n13) (gfit_arr _ _) (Nat.le_of_ble_eq_true rfl) ?_
  have Q : ∃ hx : GH, hx = hput (hput h7 q13 (gArr 1 48 (fun _ => 0))) mo (gObj 8 [gI 0, gI 0, gI 99, gI 0, gI 0, gI 0, gI 0, gI 0, gI 0, gI 0, gI 0, gI 0, gI 0, gI 0, gL 0, gI 0, gR (some q13), gR none, gR none, gR none, gR none, gR none, gR none, gR none, gR none, gR none, gR none, gR none, gR none, gR none, gR none]) ∧ PM h hx mo [gI 0, gI 0, gI 99, gI 0, gI 0, gI 0, gI 0, gI 0, gI 0, gI 0, gI 0, gI 0, gI 0, gI 0, gL 0, gI 0, gR (some q13), gR none, gR none, gR none, gR none, gR none, gR none, gR none, gR none, gR none, gR none, gR none, gR none, gR none, gR none] [(q13, 1, 48)] := ⟨_, rfl, Q7.step n13⟩
  obtain ⟨h15, e15, Q15⟩ := Q
  show K 18 _ [] (hput (hput h7 q13 (gArr 1 48 (fun _ => 0))) mo (gObj 8 [gI 0, gI 0, gI 99, gI 0, gI 0, gI 0, gI 0, gI 0, gI 0, gI 0, gI 0, gI 0, gI 0, gI 0, gL 0, gI 0, gR (some q13), gR none, gR none, gR none, gR none, gR none, gR none, gR none, gR none, gR none, gR none, gR none, gR none, gR none, gR none])) _ _
  rw [← e15]
  refine k_aload_n S dX8_init_18 rfl ?_
  refine k_bipush S dX8_init_19 ?_
  refine k_newa_c S dX8_init_21 (by omega) ac_char (by omega) (by omega) (fun q21 n21 l21 => ?_)
  refine k_putF S rfl dX8_init_23 ff_X8_17 (Q15.ob n21) (gfit_arr _ _) (Nat.le_of_ble_eq_true rfl) ?_
  have Q : ∃ hx : GH, hx = hput (hput h15 q21 (gArr 1 96 (fun _ => 0))) mo (gObj 8 [gI 0, gI 0, gI 99, gI 0, gI 0, gI 0, gI 0, gI 0, gI 0, gI 0, gI 0, gI 0, gI 0, gI 0, gL 0, gI 0, gR (some q13), gR (some q21), gR none, gR none, gR none, gR none, gR none, gR none, gR none, gR none, gR none, gR none, gR none, gR none, gR none]) ∧ PM h hx mo [gI 0, gI 0, gI 99, gI 0, gI 0, gI 0, gI 0, gI 0, gI 0, gI 0, gI 0, gI 0, gI 0, gI 0, gL 0, gI 0, gR (some q13), gR (some q21), gR none, gR none, gR none, gR none, gR none, gR none, gR none, gR none, gR none, gR none, gR none, gR none, gR none] [(q13, 1, 48), (q21, 1, 96)] := ⟨_, rfl, Q15.step n21⟩
  obtain ⟨h23, e23, Q23⟩ := Q
  show K 26 _ [] (hput (hput h15 q21 (gArr 1 96 (fun _ => 0))) mo (gObj 8 [gI 0, gI 0, gI 99, gI 0, gI 0, gI 0, gI 0, gI 0, gI 0, gI 0, gI 0, gI 0, gI 0, gI 0, gL 0, gI 0, gR (some q13), gR (some q21), gR none, gR none, gR none, gR none, gR none, gR none, gR none, gR none, gR none, gR none, gR none, gR none, gR none])) _ _
  rw [← e23]
  refine k_aload_n S dX8_init_26 rfl ?_
  refine k_bipush S dX8_init_27 ?_
  refine k_newa_c S dX8_init_29 (by omega) ac_char (by omega) (by omega) (fun q29 n29 l29 => ?_)
  refine k_putF S rfl dX8_init_31 ff_X8_20 (Q23.ob n29) (gfit_arr _ _) (Nat.le_of_ble_eq_true rfl) ?_
  have Q : ∃ hx : GH, hx = hput (hput h23 q29 (gArr 1 81 (fun _ => 0))) mo (gObj 8 [gI 0, gI 0, gI 99, gI 0, gI 0, gI 0, gI 0, gI 0, gI 0, gI 0, gI 0, gI 0, gI 0, gI 0, gL 0, gI 0, gR (some q13), gR (some q21), gR (some q29), gR none, gR none, gR none, gR none, gR none, gR none, gR none, gR none, gR none, gR none, gR none, gR none]) ∧ PM h hx mo [gI 0, gI 0, gI 99, gI 0, gI 0, gI 0, gI 0, gI 0, gI 0, gI 0, gI 0, gI 0, gI 0, gI 0, gL 0, gI 0, gR (some q13), gR (some q21), gR (some q29), gR none, gR none, gR none, gR none, gR none, gR none, gR none, gR none, gR none, gR none, gR none, gR none] [(q13, 1, 48), (q21, 1, 96), (q29, 1, 81)] := ⟨_, rfl, Q23.step n29⟩
  obtain ⟨h31, e31, Q31⟩ := Q
  show K 34 _ [] (hput (hput h23 q29 (gArr 1 81 (fun _ => 0))) mo (gObj 8 [gI 0, gI 0, gI 99, gI 0, gI 0, gI 0, gI 0, gI 0, gI 0, gI 0, gI 0, gI 0, gI 0, gI 0, gL 0, gI 0, gR (some q13), gR (some q21), gR (some q29), gR none, gR none, gR none, gR none, gR none, gR none, gR none, gR none, gR none, gR none, gR none, gR none])) _ _
  rw [← e31]
  refine k_aload_n S dX8_init_34 rfl ?_
  refine k_bipush S dX8_init_35 ?_
  refine k_newa_c S dX8_init_37 (by omega) ac_char (by omega) (by omega) (fun q37 n37 l37 => ?_)
  refine k_putF S rfl dX8_init_39 ff_X8_23 (Q31.ob n37) (gfit_arr _ _) (Nat.le_of_ble_eq_true rfl) ?_
  have Q : ∃ hx : GH, hx = hput (hput h31 q37 (gArr 1 81 (fun _ => 0))) mo (gObj 8 [gI 0, gI 0, gI 99, gI 0, gI 0, gI 0, gI 0, gI 0, gI 0, gI 0, gI 0, gI 0, gI 0, gI 0, gL 0, gI 0, gR (some q13), gR (some q21), gR (some q29), gR (some q37), gR none, gR none, gR none, gR none, gR none, gR none, gR none, gR none, gR none, gR none, gR none]) ∧ PM h hx mo [gI 0, gI 0, gI 99, gI 0, gI 0, gI 0, gI 0, gI 0, gI 0, gI 0, gI 0, gI 0, gI 0, gI 0, gL 0, gI 0, gR (some q13), gR (some q21), gR (some q29), gR (some q37), gR none, gR none, gR none, gR none, gR none, gR none, gR none, gR none, gR none, gR none, gR none] [(q13, 1, 48), (q21, 1, 96), (q29, 1, 81), (q37, 1, 81)] := ⟨_, rfl, Q31.step n37⟩
  obtain ⟨h39, e39, Q39⟩ := Q
  show K 42 _ [] (hput (hput h31 q37 (gArr 1 81 (fun _ => 0))) mo (gObj 8 [gI 0, gI 0, gI 99, gI 0, gI 0, gI 0, gI 0, gI 0, gI 0, gI 0, gI 0, gI 0, gI 0, gI 0, gL 0, gI 0, gR (some q13), gR (some q21), gR (some q29), gR (some q37), gR none, gR none, gR none, gR none, gR none, gR none, gR none, gR none, gR none, gR none, gR none])) _ _
  rw [← e39]
  refine k_aload_n S dX8_init_42 rfl ?_
  refine k_sipush S dX8_init_43 ?_
  refine k_newa_c S dX8_init_46 (by omega) ac_char (by omega) (by omega) (fun q46 n46 l46 => ?_)
  refine k_putF S rfl dX8_init_48 ff_X8_26 (Q39.ob n46) (gfit_arr _ _) (Nat.le_of_ble_eq_true rfl) ?_
  have Q : ∃ hx : GH, hx = hput (hput h39 q46 (gArr 1 400 (fun _ => 0))) mo (gObj 8 [gI 0, gI 0, gI 99, gI 0, gI 0, gI 0, gI 0, gI 0, gI 0, gI 0, gI 0, gI 0, gI 0, gI 0, gL 0, gI 0, gR (some q13), gR (some q21), gR (some q29), gR (some q37), gR (some q46), gR none, gR none, gR none, gR none, gR none, gR none, gR none, gR none, gR none, gR none]) ∧ PM h hx mo [gI 0, gI 0, gI 99, gI 0, gI 0, gI 0, gI 0, gI 0, gI 0, gI 0, gI 0, gI 0, gI 0, gI 0, gL 0, gI 0, gR (some q13), gR (some q21), gR (some q29), gR (some q37), gR (some q46), gR none, gR none, gR none, gR none, gR none, gR none, gR none, gR none, gR none, gR none] [(q13, 1, 48), (q21, 1, 96), (q29, 1, 81), (q37, 1, 81), (q46, 1, 400)] := ⟨_, rfl, Q39.step n46⟩
  obtain ⟨h48, e48, Q48⟩ := Q
  show K 51 _ [] (hput (hput h39 q46 (gArr 1 400 (fun _ => 0))) mo (gObj 8 [gI 0, gI 0, gI 99, gI 0, gI 0, gI 0, gI 0, gI 0, gI 0, gI 0, gI 0, gI 0, gI 0, gI 0, gL 0, gI 0, gR (some q13), gR (some q21), gR (some q29), gR (some q37), gR (some q46), gR none, gR none, gR none, gR none, gR none, gR none, gR none, gR none, gR none, gR none])) _ _
  rw [← e48]
  refine k_aload_n S dX8_init_51 rfl ?_
  refine k_bipush S dX8_init_52 ?_
  refine k_newa_i S dX8_init_54 (by omega) ac_int (by omega) (by omega) (fun q54 n54 l54 => ?_)
  refine k_putF S rfl dX8_init_56 ff_X8_29 (Q48.ob n54) (gfit_arr _ _) (Nat.le_of_ble_eq_true rfl) ?_
  have Q : ∃ hx : GH, hx = hput (hput h48 q54 (gArr 0 8 (fun _ => 0))) mo (gObj 8 [gI 0, gI 0, gI 99, gI 0, gI 0, gI 0, gI 0, gI 0, gI 0, gI 0, gI 0, gI 0, gI 0, gI 0, gL 0, gI 0, gR (some q13), gR (some q21), gR (some q29), gR (some q37), gR (some q46), gR (some q54), gR none, gR none, gR none, gR none, gR none, gR none, gR none, gR none, gR none]) ∧ PM h hx mo [gI 0, gI 0, gI 99, gI 0, gI 0, gI 0, gI 0, gI 0, gI 0, gI 0, gI 0, gI 0, gI 0, gI 0, gL 0, gI 0, gR (some q13), gR (some q21), gR (some q29), gR (some q37), gR (some q46), gR (some q54), gR none, gR none, gR none, gR none, gR none, gR none, gR none, gR none, gR none] [(q13, 1, 48), (q21, 1, 96), (q29, 1, 81), (q37, 1, 81), (q46, 1, 400), (q54, 0, 8)] := ⟨_, rfl, Q48.step n54⟩
  obtain ⟨h56, e56, Q56⟩ := Q
  show K 59 _ [] (hput (hput h48 q54 (gArr 0 8 (fun _ => 0))) mo (gObj 8 [gI 0, gI 0, gI 99, gI 0, gI 0, gI 0, gI 0, gI 0, gI 0, gI 0, gI 0, gI 0, gI 0, gI 0, gL 0, gI 0, gR (some q13), gR (some q21), gR (some q29), gR (some q37), gR (some q46), gR (some q54), gR none, gR none, gR none, gR none, gR none, gR none, gR none, gR none, gR none])) _ _
  rw [← e56]
  refine k_aload_n S dX8_init_59 rfl ?_
  refine k_bipush S dX8_init_60 ?_
  refine k_newa_i S dX8_init_62 (by omega) ac_int (by omega) (by omega) (fun q62 n62 l62 => ?_)
  refine k_putF S rfl dX8_init_64 ff_X8_33 (Q56.ob n62) (gfit_arr _ _) (Nat.le_of_ble_eq_true rfl) ?_
  have Q : ∃ hx : GH, hx = hput (hput h56 q62 (gArr 0 8 (fun _ => 0))) mo (gObj 8 [gI 0, gI 0, gI 99, gI 0, gI 0, gI 0, gI 0, gI 0, gI 0, gI 0, gI 0, gI 0, gI 0, gI 0, gL 0, gI 0, gR (some q13), gR (some q21), gR (some q29), gR (some q37), gR (some q46), gR (some q54), gR (some q62), gR none, gR none, gR none, gR none, gR none, gR none, gR none, gR none]) ∧ PM h hx mo [gI 0, gI 0, gI 99, gI 0, gI 0, gI 0, gI 0, gI 0, gI 0, gI 0, gI 0, gI 0, gI 0, gI 0, gL 0, gI 0, gR (some q13), gR (some q21), gR (some q29), gR (some q37), gR (some q46), gR (some q54), gR (some q62), gR none, gR none, gR none, gR none, gR none, gR none, gR none, gR none] [(q13, 1, 48), (q21, 1, 96), (q29, 1, 81), (q37, 1, 81), (q46, 1, 400), (q54, 0, 8), (q62, 0, 8)] := ⟨_, rfl, Q56.step n62⟩
  obtain ⟨h64, e64, Q64⟩ := Q
  show K 67 _ [] (hput (hput h56 q62 (gArr 0 8 (fun _ => 0))) mo (gObj 8 [gI 0, gI 0, gI 99, gI 0, gI 0, gI 0, gI 0, gI 0, gI 0, gI 0, gI 0, gI 0, gI 0, gI 0, gL 0, gI 0, gR (some q13), gR (some q21), gR (some q29), gR (some q37), gR (some q46), gR (some q54), gR (some q62), gR none, gR none, gR none, gR none, gR none, gR none, gR none, gR none])) _ _
  rw [← e64]
  refine k_aload_n S dX8_init_67 rfl ?_
  refine k_bipush S dX8_init_68 ?_
  refine k_newa_i S dX8_init_70 (by omega) ac_int (by omega) (by omega) (fun q70 n70 l70 => ?_)
  refine k_putF S rfl dX8_init_72 ff_X8_36 (Q64.ob n70) (gfit_arr _ _) (Nat.le_of_ble_eq_true rfl) ?_
  have Q : ∃ hx : GH, hx = hput (hput h64 q70 (gArr 0 96 (fun _ => 0))) mo (gObj 8 [gI 0, gI 0, gI 99, gI 0, gI 0, gI 0, gI 0, gI 0, gI 0, gI 0, gI 0, gI 0, gI 0, gI 0, gL 0, gI 0, gR (some q13), gR (some q21), gR (some q29), gR (some q37), gR (some q46), gR (some q54), gR (some q62), gR (some q70), gR none, gR none, gR none, gR none, gR none, gR none, gR none]) ∧ PM h hx mo [gI 0, gI 0, gI 99, gI 0, gI 0, gI 0, gI 0, gI 0, gI 0, gI 0, gI 0, gI 0, gI 0, gI 0, gL 0, gI 0, gR (some q13), gR (some q21), gR (some q29), gR (some q37), gR (some q46), gR (some q54), gR (some q62), gR (some q70), gR none, gR none, gR none, gR none, gR none, gR none, gR none] [(q13, 1, 48), (q21, 1, 96), (q29, 1, 81), (q37, 1, 81), (q46, 1, 400), (q54, 0, 8), (q62, 0, 8), (q70, 0, 96)] := ⟨_, rfl, Q64.step n70⟩
  obtain ⟨h72, e72, Q72⟩ := Q
  show K 75 _ [] (hput (hput h64 q70 (gArr 0 96 (fun _ => 0))) mo (gObj 8 [gI 0, gI 0, gI 99, gI 0, gI 0, gI 0, gI 0, gI 0, gI 0, gI 0, gI 0, gI 0, gI 0, gI 0, gL 0, gI 0, gR (some q13), gR (some q21), gR (some q29), gR (some q37), gR (some q46), gR (some q54), gR (some q62), gR (some q70), gR none, gR none, gR none, gR none, gR none, gR none, gR none])) _ _
  rw [← e72]
  refine k_aload_n S dX8_init_75 rfl ?_
  refine k_bipush S dX8_init_76 ?_
  refine k_newa_i S dX8_init_78 (by omega) ac_int (by omega) (by omega) (fun q78 n78 l78 => ?_)
  refine k_putF S rfl dX8_init_80 ff_X8_39 (Q72.ob n78) (gfit_arr _ _) (Nat.le_of_ble_eq_true rfl) ?_
  have Q : ∃ hx : GH, hx = hput (hput h72 q78 (gArr 0 96 (fun _ => 0))) mo (gObj 8 [gI 0, gI 0, gI 99, gI 0, gI 0, gI 0, gI 0, gI 0, gI 0, gI 0, gI 0, gI 0, gI 0, gI 0, gL 0, gI 0, gR (some q13), gR (some q21), gR (some q29), gR (some q37), gR (some q46), gR (some q54), gR (some q62), gR (some q70), gR (some q78), gR none, gR none, gR none, gR none, gR none, gR none]) ∧ PM h hx mo [gI 0, gI 0, gI 99, gI 0, gI 0, gI 0, gI 0, gI 0, gI 0, gI 0, gI 0, gI 0, gI 0, gI 0, gL 0, gI 0, gR (some q13), gR (some q21), gR (some q29), gR (some q37), gR (some q46), gR (some q54), gR (some q62), gR (some q70), gR (some q78), gR none, gR none, gR none, gR none, gR none, gR none] [(q13, 1, 48), (q21, 1, 96), (q29, 1, 81), (q37, 1, 81), (q46, 1, 400), (q54, 0, 8), (q62, 0, 8), (q70, 0, 96), (q78, 0, 96)] := ⟨_, rfl, Q72.step n78⟩
  obtain ⟨h80, e80, Q80⟩ := Q
  show K 83 _ [] (hput (hput h72 q78 (gArr 0 96 (fun _ => 0))) mo (gObj 8 [gI 0, gI 0, gI 99, gI 0, gI 0, gI 0, gI 0, gI 0, gI 0, gI 0, gI 0, gI 0, gI 0, gI 0, gL 0, gI 0, gR (some q13), gR (some q21), gR (some q29), gR (some q37), gR (some q46), gR (some q54), gR (some q62), gR (some q70), gR (some q78), gR none, gR none, gR none, gR none, gR none, gR none])) _ _
  rw [← e80]
  refine k_aload_n S dX8_init_83 rfl ?_
  refine k_sipush S dX8_init_84 ?_
  refine k_newa_i S dX8_init_87 (by omega) ac_int (by omega) (by omega) (fun q87 n87 l87 => ?_)
  refine k_putF S rfl dX8_init_89 ff_X8_42 (Q80.ob n87) (gfit_arr _ _) (Nat.le_of_ble_eq_true rfl) ?_
  have Q : ∃ hx : GH, hx = hput (hput h80 q87 (gArr 0 400 (fun _ => 0))) mo (gObj 8 [gI 0, gI 0, gI 99, gI 0, gI 0, gI 0, gI 0, gI 0, gI 0, gI 0, gI 0, gI 0, gI 0, gI 0, gL 0, gI 0, gR (some q13), gR (some q21), gR (some q29), gR (some q37), gR (some q46), gR (some q54), gR (some q62), gR (some q70), gR (some q78), gR (some q87), gR none, gR none, gR none, gR none, gR none]) ∧ PM h hx mo [gI 0, gI 0, gI 99, gI 0, gI 0, gI 0, gI 0, gI 0, gI 0, gI 0, gI 0, gI 0, gI 0, gI 0, gL 0, gI 0, gR (some q13), gR (some q21), gR (some q29), gR (some q37), gR (some q46), gR (some q54), gR (some q62), gR (some q70), gR (some q78), gR (some q87), gR none, gR none, gR none, gR none, gR none] [(q13, 1, 48), (q21, 1, 96), (q29, 1, 81), (q37, 1, 81), (q46, 1, 400), (q54, 0, 8), (q62, 0, 8), (q70, 0, 96), (q78, 0, 96), (q87, 0, 400)] := ⟨_, rfl, Q80.step n87⟩
  obtain ⟨h89, e89, Q89⟩ := Q
  show K 92 _ [] (hput (hput h80 q87 (gArr 0 400 (fun _ => 0))) mo (gObj 8 [gI 0, gI 0, gI 99, gI 0, gI 0, gI 0, gI 0, gI 0, gI 0, gI 0, gI 0, gI 0, gI 0, gI 0, gL 0, gI 0, gR (some q13), gR (some q21), gR (some q29), gR (some q37), gR (some q46), gR (some q54), gR (some q62), gR (some q70), gR (some q78), gR (some q87), gR none, gR none, gR none, gR none, gR none])) _ _
  rw [← e89]
  refine k_aload_n S dX8_init_92 rfl ?_
  refine k_sipush S dX8_init_93 ?_
  refine k_newa_i S dX8_init_96 (by omega) ac_int (by omega) (by omega) (fun q96 n96 l96 => ?_)
  refine k_putF S rfl dX8_init_98 ff_X8_45 (Q89.ob n96) (gfit_arr _ _) (Nat.le_of_ble_eq_true rfl) ?_
  have Q : ∃ hx : GH, hx = hput (hput h89 q96 (gArr 0 400 (fun _ => 0))) mo (gObj 8 [gI 0, gI 0, gI 99, gI 0, gI 0, gI 0, gI 0, gI 0, gI 0, gI 0, gI 0, gI 0, gI 0, gI 0, gL 0, gI 0, gR (some q13), gR (some q21), gR (some q29), gR (some q37), gR (some q46), gR (some q54), gR (some q62), gR (some q70), gR (some q78), gR (some q87), gR (some q96), gR none, gR none, gR none, gR none]) ∧ PM h hx mo [gI 0, gI 0, gI 99, gI 0, gI 0, gI 0, gI 0, gI 0, gI 0, gI 0, gI 0, gI 0, gI 0, gI 0, gL 0, gI 0, gR (some q13), gR (some q21), gR (some q29), gR (some q37), gR (some q46), gR (some q54), gR (some q62), gR (some q70), gR (some q78), gR (some q87), gR (some q96), gR none, gR none, gR none, gR none] [(q13, 1, 48), (q21, 1, 96), (q29, 1, 81), (q37, 1, 81), (q46, 1, 400), (q54, 0, 8), (q62, 0, 8), (q70, 0, 96), (q78, 0, 96), (q87, 0, 400), (q96, 0, 400)] := ⟨_, rfl, Q89.step n96⟩
  obtain ⟨h98, e98, Q98⟩ := Q
  show K 101 _ [] (hput (hput h89 q96 (gArr 0 400 (fun _ => 0))) mo (gObj 8 [gI 0, gI 0, gI 99, gI 0, gI 0, gI 0, gI 0, gI 0, gI 0, gI 0, gI 0, gI 0, gI 0, gI 0, gL 0, gI 0, gR (some q13), gR (some q21), gR (some q29), gR (some q37), gR (some q46), gR (some q54), gR (some q62), gR (some q70), gR (some q78), gR (some q87), gR (some q96), gR none, gR none, gR none, gR none])) _ _
  rw [← e98]
  refine k_aload_n S dX8_init_101 rfl ?_
  refine k_sipush S dX8_init_102 ?_
  refine k_newa_i S dX8_init_105 (by omega) ac_int (by omega) (by omega) (fun q105 n105 l105 => ?_)
  refine k_putF S rfl dX8_init_107 ff_X8_48 (Q98.ob n105) (gfit_arr _ _) (Nat.le_of_ble_eq_true rfl) ?_
  have Q : ∃ hx : GH, hx = hput (hput h98 q105 (gArr 0 400 (fun _ => 0))) mo (gObj 8 [gI 0, gI 0, gI 99, gI 0, gI 0, gI 0, gI 0, gI 0, gI 0, gI 0, gI 0, gI 0, gI 0, gI 0, gL 0, gI 0, gR (some q13), gR (some q21), gR (some q29), gR (some q37), gR (some q46), gR (some q54), gR (some q62), gR (some q70), gR (some q78), gR (some q87), gR (some q96), gR (some q105), gR none, gR none, gR none]) ∧ PM h hx mo [gI 0, gI 0, gI 99, gI 0, gI 0, gI 0, gI 0, gI 0, gI 0, gI 0, gI 0, gI 0, gI 0, gI 0, gL 0, gI 0, gR (some q13), gR (some q21), gR (some q29), gR (some q37), gR (some q46), gR (some q54), gR (some q62), gR (some q70), gR (some q78), gR (some q87), gR (some q96), gR (some q105), gR none, gR none, gR none] [(q13, 1, 48), (q21, 1, 96), (q29, 1, 81), (q37, 1, 81), (q46, 1, 400), (q54, 0, 8), (q62, 0, 8), (q70, 0, 96), (q78, 0, 96), (q87, 0, 400), (q96, 0, 400), (q105, 0, 400)] := ⟨_, rfl, Q98.step n105⟩
  obtain ⟨h107, e107, Q107⟩ := Q
  show K 110 _ [] (hput (hput h98 q105 (gArr 0 400 (fun _ => 0))) mo (gObj 8 [gI 0, gI 0, gI 99, gI 0, gI 0, gI 0, gI 0, gI 0, gI 0, gI 0, gI 0, gI 0, gI 0, gI 0, gL 0, gI 0, gR (some q13), gR (some q21), gR (some q29), gR (some q37), gR (some q46), gR (some q54), gR (some q62), gR (some q70), gR (some q78), gR (some q87), gR (some q96), gR (some q105), gR none, gR none, gR none])) _ _
  rw [← e107]
  refine k_aload_n S dX8_init_110 rfl ?_
  refine k_bipush S dX8_init_111 ?_
  refine k_newa_z S dX8_init_113 (by omega) ac_boolean (by omega) (by omega) (fun q113 n113 l113 => ?_)
  refine k_putF S rfl dX8_init_115 ff_X8_51 (Q107.ob n113) (gfit_arr _ _) (Nat.le_of_ble_eq_true rfl) ?_
  have Q : ∃ hx : GH, hx = hput (hput h107 q113 (gArr 2 8 (fun _ => 0))) mo (gObj 8 [gI 0, gI 0, gI 99, gI 0, gI 0, gI 0, gI 0, gI 0, gI 0, gI 0, gI 0, gI 0, gI 0, gI 0, gL 0, gI 0, gR (some q13), gR (some q21), gR (some q29), gR (some q37), gR (some q46), gR (some q54), gR (some q62), gR (some q70), gR (some q78), gR (some q87), gR (some q96), gR (some q105), gR (some q113), gR none, gR none]) ∧ PM h hx mo [gI 0, gI 0, gI 99, gI 0, gI 0, gI 0, gI 0, gI 0, gI 0, gI 0, gI 0, gI 0, gI 0, gI 0, gL 0, gI 0, gR (some q13), gR (some q21), gR (some q29), gR (some q37), gR (some q46), gR (some q54), gR (some q62), gR (some q70), gR (some q78), gR (some q87), gR (some q96), gR (some q105), gR (some q113), gR none, gR none] [(q13, 1, 48), (q21, 1, 96), (q29, 1, 81), (q37, 1, 81), (q46, 1, 400), (q54, 0, 8), (q62, 0, 8), (q70, 0, 96), (q78, 0, 96), (q87, 0, 400), (q96, 0, 400), (q105, 0, 400), (q113, 2, 8)] := ⟨_, rfl, Q107.step n113⟩
  obtain ⟨h115, e115, Q115⟩ := Q
  show K 118 _ [] (hput (hput h107 q113 (gArr 2 8 (fun _ => 0))) mo (gObj 8 [gI 0, gI 0, gI 99, gI 0, gI 0, gI 0, gI 0, gI 0, gI 0, gI 0, gI 0, gI 0, gI 0, gI 0, gL 0, gI 0, gR (some q13), gR (some q21), gR (some q29), gR (some q37), gR (some q46), gR (some q54), gR (some q62), gR (some q70), gR (some q78), gR (some q87), gR (some q96), gR (some q105), gR (some q113), gR none, gR none])) _ _
  rw [← e115]
  refine k_aload_n S dX8_init_118 rfl ?_
  refine k_bipush S dX8_init_119 ?_
  refine k_newa_z S dX8_init_121 (by omega) ac_boolean (by omega) (by omega) (fun q121 n121 l121 => ?_)
  refine k_putF S rfl dX8_init_123 ff_X8_55 (Q115.ob n121) (gfit_arr _ _) (Nat.le_of_ble_eq_true rfl) ?_
  have Q : ∃ hx : GH, hx = hput (hput h115 q121 (gArr 2 8 (fun _ => 0))) mo (gObj 8 [gI 0, gI 0, gI 99, gI 0, gI 0, gI 0, gI 0, gI 0, gI 0, gI 0, gI 0, gI 0, gI 0, gI 0, gL 0, gI 0, gR (some q13), gR (some q21), gR (some q29), gR (some q37), gR (some q46), gR (some q54), gR (some q62), gR (some q70), gR (some q78), gR (some q87), gR (some q96), gR (some q105), gR (some q113), gR (some q121), gR none]) ∧ PM h hx mo [gI 0, gI 0, gI 99, gI 0, gI 0, gI 0, gI 0, gI 0, gI 0, gI 0, gI 0, gI 0, gI 0, gI 0, gL 0, gI 0, gR (some q13), gR (some q21), gR (some q29), gR (some q37), gR (some q46), gR (some q54), gR (some q62), gR (some q70), gR (some q78), gR (some q87), gR (some q96), gR (some q105), gR (some q113), gR (some q121), gR none] [(q13, 1, 48), (q21, 1, 96), (q29, 1, 81), (q37, 1, 81), (q46, 1, 400), (q54, 0, 8), (q62, 0, 8), (q70, 0, 96), (q78, 0, 96), (q87, 0, 400), (q96, 0, 400), (q105, 0, 400), (q113, 2, 8), (q121, 2, 8)] := ⟨_, rfl, Q115.step n121⟩
  obtain ⟨h123, e123, Q123⟩ := Q
  show K 126 _ [] (hput (hput h115 q121 (gArr 2 8 (fun _ => 0))) mo (gObj 8 [gI 0, gI 0, gI 99, gI 0, gI 0, gI 0, gI 0, gI 0, gI 0, gI 0, gI 0, gI 0, gI 0, gI 0, gL 0, gI 0, gR (some q13), gR (some q21), gR (some q29), gR (some q37), gR (some q46), gR (some q54), gR (some q62), gR (some q70), gR (some q78), gR (some q87), gR (some q96), gR (some q105), gR (some q113), gR (some q121), gR none])) _ _
  rw [← e123]
  refine k_aload_n S dX8_init_126 rfl ?_
  refine k_bipush S dX8_init_127 ?_
  refine k_newa_z S dX8_init_129 (by omega) ac_boolean (by omega) (by omega) (fun q129 n129 l129 => ?_)
  refine k_putF S rfl dX8_init_131 ff_X8_58 (Q123.ob n129) (gfit_arr _ _) (Nat.le_of_ble_eq_true rfl) ?_
  have Q : ∃ hx : GH, hx = hput (hput h123 q129 (gArr 2 8 (fun _ => 0))) mo (gObj 8 [gI 0, gI 0, gI 99, gI 0, gI 0, gI 0, gI 0, gI 0, gI 0, gI 0, gI 0, gI 0, gI 0, gI 0, gL 0, gI 0, gR (some q13), gR (some q21), gR (some q29), gR (some q37), gR (some q46), gR (some q54), gR (some q62), gR (some q70), gR (some q78), gR (some q87), gR (some q96), gR (some q105), gR (some q113), gR (some q121), gR (some q129)]) ∧ PM h hx mo [gI 0, gI 0, gI 99, gI 0, gI 0, gI 0, gI 0, gI 0, gI 0, gI 0, gI 0, gI 0, gI 0, gI 0, gL 0, gI 0, gR (some q13), gR (some q21), gR (some q29), gR (some q37), gR (some q46), gR (some q54), gR (some q62), gR (some q70), gR (some q78), gR (some q87), gR (some q96), gR (some q105), gR (some q113), gR (some q121), gR (some q129)] [(q13, 1, 48), (q21, 1, 96), (q29, 1, 81), (q37, 1, 81), (q46, 1, 400), (q54, 0, 8), (q62, 0, 8), (q70, 0, 96), (q78, 0, 96), (q87, 0, 400), (q96, 0, 400), (q105, 0, 400), (q113, 2, 8), (q121, 2, 8), (q129, 2, 8)] := ⟨_, rfl, Q123.step n129⟩
  obtain ⟨h131, e131, Q131⟩ := Q
  show K 134 _ [] (hput (hput h123 q129 (gArr 2 8 (fun _ => 0))) mo (gObj 8 [gI 0, gI 0, gI 99, gI 0, gI 0, gI 0, gI 0, gI 0, gI 0, gI 0, gI 0, gI 0, gI 0, gI 0, gL 0, gI 0, gR (some q13), gR (some q21), gR (some q29), gR (some q37), gR (some q46), gR (some q54), gR (some q62), gR (some q70), gR (some q78), gR (some q87), gR (some q96), gR (some q105), gR (some q113), gR (some q121), gR (some q129)])) _ _
  rw [← e131]
  refine k_return S dX8_init_134 ?_ (by omega) (by omega)
  obtain ⟨g1, g2, g3, g4⟩ := Q131
  have key : ∀ j, j < 15 → ([(q13, 1, 48), (q21, 1, 96), (q29, 1, 81), (q37, 1, 81), (q46, 1, 400), (q54, 0, 8), (q62, 0, 8), (q70, 0, 96), (q78, 0, 96), (q87, 0, 400), (q96, 0, 400), (q105, 0, 400), (q113, 2, 8), (q121, 2, 8), (q129, 2, 8)] : List (Nat × Nat × Nat))[j]? = some ([q13, q21, q29, q37, q46, q54, q62, q70, q78, q87, q96, q105, q113, q121, q129].getD j 0, (mtl.getD j (0, 0)).1, (mtl.getD j (0, 0)).2) ∧ mtl[j]? = some (mtl.getD j (0, 0)) ∧ (([(q13, 1, 48), (q21, 1, 96), (q29, 1, 81), (q37, 1, 81), (q46, 1, 400), (q54, 0, 8), (q62, 0, 8), (q70, 0, 96), (q78, 0, 96), (q87, 0, 400), (q96, 0, 400), (q105, 0, 400), (q113, 2, 8), (q121, 2, 8), (q129, 2, 8)] : List (Nat × Nat × Nat)).map Prod.fst)[j]? = some ([q13, q21, q29, q37, q46, q54, q62, q70, q78, q87, q96, q105, q113, q121, q129].getD j 0) := fun j hj => by
    match j, hj with
    | 0, _ => exact ⟨rfl, rfl, rfl⟩
    | 1, _ => exact ⟨rfl, rfl, rfl⟩
    | 2, _ => exact ⟨rfl, rfl, rfl⟩
    | 3, _ => exact ⟨rfl, rfl, rfl⟩
    | 4, _ => exact ⟨rfl, rfl, rfl⟩
    | 5, _ => exact ⟨rfl, rfl, rfl⟩
    | 6, _ => exact ⟨rfl, rfl, rfl⟩
    | 7, _ => exact ⟨rfl, rfl, rfl⟩
    | 8, _ => exact ⟨rfl, rfl, rfl⟩
    | 9, _ => exact ⟨rfl, rfl, rfl⟩
    | 10, _ => exact ⟨rfl, rfl, rfl⟩
    | 11, _ => exact ⟨rfl, rfl, rfl⟩
    | 12, _ => exact ⟨rfl, rfl, rfl⟩
    | 13, _ => exact ⟨rfl, rfl, rfl⟩
    | 14, _ => exact ⟨rfl, rfl, rfl⟩
  refine ⟨rfl, fun j => [q13, q21, q29, q37, q46, q54, q62, q70, q78, q87, q96, q105, q113, q121, q129].getD j 0, ⟨g1, rfl, fun j t n f e1 e2 => ?_, fun i j hi hj e => ?_, fun j hj => ?_, keeps.rf⟩, fun j hj => ?_, g4⟩
  · have hj : j < 15 := (List.getElem?_eq_some_iff.mp e1).1
    obtain ⟨k1, k2, k3⟩ := key j hj
    rw [k2] at e1
    obtain ⟨z1, z2, z3⟩ := g2 _ (List.mem_of_getElem? k1)
    have ef : f = fun _ => 0 := by
      rw [List.getElem?_replicate, if_pos hj] at e2
      exact (Option.some.inj e2).symm
    have et := Option.some.inj e1
    rw [et] at z1
    rw [ef]
    exact z1
  · exact (List.getElem?_inj (by simp; omega) g3).mp ((key i hi).2.2.trans ((congrArg some e).trans (key j hj).2.2.symm))
  · exact (g2 _ (List.mem_of_getElem? (key j hj).1)).2.2
  · exact (g2 _ (List.mem_of_getElem? (key j hj).1)).2.1
