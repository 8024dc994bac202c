section
variable {D : DD} {h : GH} {x out dep mc ms : Nat} {fs : List GV} {P : GH → Prop} {v a1 a2 a3 : Int}
/-- addSnippet, with an answer -/
theorem w_addSnippet_g (hx : h x = some (gObj 7 fs)) (hv : inR v) (M : GMet D yX7_addSnippet cX7_addSnippet 2 (some .int) [] dep mc ms [gR (some x), gI a1] h (pr (gI v) P)) (ho : ∀ h1, P h1 → ∃ f, h1 out = some (gArrL 3 1 f)) : GMet D yL_addSnippet cL_addSnippet 4 (some .int) [(0, 9, 12, 13)] (dep + 1) mc ms [gR (some x), gI a1, gR (some out)] h (pr (gI 0) (fun h2 => ∃ (h1 : GH) (g : Nat → Int), P h1 ∧ g 0 = v ∧ h2 = hput h1 out (gArrL 3 1 g))) := by
  refine GMet.introH RL rfl (by decide) (gcats rfl) (Nat.le_of_ble_eq_true rfl) fun K KX S => ?_
  show K 0 [some _, some _, some _, none] [] _ 0 0
  unfold inR at hv
  refine k_aload_n S dL_addSnippet_0 rfl ?_
  refine k_iconst S dL_addSnippet_1 ?_
  refine k_aload_n S dL_addSnippet_2 rfl ?_
  refine k_iload_n S dL_addSnippet_3 rfl ?_
  refine k_callV_r S dL_addSnippet_4 v_L_7 M (by assumption) (fun h4 hp4 => ?_) rfl rfl (by omega) (by omega) (by omega) (Nat.le_of_ble_eq_true rfl)
  obtain ⟨f, hf⟩ := ho h4 hp4
  refine k_i2l S dL_addSnippet_7 (by omega) ?_
  refine k_lastore S dL_addSnippet_8 (by assumption) (by omega) ?_
  refine k_goto (tgt := 15) S dL_addSnippet_9 (by decide) ?_
  refine k_iconst S dL_addSnippet_15 ?_
  exact k_ireturn S dL_addSnippet_16 ⟨rfl, h4, _, hp4, gupd_s _ _ _, rfl⟩ (by omega) (by omega)
/-- addSnippet, a throw -/
theorem w_addSnippet_1 (hx : h x = some (gObj 7 fs)) (M : GMet D yX7_addSnippet cX7_addSnippet 2 (some .int) [] dep mc ms [gR (some x), gI a1] h (px "java/lang/IllegalStateException" P)) : GMet D yL_addSnippet cL_addSnippet 4 (some .int) [(0, 9, 12, 13)] (dep + 1) mc ms [gR (some x), gI a1, gR (some out)] h (pr (gI 1) P) := by
  refine GMet.introH RL rfl (by decide) (gcats rfl) (Nat.le_of_ble_eq_true rfl) fun K KX S => ?_
  show K 0 [some _, some _, some _, none] [] _ 0 0
  refine k_aload_n S dL_addSnippet_0 rfl ?_
  refine k_iconst S dL_addSnippet_1 ?_
  refine k_aload_n S dL_addSnippet_2 rfl ?_
  refine k_iload_n S dL_addSnippet_3 rfl ?_
  refine k_callV_x S dL_addSnippet_4 v_L_7 M (by assumption) (fun h4 hp4 => ?_) rfl rfl (by omega) (by omega) (by omega) (Nat.le_of_ble_eq_true rfl)
  refine k_catch S [] (0, 9, 12, 13) [] rfl (fun z hz => by cases hz) (by decide) (by decide) cl_L_13 ca_IllegalState_IllegalState (fun q9 => ?_)
  refine k_astore_n S dL_addSnippet_12 (by decide) ?_
  refine k_iconst S dL_addSnippet_13 ?_
  exact k_ireturn S dL_addSnippet_14 ⟨rfl, hp4⟩ (by omega) (by omega)
/-- addToTrigger, with an answer -/
theorem w_addToTrigger_g (hx : h x = some (gObj 7 fs)) (hv : inR v) (M : GMet D yX7_addToTrigger cX7_addToTrigger 4 (some .int) [] dep mc ms [gR (some x), gI a1, gI a2] h (pr (gI v) P)) (ho : ∀ h1, P h1 → ∃ f, h1 out = some (gArrL 3 1 f)) : GMet D yL_addToTrigger cL_addToTrigger 5 (some .int) [(0, 10, 13, 19), (0, 10, 17, 21), (0, 10, 21, 13)] (dep + 1) mc ms [gR (some x), gI a1, gI a2, gR (some out)] h (pr (gI 0) (fun h2 => ∃ (h1 : GH) (g : Nat → Int), P h1 ∧ g 0 = v ∧ h2 = hput h1 out (gArrL 3 1 g))) := by
  refine GMet.introH RL rfl (by decide) (gcats rfl) (Nat.le_of_ble_eq_true rfl) fun K KX S => ?_
  show K 0 [some _, some _, some _, some _, none] [] _ 0 0
  unfold inR at hv
  refine k_aload_n S dL_addToTrigger_0 rfl ?_
  refine k_iconst S dL_addToTrigger_1 ?_
  refine k_aload_n S dL_addToTrigger_2 rfl ?_
  refine k_iload_n S dL_addToTrigger_3 rfl ?_
  refine k_iload_n S dL_addToTrigger_4 rfl ?_
  refine k_callV_r S dL_addToTrigger_5 v_L_15 M (by assumption) (fun h5 hp5 => ?_) rfl rfl (by omega) (by omega) (by omega) (Nat.le_of_ble_eq_true rfl)
  obtain ⟨f, hf⟩ := ho h5 hp5
  refine k_i2l S dL_addToTrigger_8 (by omega) ?_
  refine k_lastore S dL_addToTrigger_9 (by assumption) (by omega) ?_
  refine k_goto (tgt := 25) S dL_addToTrigger_10 (by decide) ?_
  refine k_iconst S dL_addToTrigger_25 ?_
  exact k_ireturn S dL_addToTrigger_26 ⟨rfl, h5, _, hp5, gupd_s _ _ _, rfl⟩ (by omega) (by omega)
/-- addToTrigger, a throw -/
theorem w_addToTrigger_1 (hx : h x = some (gObj 7 fs)) (M : GMet D yX7_addToTrigger cX7_addToTrigger 4 (some .int) [] dep mc ms [gR (some x), gI a1, gI a2] h (px "java/lang/IndexOutOfBoundsException" P)) : GMet D yL_addToTrigger cL_addToTrigger 5 (some .int) [(0, 10, 13, 19), (0, 10, 17, 21), (0, 10, 21, 13)] (dep + 1) mc ms [gR (some x), gI a1, gI a2, gR (some out)] h (pr (gI 1) P) := by
  refine GMet.introH RL rfl (by decide) (gcats rfl) (Nat.le_of_ble_eq_true rfl) fun K KX S => ?_
  show K 0 [some _, some _, some _, some _, none] [] _ 0 0
  refine k_aload_n S dL_addToTrigger_0 rfl ?_
  refine k_iconst S dL_addToTrigger_1 ?_
  refine k_aload_n S dL_addToTrigger_2 rfl ?_
  refine k_iload_n S dL_addToTrigger_3 rfl ?_
  refine k_iload_n S dL_addToTrigger_4 rfl ?_
  refine k_callV_x S dL_addToTrigger_5 v_L_15 M (by assumption) (fun h5 hp5 => ?_) rfl rfl (by omega) (by omega) (by omega) (Nat.le_of_ble_eq_true rfl)
  refine k_catch S [] (0, 10, 13, 19) [(0, 10, 17, 21), (0, 10, 21, 13)] rfl (fun z hz => by cases hz) (by decide) (by decide) cl_L_19 ca_IndexOutOfBounds_IndexOutOfBounds (fun q9 => ?_)
  refine k_astore S dL_addToTrigger_13 (by decide) ?_
  refine k_iconst S dL_addToTrigger_15 ?_
  exact k_ireturn S dL_addToTrigger_16 ⟨rfl, hp5⟩ (by omega) (by omega)
/-- addToTrigger, a throw -/
theorem w_addToTrigger_2 (hx : h x = some (gObj 7 fs)) (M : GMet D yX7_addToTrigger cX7_addToTrigger 4 (some .int) [] dep mc ms [gR (some x), gI a1, gI a2] h (px "java/lang/IllegalArgumentException" P)) : GMet D yL_addToTrigger cL_addToTrigger 5 (some .int) [(0, 10, 13, 19), (0, 10, 17, 21), (0, 10, 21, 13)] (dep + 1) mc ms [gR (some x), gI a1, gI a2, gR (some out)] h (pr (gI 2) P) := by
  refine GMet.introH RL rfl (by decide) (gcats rfl) (Nat.le_of_ble_eq_true rfl) fun K KX S => ?_
  show K 0 [some _, some _, some _, some _, none] [] _ 0 0
  refine k_aload_n S dL_addToTrigger_0 rfl ?_
  refine k_iconst S dL_addToTrigger_1 ?_
  refine k_aload_n S dL_addToTrigger_2 rfl ?_
  refine k_iload_n S dL_addToTrigger_3 rfl ?_
  refine k_iload_n S dL_addToTrigger_4 rfl ?_
  refine k_callV_x S dL_addToTrigger_5 v_L_15 M (by assumption) (fun h5 hp5 => ?_) rfl rfl (by omega) (by omega) (by omega) (Nat.le_of_ble_eq_true rfl)
  refine k_catch S [(0, 10, 13, 19)] (0, 10, 17, 21) [(0, 10, 21, 13)] rfl (List.forall_mem_cons.mpr ⟨⟨by decide, "java/lang/IndexOutOfBoundsException", cl_L_19, by decide⟩, (fun _ h => absurd h List.not_mem_nil)⟩) (by decide) (by decide) cl_L_21 ca_IllegalArgument_IllegalArgument (fun q9 => ?_)
  refine k_astore S dL_addToTrigger_17 (by decide) ?_
  refine k_iconst S dL_addToTrigger_19 ?_
  exact k_ireturn S dL_addToTrigger_20 ⟨rfl, hp5⟩ (by omega) (by omega)
/-- addToTrigger, a throw -/
theorem w_addToTrigger_3 (hx : h x = some (gObj 7 fs)) (M : GMet D yX7_addToTrigger cX7_addToTrigger 4 (some .int) [] dep mc ms [gR (some x), gI a1, gI a2] h (px "java/lang/IllegalStateException" P)) : GMet D yL_addToTrigger cL_addToTrigger 5 (some .int) [(0, 10, 13, 19), (0, 10, 17, 21), (0, 10, 21, 13)] (dep + 1) mc ms [gR (some x), gI a1, gI a2, gR (some out)] h (pr (gI 3) P) := by
  refine GMet.introH RL rfl (by decide) (gcats rfl) (Nat.le_of_ble_eq_true rfl) fun K KX S => ?_
  show K 0 [some _, some _, some _, some _, none] [] _ 0 0
  refine k_aload_n S dL_addToTrigger_0 rfl ?_
  refine k_iconst S dL_addToTrigger_1 ?_
  refine k_aload_n S dL_addToTrigger_2 rfl ?_
  refine k_iload_n S dL_addToTrigger_3 rfl ?_
  refine k_iload_n S dL_addToTrigger_4 rfl ?_
  refine k_callV_x S dL_addToTrigger_5 v_L_15 M (by assumption) (fun h5 hp5 => ?_) rfl rfl (by omega) (by omega) (by omega) (Nat.le_of_ble_eq_true rfl)
  refine k_catch S [(0, 10, 13, 19), (0, 10, 17, 21)] (0, 10, 21, 13) [] rfl (List.forall_mem_cons.mpr ⟨⟨by decide, "java/lang/IndexOutOfBoundsException", cl_L_19, by decide⟩, (List.forall_mem_cons.mpr ⟨⟨by decide, "java/lang/IllegalArgumentException", cl_L_21, by decide⟩, (fun _ h => absurd h List.not_mem_nil)⟩)⟩) (by decide) (by decide) cl_L_13 ca_IllegalState_IllegalState (fun q9 => ?_)
  refine k_astore S dL_addToTrigger_21 (by decide) ?_
  refine k_iconst S dL_addToTrigger_23 ?_
  exact k_ireturn S dL_addToTrigger_24 ⟨rfl, hp5⟩ (by omega) (by omega)
/-- clearTrigger, with an answer -/
theorem w_clearTrigger_g (hx : h x = some (gObj 7 fs)) (hv : inR v) (M : GMet D yX7_clearTrigger cX7_clearTrigger 4 (some .int) [] dep mc ms [gR (some x), gI a1] h (pr (gI v) P)) (ho : ∀ h1, P h1 → ∃ f, h1 out = some (gArrL 3 1 f)) : GMet D yL_clearTrigger cL_clearTrigger 4 (some .int) [(0, 9, 12, 19)] (dep + 1) mc ms [gR (some x), gI a1, gR (some out)] h (pr (gI 0) (fun h2 => ∃ (h1 : GH) (g : Nat → Int), P h1 ∧ g 0 = v ∧ h2 = hput h1 out (gArrL 3 1 g))) := by
  refine GMet.introH RL rfl (by decide) (gcats rfl) (Nat.le_of_ble_eq_true rfl) fun K KX S => ?_
  show K 0 [some _, some _, some _, none] [] _ 0 0
  unfold inR at hv
  refine k_aload_n S dL_clearTrigger_0 rfl ?_
  refine k_iconst S dL_clearTrigger_1 ?_
  refine k_aload_n S dL_clearTrigger_2 rfl ?_
  refine k_iload_n S dL_clearTrigger_3 rfl ?_
  refine k_callV_r S dL_clearTrigger_4 v_L_23 M (by assumption) (fun h4 hp4 => ?_) rfl rfl (by omega) (by omega) (by omega) (Nat.le_of_ble_eq_true rfl)
  obtain ⟨f, hf⟩ := ho h4 hp4
  refine k_i2l S dL_clearTrigger_7 (by omega) ?_
  refine k_lastore S dL_clearTrigger_8 (by assumption) (by omega) ?_
  refine k_goto (tgt := 15) S dL_clearTrigger_9 (by decide) ?_
  refine k_iconst S dL_clearTrigger_15 ?_
  exact k_ireturn S dL_clearTrigger_16 ⟨rfl, h4, _, hp4, gupd_s _ _ _, rfl⟩ (by omega) (by omega)
/-- clearTrigger, a throw -/
theorem w_clearTrigger_1 (hx : h x = some (gObj 7 fs)) (M : GMet D yX7_clearTrigger cX7_clearTrigger 4 (some .int) [] dep mc ms [gR (some x), gI a1] h (px "java/lang/IndexOutOfBoundsException" P)) : GMet D yL_clearTrigger cL_clearTrigger 4 (some .int) [(0, 9, 12, 19)] (dep + 1) mc ms [gR (some x), gI a1, gR (some out)] h (pr (gI 1) P) := by
  refine GMet.introH RL rfl (by decide) (gcats rfl) (Nat.le_of_ble_eq_true rfl) fun K KX S => ?_
  show K 0 [some _, some _, some _, none] [] _ 0 0
  refine k_aload_n S dL_clearTrigger_0 rfl ?_
  refine k_iconst S dL_clearTrigger_1 ?_
  refine k_aload_n S dL_clearTrigger_2 rfl ?_
  refine k_iload_n S dL_clearTrigger_3 rfl ?_
  refine k_callV_x S dL_clearTrigger_4 v_L_23 M (by assumption) (fun h4 hp4 => ?_) rfl rfl (by omega) (by omega) (by omega) (Nat.le_of_ble_eq_true rfl)
  refine k_catch S [] (0, 9, 12, 19) [] rfl (fun z hz => by cases hz) (by decide) (by decide) cl_L_19 ca_IndexOutOfBounds_IndexOutOfBounds (fun q9 => ?_)
  refine k_astore_n S dL_clearTrigger_12 (by decide) ?_
  refine k_iconst S dL_clearTrigger_13 ?_
  exact k_ireturn S dL_clearTrigger_14 ⟨rfl, hp4⟩ (by omega) (by omega)
/-- setOn, with an answer -/
theorem w_setOn_g (hx : h x = some (gObj 7 fs)) (hv : v = 0 ∨ v = 1) (M : GMet D yX7_setOn cX7_setOn 5 (some .boolean) [] dep mc ms [gR (some x), gI a1, gI a2] h (pr (gI v) P)) (ho : ∀ h1, P h1 → ∃ f, h1 out = some (gArrL 3 1 f)) : GMet D yL_setOn cL_setOn 5 (some .int) [(0, 17, 20, 19)] (dep + 1) mc ms [gR (some x), gI a1, gI a2, gR (some out)] h (pr (gI 0) (fun h2 => ∃ (h1 : GH) (g : Nat → Int), P h1 ∧ g 0 = v ∧ h2 = hput h1 out (gArrL 3 1 g))) := by
  refine GMet.introH RL rfl (by decide) (gcats rfl) (Nat.le_of_ble_eq_true rfl) fun K KX S => ?_
  show K 0 [some _, some _, some _, some _, none] [] _ 0 0
  refine k_aload_n S dL_setOn_0 rfl ?_
  refine k_iconst S dL_setOn_1 ?_
  refine k_aload_n S dL_setOn_2 rfl ?_
  refine k_iload_n S dL_setOn_3 rfl ?_
  refine k_iload_n S dL_setOn_4 rfl ?_
  refine k_callV_r S dL_setOn_5 v_L_27 M (by assumption) (fun h5 hp5 => ?_) rfl rfl (by omega) (by omega) (by omega) (Nat.le_of_ble_eq_true rfl)
  obtain ⟨f, hf⟩ := ho h5 hp5
  refine k_if_eq (tgt := 15) S dL_setOn_8 (by decide) (by omega) (fun c8 => ?_) (fun c8 => ?_)
  · refine k_lconst S (v := 0) rfl dL_setOn_15 ?_
    refine k_lastore S dL_setOn_16 (by assumption) (by omega) ?_
    refine k_goto (tgt := 24) S dL_setOn_17 (by decide) ?_
    refine k_iconst S dL_setOn_24 ?_
    exact k_ireturn S dL_setOn_25 ⟨rfl, h5, _, hp5, (gupd_s _ _ _).trans (by omega), rfl⟩ (by omega) (by omega)
  · refine k_lconst S (v := 1) rfl dL_setOn_11 ?_
    refine k_goto (tgt := 16) S dL_setOn_12 (by decide) ?_
    refine k_lastore S dL_setOn_16 (by assumption) (by omega) ?_
    refine k_goto (tgt := 24) S dL_setOn_17 (by decide) ?_
    refine k_iconst S dL_setOn_24 ?_
    exact k_ireturn S dL_setOn_25 ⟨rfl, h5, _, hp5, (gupd_s _ _ _).trans (by omega), rfl⟩ (by omega) (by omega)
/-- setOn, a throw -/
theorem w_setOn_1 (hx : h x = some (gObj 7 fs)) (M : GMet D yX7_setOn cX7_setOn 5 (some .boolean) [] dep mc ms [gR (some x), gI a1, gI a2] h (px "java/lang/IndexOutOfBoundsException" P)) : GMet D yL_setOn cL_setOn 5 (some .int) [(0, 17, 20, 19)] (dep + 1) mc ms [gR (some x), gI a1, gI a2, gR (some out)] h (pr (gI 1) P) := by
  refine GMet.introH RL rfl (by decide) (gcats rfl) (Nat.le_of_ble_eq_true rfl) fun K KX S => ?_
  show K 0 [some _, some _, some _, some _, none] [] _ 0 0
  refine k_aload_n S dL_setOn_0 rfl ?_
  refine k_iconst S dL_setOn_1 ?_
  refine k_aload_n S dL_setOn_2 rfl ?_
  refine k_iload_n S dL_setOn_3 rfl ?_
  refine k_iload_n S dL_setOn_4 rfl ?_
  refine k_callV_x S dL_setOn_5 v_L_27 M (by assumption) (fun h5 hp5 => ?_) rfl rfl (by omega) (by omega) (by omega) (Nat.le_of_ble_eq_true rfl)
  refine k_catch S [] (0, 17, 20, 19) [] rfl (fun z hz => by cases hz) (by decide) (by decide) cl_L_19 ca_IndexOutOfBounds_IndexOutOfBounds (fun q9 => ?_)
  refine k_astore S dL_setOn_20 (by decide) ?_
  refine k_iconst S dL_setOn_22 ?_
  exact k_ireturn S dL_setOn_23 ⟨rfl, hp5⟩ (by omega) (by omega)
/-- putCharacter, with an answer -/
theorem w_putCharacter_g (hx : h x = some (gObj 7 fs)) (hv : inR v) (M : GMet D yX7_putCharacter cX7_putCharacter 4 (some .int) [] dep mc ms [gR (some x), gI a1, gI a2] h (pr (gI v) P)) (ho : ∀ h1, P h1 → ∃ f, h1 out = some (gArrL 3 1 f)) : GMet D yL_putCharacter cL_putCharacter 5 (some .int) [(0, 10, 13, 19), (0, 10, 17, 21), (0, 10, 21, 13)] (dep + 1) mc ms [gR (some x), gI a1, gI a2, gR (some out)] h (pr (gI 0) (fun h2 => ∃ (h1 : GH) (g : Nat → Int), P h1 ∧ g 0 = v ∧ h2 = hput h1 out (gArrL 3 1 g))) := by
  refine GMet.introH RL rfl (by decide) (gcats rfl) (Nat.le_of_ble_eq_true rfl) fun K KX S => ?_
  show K 0 [some _, some _, some _, some _, none] [] _ 0 0
  unfold inR at hv
  refine k_aload_n S dL_putCharacter_0 rfl ?_
  refine k_iconst S dL_putCharacter_1 ?_
  refine k_aload_n S dL_putCharacter_2 rfl ?_
  refine k_iload_n S dL_putCharacter_3 rfl ?_
  refine k_iload_n S dL_putCharacter_4 rfl ?_
  refine k_callV_r S dL_putCharacter_5 v_L_31 M (by assumption) (fun h5 hp5 => ?_) rfl rfl (by omega) (by omega) (by omega) (Nat.le_of_ble_eq_true rfl)
  obtain ⟨f, hf⟩ := ho h5 hp5
  refine k_i2l S dL_putCharacter_8 (by omega) ?_
  refine k_lastore S dL_putCharacter_9 (by assumption) (by omega) ?_
  refine k_goto (tgt := 25) S dL_putCharacter_10 (by decide) ?_
  refine k_iconst S dL_putCharacter_25 ?_
  exact k_ireturn S dL_putCharacter_26 ⟨rfl, h5, _, hp5, gupd_s _ _ _, rfl⟩ (by omega) (by omega)
/-- putCharacter, a throw -/
theorem w_putCharacter_1 (hx : h x = some (gObj 7 fs)) (M : GMet D yX7_putCharacter cX7_putCharacter 4 (some .int) [] dep mc ms [gR (some x), gI a1, gI a2] h (px "java/lang/IndexOutOfBoundsException" P)) : GMet D yL_putCharacter cL_putCharacter 5 (some .int) [(0, 10, 13, 19), (0, 10, 17, 21), (0, 10, 21, 13)] (dep + 1) mc ms [gR (some x), gI a1, gI a2, gR (some out)] h (pr (gI 1) P) := by
  refine GMet.introH RL rfl (by decide) (gcats rfl) (Nat.le_of_ble_eq_true rfl) fun K KX S => ?_
  show K 0 [some _, some _, some _, some _, none] [] _ 0 0
  refine k_aload_n S dL_putCharacter_0 rfl ?_
  refine k_iconst S dL_putCharacter_1 ?_
  refine k_aload_n S dL_putCharacter_2 rfl ?_
  refine k_iload_n S dL_putCharacter_3 rfl ?_
  refine k_iload_n S dL_putCharacter_4 rfl ?_
  refine k_callV_x S dL_putCharacter_5 v_L_31 M (by assumption) (fun h5 hp5 => ?_) rfl rfl (by omega) (by omega) (by omega) (Nat.le_of_ble_eq_true rfl)
  refine k_catch S [] (0, 10, 13, 19) [(0, 10, 17, 21), (0, 10, 21, 13)] rfl (fun z hz => by cases hz) (by decide) (by decide) cl_L_19 ca_IndexOutOfBounds_IndexOutOfBounds (fun q9 => ?_)
  refine k_astore S dL_putCharacter_13 (by decide) ?_
  refine k_iconst S dL_putCharacter_15 ?_
  exact k_ireturn S dL_putCharacter_16 ⟨rfl, hp5⟩ (by omega) (by omega)
/-- putCharacter, a throw -/
theorem w_putCharacter_2 (hx : h x = some (gObj 7 fs)) (M : GMet D yX7_putCharacter cX7_putCharacter 4 (some .int) [] dep mc ms [gR (some x), gI a1, gI a2] h (px "java/lang/IllegalArgumentException" P)) : GMet D yL_putCharacter cL_putCharacter 5 (some .int) [(0, 10, 13, 19), (0, 10, 17, 21), (0, 10, 21, 13)] (dep + 1) mc ms [gR (some x), gI a1, gI a2, gR (some out)] h (pr (gI 2) P) := by
  refine GMet.introH RL rfl (by decide) (gcats rfl) (Nat.le_of_ble_eq_true rfl) fun K KX S => ?_
  show K 0 [some _, some _, some _, some _, none] [] _ 0 0
  refine k_aload_n S dL_putCharacter_0 rfl ?_
  refine k_iconst S dL_putCharacter_1 ?_
  refine k_aload_n S dL_putCharacter_2 rfl ?_
  refine k_iload_n S dL_putCharacter_3 rfl ?_
  refine k_iload_n S dL_putCharacter_4 rfl ?_
  refine k_callV_x S dL_putCharacter_5 v_L_31 M (by assumption) (fun h5 hp5 => ?_) rfl rfl (by omega) (by omega) (by omega) (Nat.le_of_ble_eq_true rfl)
  refine k_catch S [(0, 10, 13, 19)] (0, 10, 17, 21) [(0, 10, 21, 13)] rfl (List.forall_mem_cons.mpr ⟨⟨by decide, "java/lang/IndexOutOfBoundsException", cl_L_19, by decide⟩, (fun _ h => absurd h List.not_mem_nil)⟩) (by decide) (by decide) cl_L_21 ca_IllegalArgument_IllegalArgument (fun q9 => ?_)
  refine k_astore S dL_putCharacter_17 (by decide) ?_
  refine k_iconst S dL_putCharacter_19 ?_
  exact k_ireturn S dL_putCharacter_20 ⟨rfl, hp5⟩ (by omega) (by omega)
/-- putCharacter, a throw -/
theorem w_putCharacter_3 (hx : h x = some (gObj 7 fs)) (M : GMet D yX7_putCharacter cX7_putCharacter 4 (some .int) [] dep mc ms [gR (some x), gI a1, gI a2] h (px "java/lang/IllegalStateException" P)) : GMet D yL_putCharacter cL_putCharacter 5 (some .int) [(0, 10, 13, 19), (0, 10, 17, 21), (0, 10, 21, 13)] (dep + 1) mc ms [gR (some x), gI a1, gI a2, gR (some out)] h (pr (gI 3) P) := by
  refine GMet.introH RL rfl (by decide) (gcats rfl) (Nat.le_of_ble_eq_true rfl) fun K KX S => ?_
  show K 0 [some _, some _, some _, some _, none] [] _ 0 0
  refine k_aload_n S dL_putCharacter_0 rfl ?_
  refine k_iconst S dL_putCharacter_1 ?_
  refine k_aload_n S dL_putCharacter_2 rfl ?_
  refine k_iload_n S dL_putCharacter_3 rfl ?_
  refine k_iload_n S dL_putCharacter_4 rfl ?_
  refine k_callV_x S dL_putCharacter_5 v_L_31 M (by assumption) (fun h5 hp5 => ?_) rfl rfl (by omega) (by omega) (by omega) (Nat.le_of_ble_eq_true rfl)
  refine k_catch S [(0, 10, 13, 19), (0, 10, 17, 21)] (0, 10, 21, 13) [] rfl (List.forall_mem_cons.mpr ⟨⟨by decide, "java/lang/IndexOutOfBoundsException", cl_L_19, by decide⟩, (List.forall_mem_cons.mpr ⟨⟨by decide, "java/lang/IllegalArgumentException", cl_L_21, by decide⟩, (fun _ h => absurd h List.not_mem_nil)⟩)⟩) (by decide) (by decide) cl_L_13 ca_IllegalState_IllegalState (fun q9 => ?_)
  refine k_astore S dL_putCharacter_21 (by decide) ?_
  refine k_iconst S dL_putCharacter_23 ?_
  exact k_ireturn S dL_putCharacter_24 ⟨rfl, hp5⟩ (by omega) (by omega)
/-- putSnippet, with an answer -/
theorem w_putSnippet_g (hx : h x = some (gObj 7 fs)) (hv : inR v) (M : GMet D yX7_putSnippet cX7_putSnippet 3 (some .int) [] dep mc ms [gR (some x), gI a1, gI a2] h (pr (gI v) P)) (ho : ∀ h1, P h1 → ∃ f, h1 out = some (gArrL 3 1 f)) : GMet D yL_putSnippet cL_putSnippet 5 (some .int) [(0, 10, 13, 19), (0, 10, 17, 38), (0, 10, 21, 13)] (dep + 1) mc ms [gR (some x), gI a1, gI a2, gR (some out)] h (pr (gI 0) (fun h2 => ∃ (h1 : GH) (g : Nat → Int), P h1 ∧ g 0 = v ∧ h2 = hput h1 out (gArrL 3 1 g))) := by
  refine GMet.introH RL rfl (by decide) (gcats rfl) (Nat.le_of_ble_eq_true rfl) fun K KX S => ?_
  show K 0 [some _, some _, some _, some _, none] [] _ 0 0
  unfold inR at hv
  refine k_aload_n S dL_putSnippet_0 rfl ?_
  refine k_iconst S dL_putSnippet_1 ?_
  refine k_aload_n S dL_putSnippet_2 rfl ?_
  refine k_iload_n S dL_putSnippet_3 rfl ?_
  refine k_iload_n S dL_putSnippet_4 rfl ?_
  refine k_callV_r S dL_putSnippet_5 v_L_34 M (by assumption) (fun h5 hp5 => ?_) rfl rfl (by omega) (by omega) (by omega) (Nat.le_of_ble_eq_true rfl)
  obtain ⟨f, hf⟩ := ho h5 hp5
  refine k_i2l S dL_putSnippet_8 (by omega) ?_
  refine k_lastore S dL_putSnippet_9 (by assumption) (by omega) ?_
  refine k_goto (tgt := 25) S dL_putSnippet_10 (by decide) ?_
  refine k_iconst S dL_putSnippet_25 ?_
  exact k_ireturn S dL_putSnippet_26 ⟨rfl, h5, _, hp5, gupd_s _ _ _, rfl⟩ (by omega) (by omega)
/-- putSnippet, a throw -/
theorem w_putSnippet_1 (hx : h x = some (gObj 7 fs)) (M : GMet D yX7_putSnippet cX7_putSnippet 3 (some .int) [] dep mc ms [gR (some x), gI a1, gI a2] h (px "java/lang/IndexOutOfBoundsException" P)) : GMet D yL_putSnippet cL_putSnippet 5 (some .int) [(0, 10, 13, 19), (0, 10, 17, 38), (0, 10, 21, 13)] (dep + 1) mc ms [gR (some x), gI a1, gI a2, gR (some out)] h (pr (gI 1) P) := by
  refine GMet.introH RL rfl (by decide) (gcats rfl) (Nat.le_of_ble_eq_true rfl) fun K KX S => ?_
  show K 0 [some _, some _, some _, some _, none] [] _ 0 0
  refine k_aload_n S dL_putSnippet_0 rfl ?_
  refine k_iconst S dL_putSnippet_1 ?_
  refine k_aload_n S dL_putSnippet_2 rfl ?_
  refine k_iload_n S dL_putSnippet_3 rfl ?_
  refine k_iload_n S dL_putSnippet_4 rfl ?_
  refine k_callV_x S dL_putSnippet_5 v_L_34 M (by assumption) (fun h5 hp5 => ?_) rfl rfl (by omega) (by omega) (by omega) (Nat.le_of_ble_eq_true rfl)
  refine k_catch S [] (0, 10, 13, 19) [(0, 10, 17, 38), (0, 10, 21, 13)] rfl (fun z hz => by cases hz) (by decide) (by decide) cl_L_19 ca_IndexOutOfBounds_IndexOutOfBounds (fun q9 => ?_)
  refine k_astore S dL_putSnippet_13 (by decide) ?_
  refine k_iconst S dL_putSnippet_15 ?_
  exact k_ireturn S dL_putSnippet_16 ⟨rfl, hp5⟩ (by omega) (by omega)
/-- putSnippet, a throw -/
theorem w_putSnippet_2 (hx : h x = some (gObj 7 fs)) (M : GMet D yX7_putSnippet cX7_putSnippet 3 (some .int) [] dep mc ms [gR (some x), gI a1, gI a2] h (px "java/lang/UnsupportedOperationException" P)) : GMet D yL_putSnippet cL_putSnippet 5 (some .int) [(0, 10, 13, 19), (0, 10, 17, 38), (0, 10, 21, 13)] (dep + 1) mc ms [gR (some x), gI a1, gI a2, gR (some out)] h (pr (gI 2) P) := by
  refine GMet.introH RL rfl (by decide) (gcats rfl) (Nat.le_of_ble_eq_true rfl) fun K KX S => ?_
  show K 0 [some _, some _, some _, some _, none] [] _ 0 0
  refine k_aload_n S dL_putSnippet_0 rfl ?_
  refine k_iconst S dL_putSnippet_1 ?_
  refine k_aload_n S dL_putSnippet_2 rfl ?_
  refine k_iload_n S dL_putSnippet_3 rfl ?_
  refine k_iload_n S dL_putSnippet_4 rfl ?_
  refine k_callV_x S dL_putSnippet_5 v_L_34 M (by assumption) (fun h5 hp5 => ?_) rfl rfl (by omega) (by omega) (by omega) (Nat.le_of_ble_eq_true rfl)
  refine k_catch S [(0, 10, 13, 19)] (0, 10, 17, 38) [(0, 10, 21, 13)] rfl (List.forall_mem_cons.mpr ⟨⟨by decide, "java/lang/IndexOutOfBoundsException", cl_L_19, by decide⟩, (fun _ h => absurd h List.not_mem_nil)⟩) (by decide) (by decide) cl_L_38 ca_UnsupportedOperation_UnsupportedOperation (fun q9 => ?_)
  refine k_astore S dL_putSnippet_17 (by decide) ?_
  refine k_iconst S dL_putSnippet_19 ?_
  exact k_ireturn S dL_putSnippet_20 ⟨rfl, hp5⟩ (by omega) (by omega)
/-- putSnippet, a throw -/
theorem w_putSnippet_3 (hx : h x = some (gObj 7 fs)) (M : GMet D yX7_putSnippet cX7_putSnippet 3 (some .int) [] dep mc ms [gR (some x), gI a1, gI a2] h (px "java/lang/IllegalStateException" P)) : GMet D yL_putSnippet cL_putSnippet 5 (some .int) [(0, 10, 13, 19), (0, 10, 17, 38), (0, 10, 21, 13)] (dep + 1) mc ms [gR (some x), gI a1, gI a2, gR (some out)] h (pr (gI 3) P) := by
  refine GMet.introH RL rfl (by decide) (gcats rfl) (Nat.le_of_ble_eq_true rfl) fun K KX S => ?_
  show K 0 [some _, some _, some _, some _, none] [] _ 0 0
  refine k_aload_n S dL_putSnippet_0 rfl ?_
  refine k_iconst S dL_putSnippet_1 ?_
  refine k_aload_n S dL_putSnippet_2 rfl ?_
  refine k_iload_n S dL_putSnippet_3 rfl ?_
  refine k_iload_n S dL_putSnippet_4 rfl ?_
  refine k_callV_x S dL_putSnippet_5 v_L_34 M (by assumption) (fun h5 hp5 => ?_) rfl rfl (by omega) (by omega) (by omega) (Nat.le_of_ble_eq_true rfl)
  refine k_catch S [(0, 10, 13, 19), (0, 10, 17, 38)] (0, 10, 21, 13) [] rfl (List.forall_mem_cons.mpr ⟨⟨by decide, "java/lang/IndexOutOfBoundsException", cl_L_19, by decide⟩, (List.forall_mem_cons.mpr ⟨⟨by decide, "java/lang/UnsupportedOperationException", cl_L_38, by decide⟩, (fun _ h => absurd h List.not_mem_nil)⟩)⟩) (by decide) (by decide) cl_L_13 ca_IllegalState_IllegalState (fun q9 => ?_)
  refine k_astore S dL_putSnippet_21 (by decide) ?_
  refine k_iconst S dL_putSnippet_23 ?_
  exact k_ireturn S dL_putSnippet_24 ⟨rfl, hp5⟩ (by omega) (by omega)
/-- putChoice, with an answer -/
theorem w_putChoice_g (hx : h x = some (gObj 7 fs)) (hv : inR v) (M : GMet D yX7_putChoice cX7_putChoice 4 (some .int) [] dep mc ms [gR (some x), gI a1, gI a2, gI a3] h (pr (gI v) P)) (ho : ∀ h1, P h1 → ∃ f, h1 out = some (gArrL 3 1 f)) : GMet D yL_putChoice cL_putChoice 6 (some .int) [(0, 12, 15, 19), (0, 12, 19, 38), (0, 12, 23, 13)] (dep + 1) mc ms [gR (some x), gI a1, gI a2, gI a3, gR (some out)] h (pr (gI 0) (fun h2 => ∃ (h1 : GH) (g : Nat → Int), P h1 ∧ g 0 = v ∧ h2 = hput h1 out (gArrL 3 1 g))) := by
  refine GMet.introH RL rfl (by decide) (gcats rfl) (Nat.le_of_ble_eq_true rfl) fun K KX S => ?_
  show K 0 [some _, some _, some _, some _, some _, none] [] _ 0 0
  unfold inR at hv
  refine k_aload S dL_putChoice_0 rfl ?_
  refine k_iconst S dL_putChoice_2 ?_
  refine k_aload_n S dL_putChoice_3 rfl ?_
  refine k_iload_n S dL_putChoice_4 rfl ?_
  refine k_iload_n S dL_putChoice_5 rfl ?_
  refine k_iload_n S dL_putChoice_6 rfl ?_
  refine k_callV_r S dL_putChoice_7 v_L_40 M (by assumption) (fun h7 hp7 => ?_) rfl rfl (by omega) (by omega) (by omega) (Nat.le_of_ble_eq_true rfl)
  obtain ⟨f, hf⟩ := ho h7 hp7
  refine k_i2l S dL_putChoice_10 (by omega) ?_
  refine k_lastore S dL_putChoice_11 (by assumption) (by omega) ?_
  refine k_goto (tgt := 27) S dL_putChoice_12 (by decide) ?_
  refine k_iconst S dL_putChoice_27 ?_
  exact k_ireturn S dL_putChoice_28 ⟨rfl, h7, _, hp7, gupd_s _ _ _, rfl⟩ (by omega) (by omega)
/-- putChoice, a throw -/
theorem w_putChoice_1 (hx : h x = some (gObj 7 fs)) (M : GMet D yX7_putChoice cX7_putChoice 4 (some .int) [] dep mc ms [gR (some x), gI a1, gI a2, gI a3] h (px "java/lang/IndexOutOfBoundsException" P)) : GMet D yL_putChoice cL_putChoice 6 (some .int) [(0, 12, 15, 19), (0, 12, 19, 38), (0, 12, 23, 13)] (dep + 1) mc ms [gR (some x), gI a1, gI a2, gI a3, gR (some out)] h (pr (gI 1) P) := by
  refine GMet.introH RL rfl (by decide) (gcats rfl) (Nat.le_of_ble_eq_true rfl) fun K KX S => ?_
  show K 0 [some _, some _, some _, some _, some _, none] [] _ 0 0
  refine k_aload S dL_putChoice_0 rfl ?_
  refine k_iconst S dL_putChoice_2 ?_
  refine k_aload_n S dL_putChoice_3 rfl ?_
  refine k_iload_n S dL_putChoice_4 rfl ?_
  refine k_iload_n S dL_putChoice_5 rfl ?_
  refine k_iload_n S dL_putChoice_6 rfl ?_
  refine k_callV_x S dL_putChoice_7 v_L_40 M (by assumption) (fun h7 hp7 => ?_) rfl rfl (by omega) (by omega) (by omega) (Nat.le_of_ble_eq_true rfl)
  refine k_catch S [] (0, 12, 15, 19) [(0, 12, 19, 38), (0, 12, 23, 13)] rfl (fun z hz => by cases hz) (by decide) (by decide) cl_L_19 ca_IndexOutOfBounds_IndexOutOfBounds (fun q9 => ?_)
  refine k_astore S dL_putChoice_15 (by decide) ?_
  refine k_iconst S dL_putChoice_17 ?_
  exact k_ireturn S dL_putChoice_18 ⟨rfl, hp7⟩ (by omega) (by omega)
/-- putChoice, a throw -/
theorem w_putChoice_2 (hx : h x = some (gObj 7 fs)) (M : GMet D yX7_putChoice cX7_putChoice 4 (some .int) [] dep mc ms [gR (some x), gI a1, gI a2, gI a3] h (px "java/lang/UnsupportedOperationException" P)) : GMet D yL_putChoice cL_putChoice 6 (some .int) [(0, 12, 15, 19), (0, 12, 19, 38), (0, 12, 23, 13)] (dep + 1) mc ms [gR (some x), gI a1, gI a2, gI a3, gR (some out)] h (pr (gI 2) P) := by
  refine GMet.introH RL rfl (by decide) (gcats rfl) (Nat.le_of_ble_eq_true rfl) fun K KX S => ?_
  show K 0 [some _, some _, some _, some _, some _, none] [] _ 0 0
  refine k_aload S dL_putChoice_0 rfl ?_
  refine k_iconst S dL_putChoice_2 ?_
  refine k_aload_n S dL_putChoice_3 rfl ?_
  refine k_iload_n S dL_putChoice_4 rfl ?_
  refine k_iload_n S dL_putChoice_5 rfl ?_
  refine k_iload_n S dL_putChoice_6 rfl ?_
  refine k_callV_x S dL_putChoice_7 v_L_40 M (by assumption) (fun h7 hp7 => ?_) rfl rfl (by omega) (by omega) (by omega) (Nat.le_of_ble_eq_true rfl)
  refine k_catch S [(0, 12, 15, 19)] (0, 12, 19, 38) [(0, 12, 23, 13)] rfl (List.forall_mem_cons.mpr ⟨⟨by decide, "java/lang/IndexOutOfBoundsException", cl_L_19, by decide⟩, (fun _ h => absurd h List.not_mem_nil)⟩) (by decide) (by decide) cl_L_38 ca_UnsupportedOperation_UnsupportedOperation (fun q9 => ?_)
  refine k_astore S dL_putChoice_19 (by decide) ?_
  refine k_iconst S dL_putChoice_21 ?_
  exact k_ireturn S dL_putChoice_22 ⟨rfl, hp7⟩ (by omega) (by omega)
/-- putChoice, a throw -/
theorem w_putChoice_3 (hx : h x = some (gObj 7 fs)) (M : GMet D yX7_putChoice cX7_putChoice 4 (some .int) [] dep mc ms [gR (some x), gI a1, gI a2, gI a3] h (px "java/lang/IllegalStateException" P)) : GMet D yL_putChoice cL_putChoice 6 (some .int) [(0, 12, 15, 19), (0, 12, 19, 38), (0, 12, 23, 13)] (dep + 1) mc ms [gR (some x), gI a1, gI a2, gI a3, gR (some out)] h (pr (gI 3) P) := by
  refine GMet.introH RL rfl (by decide) (gcats rfl) (Nat.le_of_ble_eq_true rfl) fun K KX S => ?_
  show K 0 [some _, some _, some _, some _, some _, none] [] _ 0 0
  refine k_aload S dL_putChoice_0 rfl ?_
  refine k_iconst S dL_putChoice_2 ?_
  refine k_aload_n S dL_putChoice_3 rfl ?_
  refine k_iload_n S dL_putChoice_4 rfl ?_
  refine k_iload_n S dL_putChoice_5 rfl ?_
  refine k_iload_n S dL_putChoice_6 rfl ?_
  refine k_callV_x S dL_putChoice_7 v_L_40 M (by assumption) (fun h7 hp7 => ?_) rfl rfl (by omega) (by omega) (by omega) (Nat.le_of_ble_eq_true rfl)
  refine k_catch S [(0, 12, 15, 19), (0, 12, 19, 38)] (0, 12, 23, 13) [] rfl (List.forall_mem_cons.mpr ⟨⟨by decide, "java/lang/IndexOutOfBoundsException", cl_L_19, by decide⟩, (List.forall_mem_cons.mpr ⟨⟨by decide, "java/lang/UnsupportedOperationException", cl_L_38, by decide⟩, (fun _ h => absurd h List.not_mem_nil)⟩)⟩) (by decide) (by decide) cl_L_13 ca_IllegalState_IllegalState (fun q9 => ?_)
  refine k_astore S dL_putChoice_23 (by decide) ?_
  refine k_iconst S dL_putChoice_25 ?_
  exact k_ireturn S dL_putChoice_26 ⟨rfl, hp7⟩ (by omega) (by omega)
/-- putDate, with an answer -/
theorem w_putDate_g (hx : h x = some (gObj 7 fs)) (hv : inR v) (M : GMet D yX7_putDate cX7_putDate 5 (some .int) [] dep mc ms [gR (some x), gI a1, gI a2, gI a3] h (pr (gI v) P)) (ho : ∀ h1, P h1 → ∃ f, h1 out = some (gArrL 3 1 f)) : GMet D yL_putDate cL_putDate 6 (some .int) [(0, 12, 15, 19), (0, 12, 19, 21), (0, 12, 23, 13)] (dep + 1) mc ms [gR (some x), gI a1, gI a2, gI a3, gR (some out)] h (pr (gI 0) (fun h2 => ∃ (h1 : GH) (g : Nat → Int), P h1 ∧ g 0 = v ∧ h2 = hput h1 out (gArrL 3 1 g))) := by
  refine GMet.introH RL rfl (by decide) (gcats rfl) (Nat.le_of_ble_eq_true rfl) fun K KX S => ?_
  show K 0 [some _, some _, some _, some _, some _, none] [] _ 0 0
  unfold inR at hv
  refine k_aload S dL_putDate_0 rfl ?_
  refine k_iconst S dL_putDate_2 ?_
  refine k_aload_n S dL_putDate_3 rfl ?_
  refine k_iload_n S dL_putDate_4 rfl ?_
  refine k_iload_n S dL_putDate_5 rfl ?_
  refine k_iload_n S dL_putDate_6 rfl ?_
  refine k_callV_r S dL_putDate_7 v_L_44 M (by assumption) (fun h7 hp7 => ?_) rfl rfl (by omega) (by omega) (by omega) (Nat.le_of_ble_eq_true rfl)
  obtain ⟨f, hf⟩ := ho h7 hp7
  refine k_i2l S dL_putDate_10 (by omega) ?_
  refine k_lastore S dL_putDate_11 (by assumption) (by omega) ?_
  refine k_goto (tgt := 27) S dL_putDate_12 (by decide) ?_
  refine k_iconst S dL_putDate_27 ?_
  exact k_ireturn S dL_putDate_28 ⟨rfl, h7, _, hp7, gupd_s _ _ _, rfl⟩ (by omega) (by omega)
/-- putDate, a throw -/
theorem w_putDate_1 (hx : h x = some (gObj 7 fs)) (M : GMet D yX7_putDate cX7_putDate 5 (some .int) [] dep mc ms [gR (some x), gI a1, gI a2, gI a3] h (px "java/lang/IndexOutOfBoundsException" P)) : GMet D yL_putDate cL_putDate 6 (some .int) [(0, 12, 15, 19), (0, 12, 19, 21), (0, 12, 23, 13)] (dep + 1) mc ms [gR (some x), gI a1, gI a2, gI a3, gR (some out)] h (pr (gI 1) P) := by
  refine GMet.introH RL rfl (by decide) (gcats rfl) (Nat.le_of_ble_eq_true rfl) fun K KX S => ?_
  show K 0 [some _, some _, some _, some _, some _, none] [] _ 0 0
  refine k_aload S dL_putDate_0 rfl ?_
  refine k_iconst S dL_putDate_2 ?_
  refine k_aload_n S dL_putDate_3 rfl ?_
  refine k_iload_n S dL_putDate_4 rfl ?_
  refine k_iload_n S dL_putDate_5 rfl ?_
  refine k_iload_n S dL_putDate_6 rfl ?_
  refine k_callV_x S dL_putDate_7 v_L_44 M (by assumption) (fun h7 hp7 => ?_) rfl rfl (by omega) (by omega) (by omega) (Nat.le_of_ble_eq_true rfl)
  refine k_catch S [] (0, 12, 15, 19) [(0, 12, 19, 21), (0, 12, 23, 13)] rfl (fun z hz => by cases hz) (by decide) (by decide) cl_L_19 ca_IndexOutOfBounds_IndexOutOfBounds (fun q9 => ?_)
  refine k_astore S dL_putDate_15 (by decide) ?_
  refine k_iconst S dL_putDate_17 ?_
  exact k_ireturn S dL_putDate_18 ⟨rfl, hp7⟩ (by omega) (by omega)
/-- putDate, a throw -/
theorem w_putDate_2 (hx : h x = some (gObj 7 fs)) (M : GMet D yX7_putDate cX7_putDate 5 (some .int) [] dep mc ms [gR (some x), gI a1, gI a2, gI a3] h (px "java/lang/IllegalArgumentException" P)) : GMet D yL_putDate cL_putDate 6 (some .int) [(0, 12, 15, 19), (0, 12, 19, 21), (0, 12, 23, 13)] (dep + 1) mc ms [gR (some x), gI a1, gI a2, gI a3, gR (some out)] h (pr (gI 2) P) := by
  refine GMet.introH RL rfl (by decide) (gcats rfl) (Nat.le_of_ble_eq_true rfl) fun K KX S => ?_
  show K 0 [some _, some _, some _, some _, some _, none] [] _ 0 0
  refine k_aload S dL_putDate_0 rfl ?_
  refine k_iconst S dL_putDate_2 ?_
  refine k_aload_n S dL_putDate_3 rfl ?_
  refine k_iload_n S dL_putDate_4 rfl ?_
  refine k_iload_n S dL_putDate_5 rfl ?_
  refine k_iload_n S dL_putDate_6 rfl ?_
  refine k_callV_x S dL_putDate_7 v_L_44 M (by assumption) (fun h7 hp7 => ?_) rfl rfl (by omega) (by omega) (by omega) (Nat.le_of_ble_eq_true rfl)
  refine k_catch S [(0, 12, 15, 19)] (0, 12, 19, 21) [(0, 12, 23, 13)] rfl (List.forall_mem_cons.mpr ⟨⟨by decide, "java/lang/IndexOutOfBoundsException", cl_L_19, by decide⟩, (fun _ h => absurd h List.not_mem_nil)⟩) (by decide) (by decide) cl_L_21 ca_IllegalArgument_IllegalArgument (fun q9 => ?_)
  refine k_astore S dL_putDate_19 (by decide) ?_
  refine k_iconst S dL_putDate_21 ?_
  exact k_ireturn S dL_putDate_22 ⟨rfl, hp7⟩ (by omega) (by omega)
/-- putDate, a throw -/
theorem w_putDate_3 (hx : h x = some (gObj 7 fs)) (M : GMet D yX7_putDate cX7_putDate 5 (some .int) [] dep mc ms [gR (some x), gI a1, gI a2, gI a3] h (px "java/lang/IllegalStateException" P)) : GMet D yL_putDate cL_putDate 6 (some .int) [(0, 12, 15, 19), (0, 12, 19, 21), (0, 12, 23, 13)] (dep + 1) mc ms [gR (some x), gI a1, gI a2, gI a3, gR (some out)] h (pr (gI 3) P) := by
  refine GMet.introH RL rfl (by decide) (gcats rfl) (Nat.le_of_ble_eq_true rfl) fun K KX S => ?_
  show K 0 [some _, some _, some _, some _, some _, none] [] _ 0 0
  refine k_aload S dL_putDate_0 rfl ?_
  refine k_iconst S dL_putDate_2 ?_
  refine k_aload_n S dL_putDate_3 rfl ?_
  refine k_iload_n S dL_putDate_4 rfl ?_
  refine k_iload_n S dL_putDate_5 rfl ?_
  refine k_iload_n S dL_putDate_6 rfl ?_
  refine k_callV_x S dL_putDate_7 v_L_44 M (by assumption) (fun h7 hp7 => ?_) rfl rfl (by omega) (by omega) (by omega) (Nat.le_of_ble_eq_true rfl)
  refine k_catch S [(0, 12, 15, 19), (0, 12, 19, 21)] (0, 12, 23, 13) [] rfl (List.forall_mem_cons.mpr ⟨⟨by decide, "java/lang/IndexOutOfBoundsException", cl_L_19, by decide⟩, (List.forall_mem_cons.mpr ⟨⟨by decide, "java/lang/IllegalArgumentException", cl_L_21, by decide⟩, (fun _ h => absurd h List.not_mem_nil)⟩)⟩) (by decide) (by decide) cl_L_13 ca_IllegalState_IllegalState (fun q9 => ?_)
  refine k_astore S dL_putDate_23 (by decide) ?_
  refine k_iconst S dL_putDate_25 ?_
  exact k_ireturn S dL_putDate_26 ⟨rfl, hp7⟩ (by omega) (by omega)
/-- putStop, with an answer -/
theorem w_putStop_g (hx : h x = some (gObj 7 fs)) (hv : inR v) (M : GMet D yX7_putStop cX7_putStop 2 (some .int) [] dep mc ms [gR (some x), gI a1] h (pr (gI v) P)) (ho : ∀ h1, P h1 → ∃ f, h1 out = some (gArrL 3 1 f)) : GMet D yL_putStop cL_putStop 4 (some .int) [(0, 9, 12, 19), (0, 9, 15, 13)] (dep + 1) mc ms [gR (some x), gI a1, gR (some out)] h (pr (gI 0) (fun h2 => ∃ (h1 : GH) (g : Nat → Int), P h1 ∧ g 0 = v ∧ h2 = hput h1 out (gArrL 3 1 g))) := by
  refine GMet.introH RL rfl (by decide) (gcats rfl) (Nat.le_of_ble_eq_true rfl) fun K KX S => ?_
  show K 0 [some _, some _, some _, none] [] _ 0 0
  unfold inR at hv
  refine k_aload_n S dL_putStop_0 rfl ?_
  refine k_iconst S dL_putStop_1 ?_
  refine k_aload_n S dL_putStop_2 rfl ?_
  refine k_iload_n S dL_putStop_3 rfl ?_
  refine k_callV_r S dL_putStop_4 v_L_48 M (by assumption) (fun h4 hp4 => ?_) rfl rfl (by omega) (by omega) (by omega) (Nat.le_of_ble_eq_true rfl)
  obtain ⟨f, hf⟩ := ho h4 hp4
  refine k_i2l S dL_putStop_7 (by omega) ?_
  refine k_lastore S dL_putStop_8 (by assumption) (by omega) ?_
  refine k_goto (tgt := 18) S dL_putStop_9 (by decide) ?_
  refine k_iconst S dL_putStop_18 ?_
  exact k_ireturn S dL_putStop_19 ⟨rfl, h4, _, hp4, gupd_s _ _ _, rfl⟩ (by omega) (by omega)
/-- putStop, a throw -/
theorem w_putStop_1 (hx : h x = some (gObj 7 fs)) (M : GMet D yX7_putStop cX7_putStop 2 (some .int) [] dep mc ms [gR (some x), gI a1] h (px "java/lang/IndexOutOfBoundsException" P)) : GMet D yL_putStop cL_putStop 4 (some .int) [(0, 9, 12, 19), (0, 9, 15, 13)] (dep + 1) mc ms [gR (some x), gI a1, gR (some out)] h (pr (gI 1) P) := by
  refine GMet.introH RL rfl (by decide) (gcats rfl) (Nat.le_of_ble_eq_true rfl) fun K KX S => ?_
  show K 0 [some _, some _, some _, none] [] _ 0 0
  refine k_aload_n S dL_putStop_0 rfl ?_
  refine k_iconst S dL_putStop_1 ?_
  refine k_aload_n S dL_putStop_2 rfl ?_
  refine k_iload_n S dL_putStop_3 rfl ?_
  refine k_callV_x S dL_putStop_4 v_L_48 M (by assumption) (fun h4 hp4 => ?_) rfl rfl (by omega) (by omega) (by omega) (Nat.le_of_ble_eq_true rfl)
  refine k_catch S [] (0, 9, 12, 19) [(0, 9, 15, 13)] rfl (fun z hz => by cases hz) (by decide) (by decide) cl_L_19 ca_IndexOutOfBounds_IndexOutOfBounds (fun q9 => ?_)
  refine k_astore_n S dL_putStop_12 (by decide) ?_
  refine k_iconst S dL_putStop_13 ?_
  exact k_ireturn S dL_putStop_14 ⟨rfl, hp4⟩ (by omega) (by omega)
/-- putStop, a throw -/
theorem w_putStop_2 (hx : h x = some (gObj 7 fs)) (M : GMet D yX7_putStop cX7_putStop 2 (some .int) [] dep mc ms [gR (some x), gI a1] h (px "java/lang/IllegalStateException" P)) : GMet D yL_putStop cL_putStop 4 (some .int) [(0, 9, 12, 19), (0, 9, 15, 13)] (dep + 1) mc ms [gR (some x), gI a1, gR (some out)] h (pr (gI 2) P) := by
  refine GMet.introH RL rfl (by decide) (gcats rfl) (Nat.le_of_ble_eq_true rfl) fun K KX S => ?_
  show K 0 [some _, some _, some _, none] [] _ 0 0
  refine k_aload_n S dL_putStop_0 rfl ?_
  refine k_iconst S dL_putStop_1 ?_
  refine k_aload_n S dL_putStop_2 rfl ?_
  refine k_iload_n S dL_putStop_3 rfl ?_
  refine k_callV_x S dL_putStop_4 v_L_48 M (by assumption) (fun h4 hp4 => ?_) rfl rfl (by omega) (by omega) (by omega) (Nat.le_of_ble_eq_true rfl)
  refine k_catch S [(0, 9, 12, 19)] (0, 9, 15, 13) [] rfl (List.forall_mem_cons.mpr ⟨⟨by decide, "java/lang/IndexOutOfBoundsException", cl_L_19, by decide⟩, (fun _ h => absurd h List.not_mem_nil)⟩) (by decide) (by decide) cl_L_13 ca_IllegalState_IllegalState (fun q9 => ?_)
  refine k_astore_n S dL_putStop_15 (by decide) ?_
  refine k_iconst S dL_putStop_16 ?_
  exact k_ireturn S dL_putStop_17 ⟨rfl, hp4⟩ (by omega) (by omega)
/-- clearBody, with an answer -/
theorem w_clearBody_g (hx : h x = some (gObj 7 fs)) (hv : inR v) (M : GMet D yX7_clearBody cX7_clearBody 4 (some .int) [] dep mc ms [gR (some x), gI a1] h (pr (gI v) P)) (ho : ∀ h1, P h1 → ∃ f, h1 out = some (gArrL 3 1 f)) : GMet D yL_clearBody cL_clearBody 4 (some .int) [(0, 9, 12, 19)] (dep + 1) mc ms [gR (some x), gI a1, gR (some out)] h (pr (gI 0) (fun h2 => ∃ (h1 : GH) (g : Nat → Int), P h1 ∧ g 0 = v ∧ h2 = hput h1 out (gArrL 3 1 g))) := by
  refine GMet.introH RL rfl (by decide) (gcats rfl) (Nat.le_of_ble_eq_true rfl) fun K KX S => ?_
  show K 0 [some _, some _, some _, none] [] _ 0 0
  unfold inR at hv
  refine k_aload_n S dL_clearBody_0 rfl ?_
  refine k_iconst S dL_clearBody_1 ?_
  refine k_aload_n S dL_clearBody_2 rfl ?_
  refine k_iload_n S dL_clearBody_3 rfl ?_
  refine k_callV_r S dL_clearBody_4 v_L_51 M (by assumption) (fun h4 hp4 => ?_) rfl rfl (by omega) (by omega) (by omega) (Nat.le_of_ble_eq_true rfl)
  obtain ⟨f, hf⟩ := ho h4 hp4
  refine k_i2l S dL_clearBody_7 (by omega) ?_
  refine k_lastore S dL_clearBody_8 (by assumption) (by omega) ?_
  refine k_goto (tgt := 15) S dL_clearBody_9 (by decide) ?_
  refine k_iconst S dL_clearBody_15 ?_
  exact k_ireturn S dL_clearBody_16 ⟨rfl, h4, _, hp4, gupd_s _ _ _, rfl⟩ (by omega) (by omega)
/-- clearBody, a throw -/
theorem w_clearBody_1 (hx : h x = some (gObj 7 fs)) (M : GMet D yX7_clearBody cX7_clearBody 4 (some .int) [] dep mc ms [gR (some x), gI a1] h (px "java/lang/IndexOutOfBoundsException" P)) : GMet D yL_clearBody cL_clearBody 4 (some .int) [(0, 9, 12, 19)] (dep + 1) mc ms [gR (some x), gI a1, gR (some out)] h (pr (gI 1) P) := by
  refine GMet.introH RL rfl (by decide) (gcats rfl) (Nat.le_of_ble_eq_true rfl) fun K KX S => ?_
  show K 0 [some _, some _, some _, none] [] _ 0 0
  refine k_aload_n S dL_clearBody_0 rfl ?_
  refine k_iconst S dL_clearBody_1 ?_
  refine k_aload_n S dL_clearBody_2 rfl ?_
  refine k_iload_n S dL_clearBody_3 rfl ?_
  refine k_callV_x S dL_clearBody_4 v_L_51 M (by assumption) (fun h4 hp4 => ?_) rfl rfl (by omega) (by omega) (by omega) (Nat.le_of_ble_eq_true rfl)
  refine k_catch S [] (0, 9, 12, 19) [] rfl (fun z hz => by cases hz) (by decide) (by decide) cl_L_19 ca_IndexOutOfBounds_IndexOutOfBounds (fun q9 => ?_)
  refine k_astore_n S dL_clearBody_12 (by decide) ?_
  refine k_iconst S dL_clearBody_13 ?_
  exact k_ireturn S dL_clearBody_14 ⟨rfl, hp4⟩ (by omega) (by omega)
/-- choose, with an answer -/
theorem w_choose_g (hx : h x = some (gObj 7 fs)) (hv : v = 0 ∨ v = 1) (M : GMet D yX7_choose cX7_choose 5 (some .boolean) [] dep mc ms [gR (some x), gI a1, gI a2] h (pr (gI v) P)) (ho : ∀ h1, P h1 → ∃ f, h1 out = some (gArrL 3 1 f)) : GMet D yL_choose cL_choose 5 (some .int) [(0, 17, 20, 19)] (dep + 1) mc ms [gR (some x), gI a1, gI a2, gR (some out)] h (pr (gI 0) (fun h2 => ∃ (h1 : GH) (g : Nat → Int), P h1 ∧ g 0 = v ∧ h2 = hput h1 out (gArrL 3 1 g))) := by
  refine GMet.introH RL rfl (by decide) (gcats rfl) (Nat.le_of_ble_eq_true rfl) fun K KX S => ?_
  show K 0 [some _, some _, some _, some _, none] [] _ 0 0
  refine k_aload_n S dL_choose_0 rfl ?_
  refine k_iconst S dL_choose_1 ?_
  refine k_aload_n S dL_choose_2 rfl ?_
  refine k_iload_n S dL_choose_3 rfl ?_
  refine k_iload_n S dL_choose_4 rfl ?_
  refine k_callV_r S dL_choose_5 v_L_54 M (by assumption) (fun h5 hp5 => ?_) rfl rfl (by omega) (by omega) (by omega) (Nat.le_of_ble_eq_true rfl)
  obtain ⟨f, hf⟩ := ho h5 hp5
  refine k_if_eq (tgt := 15) S dL_choose_8 (by decide) (by omega) (fun c8 => ?_) (fun c8 => ?_)
  · refine k_lconst S (v := 0) rfl dL_choose_15 ?_
    refine k_lastore S dL_choose_16 (by assumption) (by omega) ?_
    refine k_goto (tgt := 24) S dL_choose_17 (by decide) ?_
    refine k_iconst S dL_choose_24 ?_
    exact k_ireturn S dL_choose_25 ⟨rfl, h5, _, hp5, (gupd_s _ _ _).trans (by omega), rfl⟩ (by omega) (by omega)
  · refine k_lconst S (v := 1) rfl dL_choose_11 ?_
    refine k_goto (tgt := 16) S dL_choose_12 (by decide) ?_
    refine k_lastore S dL_choose_16 (by assumption) (by omega) ?_
    refine k_goto (tgt := 24) S dL_choose_17 (by decide) ?_
    refine k_iconst S dL_choose_24 ?_
    exact k_ireturn S dL_choose_25 ⟨rfl, h5, _, hp5, (gupd_s _ _ _).trans (by omega), rfl⟩ (by omega) (by omega)
/-- choose, a throw -/
theorem w_choose_1 (hx : h x = some (gObj 7 fs)) (M : GMet D yX7_choose cX7_choose 5 (some .boolean) [] dep mc ms [gR (some x), gI a1, gI a2] h (px "java/lang/IndexOutOfBoundsException" P)) : GMet D yL_choose cL_choose 5 (some .int) [(0, 17, 20, 19)] (dep + 1) mc ms [gR (some x), gI a1, gI a2, gR (some out)] h (pr (gI 1) P) := by
  refine GMet.introH RL rfl (by decide) (gcats rfl) (Nat.le_of_ble_eq_true rfl) fun K KX S => ?_
  show K 0 [some _, some _, some _, some _, none] [] _ 0 0
  refine k_aload_n S dL_choose_0 rfl ?_
  refine k_iconst S dL_choose_1 ?_
  refine k_aload_n S dL_choose_2 rfl ?_
  refine k_iload_n S dL_choose_3 rfl ?_
  refine k_iload_n S dL_choose_4 rfl ?_
  refine k_callV_x S dL_choose_5 v_L_54 M (by assumption) (fun h5 hp5 => ?_) rfl rfl (by omega) (by omega) (by omega) (Nat.le_of_ble_eq_true rfl)
  refine k_catch S [] (0, 17, 20, 19) [] rfl (fun z hz => by cases hz) (by decide) (by decide) cl_L_19 ca_IndexOutOfBounds_IndexOutOfBounds (fun q9 => ?_)
  refine k_astore S dL_choose_20 (by decide) ?_
  refine k_iconst S dL_choose_22 ?_
  exact k_ireturn S dL_choose_23 ⟨rfl, hp5⟩ (by omega) (by omega)
/-- setToday, with an answer -/
theorem w_setToday_g (hx : h x = some (gObj 7 fs)) (hv : inR v) (M : GMet D yX7_setToday cX7_setToday 3 (some .int) [] dep mc ms [gR (some x), gI a1] h (pr (gI v) P)) (ho : ∀ h1, P h1 → ∃ f, h1 out = some (gArrL 3 1 f)) : GMet D yL_setToday cL_setToday 4 (some .int) [(0, 9, 12, 21)] (dep + 1) mc ms [gR (some x), gI a1, gR (some out)] h (pr (gI 0) (fun h2 => ∃ (h1 : GH) (g : Nat → Int), P h1 ∧ g 0 = v ∧ h2 = hput h1 out (gArrL 3 1 g))) := by
  refine GMet.introH RL rfl (by decide) (gcats rfl) (Nat.le_of_ble_eq_true rfl) fun K KX S => ?_
  show K 0 [some _, some _, some _, none] [] _ 0 0
  unfold inR at hv
  refine k_aload_n S dL_setToday_0 rfl ?_
  refine k_iconst S dL_setToday_1 ?_
  refine k_aload_n S dL_setToday_2 rfl ?_
  refine k_iload_n S dL_setToday_3 rfl ?_
  refine k_callV_r S dL_setToday_4 v_L_57 M (by assumption) (fun h4 hp4 => ?_) rfl rfl (by omega) (by omega) (by omega) (Nat.le_of_ble_eq_true rfl)
  obtain ⟨f, hf⟩ := ho h4 hp4
  refine k_i2l S dL_setToday_7 (by omega) ?_
  refine k_lastore S dL_setToday_8 (by assumption) (by omega) ?_
  refine k_goto (tgt := 15) S dL_setToday_9 (by decide) ?_
  refine k_iconst S dL_setToday_15 ?_
  exact k_ireturn S dL_setToday_16 ⟨rfl, h4, _, hp4, gupd_s _ _ _, rfl⟩ (by omega) (by omega)
/-- setToday, a throw -/
theorem w_setToday_1 (hx : h x = some (gObj 7 fs)) (M : GMet D yX7_setToday cX7_setToday 3 (some .int) [] dep mc ms [gR (some x), gI a1] h (px "java/lang/IllegalArgumentException" P)) : GMet D yL_setToday cL_setToday 4 (some .int) [(0, 9, 12, 21)] (dep + 1) mc ms [gR (some x), gI a1, gR (some out)] h (pr (gI 1) P) := by
  refine GMet.introH RL rfl (by decide) (gcats rfl) (Nat.le_of_ble_eq_true rfl) fun K KX S => ?_
  show K 0 [some _, some _, some _, none] [] _ 0 0
  refine k_aload_n S dL_setToday_0 rfl ?_
  refine k_iconst S dL_setToday_1 ?_
  refine k_aload_n S dL_setToday_2 rfl ?_
  refine k_iload_n S dL_setToday_3 rfl ?_
  refine k_callV_x S dL_setToday_4 v_L_57 M (by assumption) (fun h4 hp4 => ?_) rfl rfl (by omega) (by omega) (by omega) (Nat.le_of_ble_eq_true rfl)
  refine k_catch S [] (0, 9, 12, 21) [] rfl (fun z hz => by cases hz) (by decide) (by decide) cl_L_21 ca_IllegalArgument_IllegalArgument (fun q9 => ?_)
  refine k_astore_n S dL_setToday_12 (by decide) ?_
  refine k_iconst S dL_setToday_13 ?_
  exact k_ireturn S dL_setToday_14 ⟨rfl, hp4⟩ (by omega) (by omega)
/-- lengthOf, with an answer -/
theorem w_lengthOf_g (hx : h x = some (gObj 7 fs)) (hv : inR v) (M : GMet D yX7_lengthOf cX7_lengthOf 2 (some .int) [] dep mc ms [gR (some x), gI a1] h (pr (gI v) P)) (ho : ∀ h1, P h1 → ∃ f, h1 out = some (gArrL 3 1 f)) : GMet D yL_lengthOf cL_lengthOf 4 (some .int) [(0, 9, 12, 19)] (dep + 1) mc ms [gR (some x), gI a1, gR (some out)] h (pr (gI 0) (fun h2 => ∃ (h1 : GH) (g : Nat → Int), P h1 ∧ g 0 = v ∧ h2 = hput h1 out (gArrL 3 1 g))) := by
  refine GMet.introH RL rfl (by decide) (gcats rfl) (Nat.le_of_ble_eq_true rfl) fun K KX S => ?_
  show K 0 [some _, some _, some _, none] [] _ 0 0
  unfold inR at hv
  refine k_aload_n S dL_lengthOf_0 rfl ?_
  refine k_iconst S dL_lengthOf_1 ?_
  refine k_aload_n S dL_lengthOf_2 rfl ?_
  refine k_iload_n S dL_lengthOf_3 rfl ?_
  refine k_callV_r S dL_lengthOf_4 v_L_60 M (by assumption) (fun h4 hp4 => ?_) rfl rfl (by omega) (by omega) (by omega) (Nat.le_of_ble_eq_true rfl)
  obtain ⟨f, hf⟩ := ho h4 hp4
  refine k_i2l S dL_lengthOf_7 (by omega) ?_
  refine k_lastore S dL_lengthOf_8 (by assumption) (by omega) ?_
  refine k_goto (tgt := 15) S dL_lengthOf_9 (by decide) ?_
  refine k_iconst S dL_lengthOf_15 ?_
  exact k_ireturn S dL_lengthOf_16 ⟨rfl, h4, _, hp4, gupd_s _ _ _, rfl⟩ (by omega) (by omega)
/-- lengthOf, a throw -/
theorem w_lengthOf_1 (hx : h x = some (gObj 7 fs)) (M : GMet D yX7_lengthOf cX7_lengthOf 2 (some .int) [] dep mc ms [gR (some x), gI a1] h (px "java/lang/IndexOutOfBoundsException" P)) : GMet D yL_lengthOf cL_lengthOf 4 (some .int) [(0, 9, 12, 19)] (dep + 1) mc ms [gR (some x), gI a1, gR (some out)] h (pr (gI 1) P) := by
  refine GMet.introH RL rfl (by decide) (gcats rfl) (Nat.le_of_ble_eq_true rfl) fun K KX S => ?_
  show K 0 [some _, some _, some _, none] [] _ 0 0
  refine k_aload_n S dL_lengthOf_0 rfl ?_
  refine k_iconst S dL_lengthOf_1 ?_
  refine k_aload_n S dL_lengthOf_2 rfl ?_
  refine k_iload_n S dL_lengthOf_3 rfl ?_
  refine k_callV_x S dL_lengthOf_4 v_L_60 M (by assumption) (fun h4 hp4 => ?_) rfl rfl (by omega) (by omega) (by omega) (Nat.le_of_ble_eq_true rfl)
  refine k_catch S [] (0, 9, 12, 19) [] rfl (fun z hz => by cases hz) (by decide) (by decide) cl_L_19 ca_IndexOutOfBounds_IndexOutOfBounds (fun q9 => ?_)
  refine k_astore_n S dL_lengthOf_12 (by decide) ?_
  refine k_iconst S dL_lengthOf_13 ?_
  exact k_ireturn S dL_lengthOf_14 ⟨rfl, hp4⟩ (by omega) (by omega)
/-- characterOf, with an answer -/
theorem w_characterOf_g (hx : h x = some (gObj 7 fs)) (hv : inR v) (M : GMet D yX7_characterOf cX7_characterOf 3 (some .char) [] dep mc ms [gR (some x), gI a1, gI a2] h (pr (gI v) P)) (ho : ∀ h1, P h1 → ∃ f, h1 out = some (gArrL 3 1 f)) : GMet D yL_characterOf cL_characterOf 5 (some .int) [(0, 10, 13, 19), (0, 10, 17, 67)] (dep + 1) mc ms [gR (some x), gI a1, gI a2, gR (some out)] h (pr (gI 0) (fun h2 => ∃ (h1 : GH) (g : Nat → Int), P h1 ∧ g 0 = v ∧ h2 = hput h1 out (gArrL 3 1 g))) := by
  refine GMet.introH RL rfl (by decide) (gcats rfl) (Nat.le_of_ble_eq_true rfl) fun K KX S => ?_
  show K 0 [some _, some _, some _, some _, none] [] _ 0 0
  unfold inR at hv
  refine k_aload_n S dL_characterOf_0 rfl ?_
  refine k_iconst S dL_characterOf_1 ?_
  refine k_aload_n S dL_characterOf_2 rfl ?_
  refine k_iload_n S dL_characterOf_3 rfl ?_
  refine k_iload_n S dL_characterOf_4 rfl ?_
  refine k_callV_r S dL_characterOf_5 v_L_63 M (by assumption) (fun h5 hp5 => ?_) rfl rfl (by omega) (by omega) (by omega) (Nat.le_of_ble_eq_true rfl)
  obtain ⟨f, hf⟩ := ho h5 hp5
  refine k_i2l S dL_characterOf_8 (by omega) ?_
  refine k_lastore S dL_characterOf_9 (by assumption) (by omega) ?_
  refine k_goto (tgt := 21) S dL_characterOf_10 (by decide) ?_
  refine k_iconst S dL_characterOf_21 ?_
  exact k_ireturn S dL_characterOf_22 ⟨rfl, h5, _, hp5, gupd_s _ _ _, rfl⟩ (by omega) (by omega)
/-- characterOf, a throw -/
theorem w_characterOf_1 (hx : h x = some (gObj 7 fs)) (M : GMet D yX7_characterOf cX7_characterOf 3 (some .char) [] dep mc ms [gR (some x), gI a1, gI a2] h (px "java/lang/IndexOutOfBoundsException" P)) : GMet D yL_characterOf cL_characterOf 5 (some .int) [(0, 10, 13, 19), (0, 10, 17, 67)] (dep + 1) mc ms [gR (some x), gI a1, gI a2, gR (some out)] h (pr (gI 1) P) := by
  refine GMet.introH RL rfl (by decide) (gcats rfl) (Nat.le_of_ble_eq_true rfl) fun K KX S => ?_
  show K 0 [some _, some _, some _, some _, none] [] _ 0 0
  refine k_aload_n S dL_characterOf_0 rfl ?_
  refine k_iconst S dL_characterOf_1 ?_
  refine k_aload_n S dL_characterOf_2 rfl ?_
  refine k_iload_n S dL_characterOf_3 rfl ?_
  refine k_iload_n S dL_characterOf_4 rfl ?_
  refine k_callV_x S dL_characterOf_5 v_L_63 M (by assumption) (fun h5 hp5 => ?_) rfl rfl (by omega) (by omega) (by omega) (Nat.le_of_ble_eq_true rfl)
  refine k_catch S [] (0, 10, 13, 19) [(0, 10, 17, 67)] rfl (fun z hz => by cases hz) (by decide) (by decide) cl_L_19 ca_IndexOutOfBounds_IndexOutOfBounds (fun q9 => ?_)
  refine k_astore S dL_characterOf_13 (by decide) ?_
  refine k_iconst S dL_characterOf_15 ?_
  exact k_ireturn S dL_characterOf_16 ⟨rfl, hp5⟩ (by omega) (by omega)
/-- characterOf, a throw -/
theorem w_characterOf_2 (hx : h x = some (gObj 7 fs)) (M : GMet D yX7_characterOf cX7_characterOf 3 (some .char) [] dep mc ms [gR (some x), gI a1, gI a2] h (px "java/util/NoSuchElementException" P)) : GMet D yL_characterOf cL_characterOf 5 (some .int) [(0, 10, 13, 19), (0, 10, 17, 67)] (dep + 1) mc ms [gR (some x), gI a1, gI a2, gR (some out)] h (pr (gI 2) P) := by
  refine GMet.introH RL rfl (by decide) (gcats rfl) (Nat.le_of_ble_eq_true rfl) fun K KX S => ?_
  show K 0 [some _, some _, some _, some _, none] [] _ 0 0
  refine k_aload_n S dL_characterOf_0 rfl ?_
  refine k_iconst S dL_characterOf_1 ?_
  refine k_aload_n S dL_characterOf_2 rfl ?_
  refine k_iload_n S dL_characterOf_3 rfl ?_
  refine k_iload_n S dL_characterOf_4 rfl ?_
  refine k_callV_x S dL_characterOf_5 v_L_63 M (by assumption) (fun h5 hp5 => ?_) rfl rfl (by omega) (by omega) (by omega) (Nat.le_of_ble_eq_true rfl)
  refine k_catch S [(0, 10, 13, 19)] (0, 10, 17, 67) [] rfl (List.forall_mem_cons.mpr ⟨⟨by decide, "java/lang/IndexOutOfBoundsException", cl_L_19, by decide⟩, (fun _ h => absurd h List.not_mem_nil)⟩) (by decide) (by decide) cl_L_67 ca_NoSuchElement_NoSuchElement (fun q9 => ?_)
  refine k_astore S dL_characterOf_17 (by decide) ?_
  refine k_iconst S dL_characterOf_19 ?_
  exact k_ireturn S dL_characterOf_20 ⟨rfl, hp5⟩ (by omega) (by omega)
/-- stopsOf, with an answer -/
theorem w_stopsOf_g (hx : h x = some (gObj 7 fs)) (hv : inR v) (M : GMet D yX7_stopsOf cX7_stopsOf 2 (some .int) [] dep mc ms [gR (some x), gI a1] h (pr (gI v) P)) (ho : ∀ h1, P h1 → ∃ f, h1 out = some (gArrL 3 1 f)) : GMet D yL_stopsOf cL_stopsOf 4 (some .int) [(0, 9, 12, 19)] (dep + 1) mc ms [gR (some x), gI a1, gR (some out)] h (pr (gI 0) (fun h2 => ∃ (h1 : GH) (g : Nat → Int), P h1 ∧ g 0 = v ∧ h2 = hput h1 out (gArrL 3 1 g))) := by
  refine GMet.introH RL rfl (by decide) (gcats rfl) (Nat.le_of_ble_eq_true rfl) fun K KX S => ?_
  show K 0 [some _, some _, some _, none] [] _ 0 0
  unfold inR at hv
  refine k_aload_n S dL_stopsOf_0 rfl ?_
  refine k_iconst S dL_stopsOf_1 ?_
  refine k_aload_n S dL_stopsOf_2 rfl ?_
  refine k_iload_n S dL_stopsOf_3 rfl ?_
  refine k_callV_r S dL_stopsOf_4 v_L_69 M (by assumption) (fun h4 hp4 => ?_) rfl rfl (by omega) (by omega) (by omega) (Nat.le_of_ble_eq_true rfl)
  obtain ⟨f, hf⟩ := ho h4 hp4
  refine k_i2l S dL_stopsOf_7 (by omega) ?_
  refine k_lastore S dL_stopsOf_8 (by assumption) (by omega) ?_
  refine k_goto (tgt := 15) S dL_stopsOf_9 (by decide) ?_
  refine k_iconst S dL_stopsOf_15 ?_
  exact k_ireturn S dL_stopsOf_16 ⟨rfl, h4, _, hp4, gupd_s _ _ _, rfl⟩ (by omega) (by omega)
/-- stopsOf, a throw -/
theorem w_stopsOf_1 (hx : h x = some (gObj 7 fs)) (M : GMet D yX7_stopsOf cX7_stopsOf 2 (some .int) [] dep mc ms [gR (some x), gI a1] h (px "java/lang/IndexOutOfBoundsException" P)) : GMet D yL_stopsOf cL_stopsOf 4 (some .int) [(0, 9, 12, 19)] (dep + 1) mc ms [gR (some x), gI a1, gR (some out)] h (pr (gI 1) P) := by
  refine GMet.introH RL rfl (by decide) (gcats rfl) (Nat.le_of_ble_eq_true rfl) fun K KX S => ?_
  show K 0 [some _, some _, some _, none] [] _ 0 0
  refine k_aload_n S dL_stopsOf_0 rfl ?_
  refine k_iconst S dL_stopsOf_1 ?_
  refine k_aload_n S dL_stopsOf_2 rfl ?_
  refine k_iload_n S dL_stopsOf_3 rfl ?_
  refine k_callV_x S dL_stopsOf_4 v_L_69 M (by assumption) (fun h4 hp4 => ?_) rfl rfl (by omega) (by omega) (by omega) (Nat.le_of_ble_eq_true rfl)
  refine k_catch S [] (0, 9, 12, 19) [] rfl (fun z hz => by cases hz) (by decide) (by decide) cl_L_19 ca_IndexOutOfBounds_IndexOutOfBounds (fun q9 => ?_)
  refine k_astore_n S dL_stopsOf_12 (by decide) ?_
  refine k_iconst S dL_stopsOf_13 ?_
  exact k_ireturn S dL_stopsOf_14 ⟨rfl, hp4⟩ (by omega) (by omega)
/-- stopOf, with an answer -/
theorem w_stopOf_g (hx : h x = some (gObj 7 fs)) (hv : inR v) (M : GMet D yX7_stopOf cX7_stopOf 3 (some .int) [] dep mc ms [gR (some x), gI a1, gI a2] h (pr (gI v) P)) (ho : ∀ h1, P h1 → ∃ f, h1 out = some (gArrL 3 1 f)) : GMet D yL_stopOf cL_stopOf 5 (some .int) [(0, 10, 13, 19), (0, 10, 17, 67)] (dep + 1) mc ms [gR (some x), gI a1, gI a2, gR (some out)] h (pr (gI 0) (fun h2 => ∃ (h1 : GH) (g : Nat → Int), P h1 ∧ g 0 = v ∧ h2 = hput h1 out (gArrL 3 1 g))) := by
  refine GMet.introH RL rfl (by decide) (gcats rfl) (Nat.le_of_ble_eq_true rfl) fun K KX S => ?_
  show K 0 [some _, some _, some _, some _, none] [] _ 0 0
  unfold inR at hv
  refine k_aload_n S dL_stopOf_0 rfl ?_
  refine k_iconst S dL_stopOf_1 ?_
  refine k_aload_n S dL_stopOf_2 rfl ?_
  refine k_iload_n S dL_stopOf_3 rfl ?_
  refine k_iload_n S dL_stopOf_4 rfl ?_
  refine k_callV_r S dL_stopOf_5 v_L_72 M (by assumption) (fun h5 hp5 => ?_) rfl rfl (by omega) (by omega) (by omega) (Nat.le_of_ble_eq_true rfl)
  obtain ⟨f, hf⟩ := ho h5 hp5
  refine k_i2l S dL_stopOf_8 (by omega) ?_
  refine k_lastore S dL_stopOf_9 (by assumption) (by omega) ?_
  refine k_goto (tgt := 21) S dL_stopOf_10 (by decide) ?_
  refine k_iconst S dL_stopOf_21 ?_
  exact k_ireturn S dL_stopOf_22 ⟨rfl, h5, _, hp5, gupd_s _ _ _, rfl⟩ (by omega) (by omega)
/-- stopOf, a throw -/
theorem w_stopOf_1 (hx : h x = some (gObj 7 fs)) (M : GMet D yX7_stopOf cX7_stopOf 3 (some .int) [] dep mc ms [gR (some x), gI a1, gI a2] h (px "java/lang/IndexOutOfBoundsException" P)) : GMet D yL_stopOf cL_stopOf 5 (some .int) [(0, 10, 13, 19), (0, 10, 17, 67)] (dep + 1) mc ms [gR (some x), gI a1, gI a2, gR (some out)] h (pr (gI 1) P) := by
  refine GMet.introH RL rfl (by decide) (gcats rfl) (Nat.le_of_ble_eq_true rfl) fun K KX S => ?_
  show K 0 [some _, some _, some _, some _, none] [] _ 0 0
  refine k_aload_n S dL_stopOf_0 rfl ?_
  refine k_iconst S dL_stopOf_1 ?_
  refine k_aload_n S dL_stopOf_2 rfl ?_
  refine k_iload_n S dL_stopOf_3 rfl ?_
  refine k_iload_n S dL_stopOf_4 rfl ?_
  refine k_callV_x S dL_stopOf_5 v_L_72 M (by assumption) (fun h5 hp5 => ?_) rfl rfl (by omega) (by omega) (by omega) (Nat.le_of_ble_eq_true rfl)
  refine k_catch S [] (0, 10, 13, 19) [(0, 10, 17, 67)] rfl (fun z hz => by cases hz) (by decide) (by decide) cl_L_19 ca_IndexOutOfBounds_IndexOutOfBounds (fun q9 => ?_)
  refine k_astore S dL_stopOf_13 (by decide) ?_
  refine k_iconst S dL_stopOf_15 ?_
  exact k_ireturn S dL_stopOf_16 ⟨rfl, hp5⟩ (by omega) (by omega)
/-- stopOf, a throw -/
theorem w_stopOf_2 (hx : h x = some (gObj 7 fs)) (M : GMet D yX7_stopOf cX7_stopOf 3 (some .int) [] dep mc ms [gR (some x), gI a1, gI a2] h (px "java/util/NoSuchElementException" P)) : GMet D yL_stopOf cL_stopOf 5 (some .int) [(0, 10, 13, 19), (0, 10, 17, 67)] (dep + 1) mc ms [gR (some x), gI a1, gI a2, gR (some out)] h (pr (gI 2) P) := by
  refine GMet.introH RL rfl (by decide) (gcats rfl) (Nat.le_of_ble_eq_true rfl) fun K KX S => ?_
  show K 0 [some _, some _, some _, some _, none] [] _ 0 0
  refine k_aload_n S dL_stopOf_0 rfl ?_
  refine k_iconst S dL_stopOf_1 ?_
  refine k_aload_n S dL_stopOf_2 rfl ?_
  refine k_iload_n S dL_stopOf_3 rfl ?_
  refine k_iload_n S dL_stopOf_4 rfl ?_
  refine k_callV_x S dL_stopOf_5 v_L_72 M (by assumption) (fun h5 hp5 => ?_) rfl rfl (by omega) (by omega) (by omega) (Nat.le_of_ble_eq_true rfl)
  refine k_catch S [(0, 10, 13, 19)] (0, 10, 17, 67) [] rfl (List.forall_mem_cons.mpr ⟨⟨by decide, "java/lang/IndexOutOfBoundsException", cl_L_19, by decide⟩, (fun _ h => absurd h List.not_mem_nil)⟩) (by decide) (by decide) cl_L_67 ca_NoSuchElement_NoSuchElement (fun q9 => ?_)
  refine k_astore S dL_stopOf_17 (by decide) ?_
  refine k_iconst S dL_stopOf_19 ?_
  exact k_ireturn S dL_stopOf_20 ⟨rfl, hp5⟩ (by omega) (by omega)
/-- comesTo, with an answer -/
theorem w_comesTo_g (hx : h x = some (gObj 7 fs)) (hv : v = 0 ∨ v = 1) (M : GMet D yX7_comesTo cX7_comesTo 4 (some .boolean) [] dep mc ms [gR (some x), gI a1, gI a2] h (pr (gI v) P)) (ho : ∀ h1, P h1 → ∃ f, h1 out = some (gArrL 3 1 f)) : GMet D yL_comesTo cL_comesTo 5 (some .int) [(0, 17, 20, 19)] (dep + 1) mc ms [gR (some x), gI a1, gI a2, gR (some out)] h (pr (gI 0) (fun h2 => ∃ (h1 : GH) (g : Nat → Int), P h1 ∧ g 0 = v ∧ h2 = hput h1 out (gArrL 3 1 g))) := by
  refine GMet.introH RL rfl (by decide) (gcats rfl) (Nat.le_of_ble_eq_true rfl) fun K KX S => ?_
  show K 0 [some _, some _, some _, some _, none] [] _ 0 0
  refine k_aload_n S dL_comesTo_0 rfl ?_
  refine k_iconst S dL_comesTo_1 ?_
  refine k_aload_n S dL_comesTo_2 rfl ?_
  refine k_iload_n S dL_comesTo_3 rfl ?_
  refine k_iload_n S dL_comesTo_4 rfl ?_
  refine k_callV_r S dL_comesTo_5 v_L_75 M (by assumption) (fun h5 hp5 => ?_) rfl rfl (by omega) (by omega) (by omega) (Nat.le_of_ble_eq_true rfl)
  obtain ⟨f, hf⟩ := ho h5 hp5
  refine k_if_eq (tgt := 15) S dL_comesTo_8 (by decide) (by omega) (fun c8 => ?_) (fun c8 => ?_)
  · refine k_lconst S (v := 0) rfl dL_comesTo_15 ?_
    refine k_lastore S dL_comesTo_16 (by assumption) (by omega) ?_
    refine k_goto (tgt := 24) S dL_comesTo_17 (by decide) ?_
    refine k_iconst S dL_comesTo_24 ?_
    exact k_ireturn S dL_comesTo_25 ⟨rfl, h5, _, hp5, (gupd_s _ _ _).trans (by omega), rfl⟩ (by omega) (by omega)
  · refine k_lconst S (v := 1) rfl dL_comesTo_11 ?_
    refine k_goto (tgt := 16) S dL_comesTo_12 (by decide) ?_
    refine k_lastore S dL_comesTo_16 (by assumption) (by omega) ?_
    refine k_goto (tgt := 24) S dL_comesTo_17 (by decide) ?_
    refine k_iconst S dL_comesTo_24 ?_
    exact k_ireturn S dL_comesTo_25 ⟨rfl, h5, _, hp5, (gupd_s _ _ _).trans (by omega), rfl⟩ (by omega) (by omega)
/-- comesTo, a throw -/
theorem w_comesTo_1 (hx : h x = some (gObj 7 fs)) (M : GMet D yX7_comesTo cX7_comesTo 4 (some .boolean) [] dep mc ms [gR (some x), gI a1, gI a2] h (px "java/lang/IndexOutOfBoundsException" P)) : GMet D yL_comesTo cL_comesTo 5 (some .int) [(0, 17, 20, 19)] (dep + 1) mc ms [gR (some x), gI a1, gI a2, gR (some out)] h (pr (gI 1) P) := by
  refine GMet.introH RL rfl (by decide) (gcats rfl) (Nat.le_of_ble_eq_true rfl) fun K KX S => ?_
  show K 0 [some _, some _, some _, some _, none] [] _ 0 0
  refine k_aload_n S dL_comesTo_0 rfl ?_
  refine k_iconst S dL_comesTo_1 ?_
  refine k_aload_n S dL_comesTo_2 rfl ?_
  refine k_iload_n S dL_comesTo_3 rfl ?_
  refine k_iload_n S dL_comesTo_4 rfl ?_
  refine k_callV_x S dL_comesTo_5 v_L_75 M (by assumption) (fun h5 hp5 => ?_) rfl rfl (by omega) (by omega) (by omega) (Nat.le_of_ble_eq_true rfl)
  refine k_catch S [] (0, 17, 20, 19) [] rfl (fun z hz => by cases hz) (by decide) (by decide) cl_L_19 ca_IndexOutOfBounds_IndexOutOfBounds (fun q9 => ?_)
  refine k_astore S dL_comesTo_20 (by decide) ?_
  refine k_iconst S dL_comesTo_22 ?_
  exact k_ireturn S dL_comesTo_23 ⟨rfl, hp5⟩ (by omega) (by omega)
/-- depth, with an answer -/
theorem w_depth_g (hx : h x = some (gObj 7 fs)) (hv : inR v) (M : GMet D yX7_depth cX7_depth 2 (some .int) [] dep mc ms [gR (some x), gI a1] h (pr (gI v) P)) (ho : ∀ h1, P h1 → ∃ f, h1 out = some (gArrL 3 1 f)) : GMet D yL_depth cL_depth 4 (some .int) [(0, 9, 12, 19)] (dep + 1) mc ms [gR (some x), gI a1, gR (some out)] h (pr (gI 0) (fun h2 => ∃ (h1 : GH) (g : Nat → Int), P h1 ∧ g 0 = v ∧ h2 = hput h1 out (gArrL 3 1 g))) := by
  refine GMet.introH RL rfl (by decide) (gcats rfl) (Nat.le_of_ble_eq_true rfl) fun K KX S => ?_
  show K 0 [some _, some _, some _, none] [] _ 0 0
  unfold inR at hv
  refine k_aload_n S dL_depth_0 rfl ?_
  refine k_iconst S dL_depth_1 ?_
  refine k_aload_n S dL_depth_2 rfl ?_
  refine k_iload_n S dL_depth_3 rfl ?_
  refine k_callV_r S dL_depth_4 v_L_79 M (by assumption) (fun h4 hp4 => ?_) rfl rfl (by omega) (by omega) (by omega) (Nat.le_of_ble_eq_true rfl)
  obtain ⟨f, hf⟩ := ho h4 hp4
  refine k_i2l S dL_depth_7 (by omega) ?_
  refine k_lastore S dL_depth_8 (by assumption) (by omega) ?_
  refine k_goto (tgt := 15) S dL_depth_9 (by decide) ?_
  refine k_iconst S dL_depth_15 ?_
  exact k_ireturn S dL_depth_16 ⟨rfl, h4, _, hp4, gupd_s _ _ _, rfl⟩ (by omega) (by omega)
/-- depth, a throw -/
theorem w_depth_1 (hx : h x = some (gObj 7 fs)) (M : GMet D yX7_depth cX7_depth 2 (some .int) [] dep mc ms [gR (some x), gI a1] h (px "java/lang/IndexOutOfBoundsException" P)) : GMet D yL_depth cL_depth 4 (some .int) [(0, 9, 12, 19)] (dep + 1) mc ms [gR (some x), gI a1, gR (some out)] h (pr (gI 1) P) := by
  refine GMet.introH RL rfl (by decide) (gcats rfl) (Nat.le_of_ble_eq_true rfl) fun K KX S => ?_
  show K 0 [some _, some _, some _, none] [] _ 0 0
  refine k_aload_n S dL_depth_0 rfl ?_
  refine k_iconst S dL_depth_1 ?_
  refine k_aload_n S dL_depth_2 rfl ?_
  refine k_iload_n S dL_depth_3 rfl ?_
  refine k_callV_x S dL_depth_4 v_L_79 M (by assumption) (fun h4 hp4 => ?_) rfl rfl (by omega) (by omega) (by omega) (Nat.le_of_ble_eq_true rfl)
  refine k_catch S [] (0, 9, 12, 19) [] rfl (fun z hz => by cases hz) (by decide) (by decide) cl_L_19 ca_IndexOutOfBounds_IndexOutOfBounds (fun q9 => ?_)
  refine k_astore_n S dL_depth_12 (by decide) ?_
  refine k_iconst S dL_depth_13 ?_
  exact k_ireturn S dL_depth_14 ⟨rfl, hp4⟩ (by omega) (by omega)
/-- isShadowedBy, with an answer -/
theorem w_isShadowedBy_g (hx : h x = some (gObj 7 fs)) (hv : v = 0 ∨ v = 1) (M : GMet D yX7_isShadowedBy cX7_isShadowedBy 3 (some .boolean) [] dep mc ms [gR (some x), gI a1, gI a2] h (pr (gI v) P)) (ho : ∀ h1, P h1 → ∃ f, h1 out = some (gArrL 3 1 f)) : GMet D yL_isShadowedBy cL_isShadowedBy 5 (some .int) [(0, 17, 20, 19)] (dep + 1) mc ms [gR (some x), gI a1, gI a2, gR (some out)] h (pr (gI 0) (fun h2 => ∃ (h1 : GH) (g : Nat → Int), P h1 ∧ g 0 = v ∧ h2 = hput h1 out (gArrL 3 1 g))) := by
  refine GMet.introH RL rfl (by decide) (gcats rfl) (Nat.le_of_ble_eq_true rfl) fun K KX S => ?_
  show K 0 [some _, some _, some _, some _, none] [] _ 0 0
  refine k_aload_n S dL_isShadowedBy_0 rfl ?_
  refine k_iconst S dL_isShadowedBy_1 ?_
  refine k_aload_n S dL_isShadowedBy_2 rfl ?_
  refine k_iload_n S dL_isShadowedBy_3 rfl ?_
  refine k_iload_n S dL_isShadowedBy_4 rfl ?_
  refine k_callV_r S dL_isShadowedBy_5 v_L_82 M (by assumption) (fun h5 hp5 => ?_) rfl rfl (by omega) (by omega) (by omega) (Nat.le_of_ble_eq_true rfl)
  obtain ⟨f, hf⟩ := ho h5 hp5
  refine k_if_eq (tgt := 15) S dL_isShadowedBy_8 (by decide) (by omega) (fun c8 => ?_) (fun c8 => ?_)
  · refine k_lconst S (v := 0) rfl dL_isShadowedBy_15 ?_
    refine k_lastore S dL_isShadowedBy_16 (by assumption) (by omega) ?_
    refine k_goto (tgt := 24) S dL_isShadowedBy_17 (by decide) ?_
    refine k_iconst S dL_isShadowedBy_24 ?_
    exact k_ireturn S dL_isShadowedBy_25 ⟨rfl, h5, _, hp5, (gupd_s _ _ _).trans (by omega), rfl⟩ (by omega) (by omega)
  · refine k_lconst S (v := 1) rfl dL_isShadowedBy_11 ?_
    refine k_goto (tgt := 16) S dL_isShadowedBy_12 (by decide) ?_
    refine k_lastore S dL_isShadowedBy_16 (by assumption) (by omega) ?_
    refine k_goto (tgt := 24) S dL_isShadowedBy_17 (by decide) ?_
    refine k_iconst S dL_isShadowedBy_24 ?_
    exact k_ireturn S dL_isShadowedBy_25 ⟨rfl, h5, _, hp5, (gupd_s _ _ _).trans (by omega), rfl⟩ (by omega) (by omega)
/-- isShadowedBy, a throw -/
theorem w_isShadowedBy_1 (hx : h x = some (gObj 7 fs)) (M : GMet D yX7_isShadowedBy cX7_isShadowedBy 3 (some .boolean) [] dep mc ms [gR (some x), gI a1, gI a2] h (px "java/lang/IndexOutOfBoundsException" P)) : GMet D yL_isShadowedBy cL_isShadowedBy 5 (some .int) [(0, 17, 20, 19)] (dep + 1) mc ms [gR (some x), gI a1, gI a2, gR (some out)] h (pr (gI 1) P) := by
  refine GMet.introH RL rfl (by decide) (gcats rfl) (Nat.le_of_ble_eq_true rfl) fun K KX S => ?_
  show K 0 [some _, some _, some _, some _, none] [] _ 0 0
  refine k_aload_n S dL_isShadowedBy_0 rfl ?_
  refine k_iconst S dL_isShadowedBy_1 ?_
  refine k_aload_n S dL_isShadowedBy_2 rfl ?_
  refine k_iload_n S dL_isShadowedBy_3 rfl ?_
  refine k_iload_n S dL_isShadowedBy_4 rfl ?_
  refine k_callV_x S dL_isShadowedBy_5 v_L_82 M (by assumption) (fun h5 hp5 => ?_) rfl rfl (by omega) (by omega) (by omega) (Nat.le_of_ble_eq_true rfl)
  refine k_catch S [] (0, 17, 20, 19) [] rfl (fun z hz => by cases hz) (by decide) (by decide) cl_L_19 ca_IndexOutOfBounds_IndexOutOfBounds (fun q9 => ?_)
  refine k_astore S dL_isShadowedBy_20 (by decide) ?_
  refine k_iconst S dL_isShadowedBy_22 ?_
  exact k_ireturn S dL_isShadowedBy_23 ⟨rfl, hp5⟩ (by omega) (by omega)
/-- shadower, with an answer -/
theorem w_shadower_g (hx : h x = some (gObj 7 fs)) (hv : inR v) (M : GMet D yX7_shadower cX7_shadower 3 (some .int) [] dep mc ms [gR (some x), gI a1] h (pr (gI v) P)) (ho : ∀ h1, P h1 → ∃ f, h1 out = some (gArrL 3 1 f)) : GMet D yL_shadower cL_shadower 4 (some .int) [(0, 9, 12, 19), (0, 9, 15, 67)] (dep + 1) mc ms [gR (some x), gI a1, gR (some out)] h (pr (gI 0) (fun h2 => ∃ (h1 : GH) (g : Nat → Int), P h1 ∧ g 0 = v ∧ h2 = hput h1 out (gArrL 3 1 g))) := by
  refine GMet.introH RL rfl (by decide) (gcats rfl) (Nat.le_of_ble_eq_true rfl) fun K KX S => ?_
  show K 0 [some _, some _, some _, none] [] _ 0 0
  unfold inR at hv
  refine k_aload_n S dL_shadower_0 rfl ?_
  refine k_iconst S dL_shadower_1 ?_
  refine k_aload_n S dL_shadower_2 rfl ?_
  refine k_iload_n S dL_shadower_3 rfl ?_
  refine k_callV_r S dL_shadower_4 v_L_85 M (by assumption) (fun h4 hp4 => ?_) rfl rfl (by omega) (by omega) (by omega) (Nat.le_of_ble_eq_true rfl)
  obtain ⟨f, hf⟩ := ho h4 hp4
  refine k_i2l S dL_shadower_7 (by omega) ?_
  refine k_lastore S dL_shadower_8 (by assumption) (by omega) ?_
  refine k_goto (tgt := 18) S dL_shadower_9 (by decide) ?_
  refine k_iconst S dL_shadower_18 ?_
  exact k_ireturn S dL_shadower_19 ⟨rfl, h4, _, hp4, gupd_s _ _ _, rfl⟩ (by omega) (by omega)
/-- shadower, a throw -/
theorem w_shadower_1 (hx : h x = some (gObj 7 fs)) (M : GMet D yX7_shadower cX7_shadower 3 (some .int) [] dep mc ms [gR (some x), gI a1] h (px "java/lang/IndexOutOfBoundsException" P)) : GMet D yL_shadower cL_shadower 4 (some .int) [(0, 9, 12, 19), (0, 9, 15, 67)] (dep + 1) mc ms [gR (some x), gI a1, gR (some out)] h (pr (gI 1) P) := by
  refine GMet.introH RL rfl (by decide) (gcats rfl) (Nat.le_of_ble_eq_true rfl) fun K KX S => ?_
  show K 0 [some _, some _, some _, none] [] _ 0 0
  refine k_aload_n S dL_shadower_0 rfl ?_
  refine k_iconst S dL_shadower_1 ?_
  refine k_aload_n S dL_shadower_2 rfl ?_
  refine k_iload_n S dL_shadower_3 rfl ?_
  refine k_callV_x S dL_shadower_4 v_L_85 M (by assumption) (fun h4 hp4 => ?_) rfl rfl (by omega) (by omega) (by omega) (Nat.le_of_ble_eq_true rfl)
  refine k_catch S [] (0, 9, 12, 19) [(0, 9, 15, 67)] rfl (fun z hz => by cases hz) (by decide) (by decide) cl_L_19 ca_IndexOutOfBounds_IndexOutOfBounds (fun q9 => ?_)
  refine k_astore_n S dL_shadower_12 (by decide) ?_
  refine k_iconst S dL_shadower_13 ?_
  exact k_ireturn S dL_shadower_14 ⟨rfl, hp4⟩ (by omega) (by omega)
/-- shadower, a throw -/
theorem w_shadower_2 (hx : h x = some (gObj 7 fs)) (M : GMet D yX7_shadower cX7_shadower 3 (some .int) [] dep mc ms [gR (some x), gI a1] h (px "java/util/NoSuchElementException" P)) : GMet D yL_shadower cL_shadower 4 (some .int) [(0, 9, 12, 19), (0, 9, 15, 67)] (dep + 1) mc ms [gR (some x), gI a1, gR (some out)] h (pr (gI 2) P) := by
  refine GMet.introH RL rfl (by decide) (gcats rfl) (Nat.le_of_ble_eq_true rfl) fun K KX S => ?_
  show K 0 [some _, some _, some _, none] [] _ 0 0
  refine k_aload_n S dL_shadower_0 rfl ?_
  refine k_iconst S dL_shadower_1 ?_
  refine k_aload_n S dL_shadower_2 rfl ?_
  refine k_iload_n S dL_shadower_3 rfl ?_
  refine k_callV_x S dL_shadower_4 v_L_85 M (by assumption) (fun h4 hp4 => ?_) rfl rfl (by omega) (by omega) (by omega) (Nat.le_of_ble_eq_true rfl)
  refine k_catch S [(0, 9, 12, 19)] (0, 9, 15, 67) [] rfl (List.forall_mem_cons.mpr ⟨⟨by decide, "java/lang/IndexOutOfBoundsException", cl_L_19, by decide⟩, (fun _ h => absurd h List.not_mem_nil)⟩) (by decide) (by decide) cl_L_67 ca_NoSuchElement_NoSuchElement (fun q9 => ?_)
  refine k_astore_n S dL_shadower_15 (by decide) ?_
  refine k_iconst S dL_shadower_16 ?_
  exact k_ireturn S dL_shadower_17 ⟨rfl, hp4⟩ (by omega) (by omega)
/-- key, with an answer -/
theorem w_key_g (hx : h x = some (gObj 7 fs)) (hv : inR v) (M : GMet D yX7_key cX7_key 3 (some .int) [] dep mc ms [gR (some x), gI a1] h (pr (gI v) P)) (ho : ∀ h1, P h1 → ∃ f, h1 out = some (gArrL 3 1 f)) : GMet D yL_key cL_key 4 (some .int) [(0, 9, 12, 21), (0, 9, 15, 13)] (dep + 1) mc ms [gR (some x), gI a1, gR (some out)] h (pr (gI 0) (fun h2 => ∃ (h1 : GH) (g : Nat → Int), P h1 ∧ g 0 = v ∧ h2 = hput h1 out (gArrL 3 1 g))) := by
  refine GMet.introH RL rfl (by decide) (gcats rfl) (Nat.le_of_ble_eq_true rfl) fun K KX S => ?_
  show K 0 [some _, some _, some _, none] [] _ 0 0
  unfold inR at hv
  refine k_aload_n S dL_key_0 rfl ?_
  refine k_iconst S dL_key_1 ?_
  refine k_aload_n S dL_key_2 rfl ?_
  refine k_iload_n S dL_key_3 rfl ?_
  refine k_callV_r S dL_key_4 v_L_88 M (by assumption) (fun h4 hp4 => ?_) rfl rfl (by omega) (by omega) (by omega) (Nat.le_of_ble_eq_true rfl)
  obtain ⟨f, hf⟩ := ho h4 hp4
  refine k_i2l S dL_key_7 (by omega) ?_
  refine k_lastore S dL_key_8 (by assumption) (by omega) ?_
  refine k_goto (tgt := 18) S dL_key_9 (by decide) ?_
  refine k_iconst S dL_key_18 ?_
  exact k_ireturn S dL_key_19 ⟨rfl, h4, _, hp4, gupd_s _ _ _, rfl⟩ (by omega) (by omega)
/-- key, a throw -/
theorem w_key_1 (hx : h x = some (gObj 7 fs)) (M : GMet D yX7_key cX7_key 3 (some .int) [] dep mc ms [gR (some x), gI a1] h (px "java/lang/IllegalArgumentException" P)) : GMet D yL_key cL_key 4 (some .int) [(0, 9, 12, 21), (0, 9, 15, 13)] (dep + 1) mc ms [gR (some x), gI a1, gR (some out)] h (pr (gI 1) P) := by
  refine GMet.introH RL rfl (by decide) (gcats rfl) (Nat.le_of_ble_eq_true rfl) fun K KX S => ?_
  show K 0 [some _, some _, some _, none] [] _ 0 0
  refine k_aload_n S dL_key_0 rfl ?_
  refine k_iconst S dL_key_1 ?_
  refine k_aload_n S dL_key_2 rfl ?_
  refine k_iload_n S dL_key_3 rfl ?_
  refine k_callV_x S dL_key_4 v_L_88 M (by assumption) (fun h4 hp4 => ?_) rfl rfl (by omega) (by omega) (by omega) (Nat.le_of_ble_eq_true rfl)
  refine k_catch S [] (0, 9, 12, 21) [(0, 9, 15, 13)] rfl (fun z hz => by cases hz) (by decide) (by decide) cl_L_21 ca_IllegalArgument_IllegalArgument (fun q9 => ?_)
  refine k_astore_n S dL_key_12 (by decide) ?_
  refine k_iconst S dL_key_13 ?_
  exact k_ireturn S dL_key_14 ⟨rfl, hp4⟩ (by omega) (by omega)
/-- key, a throw -/
theorem w_key_2 (hx : h x = some (gObj 7 fs)) (M : GMet D yX7_key cX7_key 3 (some .int) [] dep mc ms [gR (some x), gI a1] h (px "java/lang/IllegalStateException" P)) : GMet D yL_key cL_key 4 (some .int) [(0, 9, 12, 21), (0, 9, 15, 13)] (dep + 1) mc ms [gR (some x), gI a1, gR (some out)] h (pr (gI 2) P) := by
  refine GMet.introH RL rfl (by decide) (gcats rfl) (Nat.le_of_ble_eq_true rfl) fun K KX S => ?_
  show K 0 [some _, some _, some _, none] [] _ 0 0
  refine k_aload_n S dL_key_0 rfl ?_
  refine k_iconst S dL_key_1 ?_
  refine k_aload_n S dL_key_2 rfl ?_
  refine k_iload_n S dL_key_3 rfl ?_
  refine k_callV_x S dL_key_4 v_L_88 M (by assumption) (fun h4 hp4 => ?_) rfl rfl (by omega) (by omega) (by omega) (Nat.le_of_ble_eq_true rfl)
  refine k_catch S [(0, 9, 12, 21)] (0, 9, 15, 13) [] rfl (List.forall_mem_cons.mpr ⟨⟨by decide, "java/lang/IllegalArgumentException", cl_L_21, by decide⟩, (fun _ h => absurd h List.not_mem_nil)⟩) (by decide) (by decide) cl_L_13 ca_IllegalState_IllegalState (fun q9 => ?_)
  refine k_astore_n S dL_key_15 (by decide) ?_
  refine k_iconst S dL_key_16 ?_
  exact k_ireturn S dL_key_17 ⟨rfl, hp4⟩ (by omega) (by omega)
/-- erase, with an answer -/
theorem w_erase_g (hx : h x = some (gObj 7 fs)) (hv : inR v) (M : GMet D yX7_erase cX7_erase 1 (some .char) [] dep mc ms [gR (some x)] h (pr (gI v) P)) (ho : ∀ h1, P h1 → ∃ f, h1 out = some (gArrL 3 1 f)) : GMet D yL_erase cL_erase 3 (some .int) [(0, 8, 11, 67)] (dep + 1) mc ms [gR (some x), gR (some out)] h (pr (gI 0) (fun h2 => ∃ (h1 : GH) (g : Nat → Int), P h1 ∧ g 0 = v ∧ h2 = hput h1 out (gArrL 3 1 g))) := by
  refine GMet.introH RL rfl (by decide) (gcats rfl) (Nat.le_of_ble_eq_true rfl) fun K KX S => ?_
  show K 0 [some _, some _, none] [] _ 0 0
  unfold inR at hv
  refine k_aload_n S dL_erase_0 rfl ?_
  refine k_iconst S dL_erase_1 ?_
  refine k_aload_n S dL_erase_2 rfl ?_
  refine k_callV_r S dL_erase_3 v_L_92 M (by assumption) (fun h3 hp3 => ?_) rfl rfl (by omega) (by omega) (by omega) (Nat.le_of_ble_eq_true rfl)
  obtain ⟨f, hf⟩ := ho h3 hp3
  refine k_i2l S dL_erase_6 (by omega) ?_
  refine k_lastore S dL_erase_7 (by assumption) (by omega) ?_
  refine k_goto (tgt := 14) S dL_erase_8 (by decide) ?_
  refine k_iconst S dL_erase_14 ?_
  exact k_ireturn S dL_erase_15 ⟨rfl, h3, _, hp3, gupd_s _ _ _, rfl⟩ (by omega) (by omega)
/-- erase, a throw -/
theorem w_erase_1 (hx : h x = some (gObj 7 fs)) (M : GMet D yX7_erase cX7_erase 1 (some .char) [] dep mc ms [gR (some x)] h (px "java/util/NoSuchElementException" P)) : GMet D yL_erase cL_erase 3 (some .int) [(0, 8, 11, 67)] (dep + 1) mc ms [gR (some x), gR (some out)] h (pr (gI 1) P) := by
  refine GMet.introH RL rfl (by decide) (gcats rfl) (Nat.le_of_ble_eq_true rfl) fun K KX S => ?_
  show K 0 [some _, some _, none] [] _ 0 0
  refine k_aload_n S dL_erase_0 rfl ?_
  refine k_iconst S dL_erase_1 ?_
  refine k_aload_n S dL_erase_2 rfl ?_
  refine k_callV_x S dL_erase_3 v_L_92 M (by assumption) (fun h3 hp3 => ?_) rfl rfl (by omega) (by omega) (by omega) (Nat.le_of_ble_eq_true rfl)
  refine k_catch S [] (0, 8, 11, 67) [] rfl (fun z hz => by cases hz) (by decide) (by decide) cl_L_67 ca_NoSuchElement_NoSuchElement (fun q9 => ?_)
  refine k_astore_n S dL_erase_11 (by decide) ?_
  refine k_iconst S dL_erase_12 ?_
  exact k_ireturn S dL_erase_13 ⟨rfl, hp3⟩ (by omega) (by omega)
/-- moveCaret, with an answer -/
theorem w_moveCaret_g (hx : h x = some (gObj 7 fs)) (hv : inR v) (M : GMet D yX7_moveCaret cX7_moveCaret 2 (some .int) [] dep mc ms [gR (some x), gI a1] h (pr (gI v) P)) (ho : ∀ h1, P h1 → ∃ f, h1 out = some (gArrL 3 1 f)) : GMet D yL_moveCaret cL_moveCaret 4 (some .int) [(0, 9, 12, 21)] (dep + 1) mc ms [gR (some x), gI a1, gR (some out)] h (pr (gI 0) (fun h2 => ∃ (h1 : GH) (g : Nat → Int), P h1 ∧ g 0 = v ∧ h2 = hput h1 out (gArrL 3 1 g))) := by
  refine GMet.introH RL rfl (by decide) (gcats rfl) (Nat.le_of_ble_eq_true rfl) fun K KX S => ?_
  show K 0 [some _, some _, some _, none] [] _ 0 0
  unfold inR at hv
  refine k_aload_n S dL_moveCaret_0 rfl ?_
  refine k_iconst S dL_moveCaret_1 ?_
  refine k_aload_n S dL_moveCaret_2 rfl ?_
  refine k_iload_n S dL_moveCaret_3 rfl ?_
  refine k_callV_r S dL_moveCaret_4 v_L_96 M (by assumption) (fun h4 hp4 => ?_) rfl rfl (by omega) (by omega) (by omega) (Nat.le_of_ble_eq_true rfl)
  obtain ⟨f, hf⟩ := ho h4 hp4
  refine k_i2l S dL_moveCaret_7 (by omega) ?_
  refine k_lastore S dL_moveCaret_8 (by assumption) (by omega) ?_
  refine k_goto (tgt := 15) S dL_moveCaret_9 (by decide) ?_
  refine k_iconst S dL_moveCaret_15 ?_
  exact k_ireturn S dL_moveCaret_16 ⟨rfl, h4, _, hp4, gupd_s _ _ _, rfl⟩ (by omega) (by omega)
/-- moveCaret, a throw -/
theorem w_moveCaret_1 (hx : h x = some (gObj 7 fs)) (M : GMet D yX7_moveCaret cX7_moveCaret 2 (some .int) [] dep mc ms [gR (some x), gI a1] h (px "java/lang/IllegalArgumentException" P)) : GMet D yL_moveCaret cL_moveCaret 4 (some .int) [(0, 9, 12, 21)] (dep + 1) mc ms [gR (some x), gI a1, gR (some out)] h (pr (gI 1) P) := by
  refine GMet.introH RL rfl (by decide) (gcats rfl) (Nat.le_of_ble_eq_true rfl) fun K KX S => ?_
  show K 0 [some _, some _, some _, none] [] _ 0 0
  refine k_aload_n S dL_moveCaret_0 rfl ?_
  refine k_iconst S dL_moveCaret_1 ?_
  refine k_aload_n S dL_moveCaret_2 rfl ?_
  refine k_iload_n S dL_moveCaret_3 rfl ?_
  refine k_callV_x S dL_moveCaret_4 v_L_96 M (by assumption) (fun h4 hp4 => ?_) rfl rfl (by omega) (by omega) (by omega) (Nat.le_of_ble_eq_true rfl)
  refine k_catch S [] (0, 9, 12, 21) [] rfl (fun z hz => by cases hz) (by decide) (by decide) cl_L_21 ca_IllegalArgument_IllegalArgument (fun q9 => ?_)
  refine k_astore_n S dL_moveCaret_12 (by decide) ?_
  refine k_iconst S dL_moveCaret_13 ?_
  exact k_ireturn S dL_moveCaret_14 ⟨rfl, hp4⟩ (by omega) (by omega)
/-- nextStop, with an answer -/
theorem w_nextStop_g (hx : h x = some (gObj 7 fs)) (hv : inR v) (M : GMet D yX7_nextStop cX7_nextStop 1 (some .int) [] dep mc ms [gR (some x)] h (pr (gI v) P)) (ho : ∀ h1, P h1 → ∃ f, h1 out = some (gArrL 3 1 f)) : GMet D yL_nextStop cL_nextStop 3 (some .int) [(0, 8, 11, 67)] (dep + 1) mc ms [gR (some x), gR (some out)] h (pr (gI 0) (fun h2 => ∃ (h1 : GH) (g : Nat → Int), P h1 ∧ g 0 = v ∧ h2 = hput h1 out (gArrL 3 1 g))) := by
  refine GMet.introH RL rfl (by decide) (gcats rfl) (Nat.le_of_ble_eq_true rfl) fun K KX S => ?_
  show K 0 [some _, some _, none] [] _ 0 0
  unfold inR at hv
  refine k_aload_n S dL_nextStop_0 rfl ?_
  refine k_iconst S dL_nextStop_1 ?_
  refine k_aload_n S dL_nextStop_2 rfl ?_
  refine k_callV_r S dL_nextStop_3 v_L_99 M (by assumption) (fun h3 hp3 => ?_) rfl rfl (by omega) (by omega) (by omega) (Nat.le_of_ble_eq_true rfl)
  obtain ⟨f, hf⟩ := ho h3 hp3
  refine k_i2l S dL_nextStop_6 (by omega) ?_
  refine k_lastore S dL_nextStop_7 (by assumption) (by omega) ?_
  refine k_goto (tgt := 14) S dL_nextStop_8 (by decide) ?_
  refine k_iconst S dL_nextStop_14 ?_
  exact k_ireturn S dL_nextStop_15 ⟨rfl, h3, _, hp3, gupd_s _ _ _, rfl⟩ (by omega) (by omega)
/-- nextStop, a throw -/
theorem w_nextStop_1 (hx : h x = some (gObj 7 fs)) (M : GMet D yX7_nextStop cX7_nextStop 1 (some .int) [] dep mc ms [gR (some x)] h (px "java/util/NoSuchElementException" P)) : GMet D yL_nextStop cL_nextStop 3 (some .int) [(0, 8, 11, 67)] (dep + 1) mc ms [gR (some x), gR (some out)] h (pr (gI 1) P) := by
  refine GMet.introH RL rfl (by decide) (gcats rfl) (Nat.le_of_ble_eq_true rfl) fun K KX S => ?_
  show K 0 [some _, some _, none] [] _ 0 0
  refine k_aload_n S dL_nextStop_0 rfl ?_
  refine k_iconst S dL_nextStop_1 ?_
  refine k_aload_n S dL_nextStop_2 rfl ?_
  refine k_callV_x S dL_nextStop_3 v_L_99 M (by assumption) (fun h3 hp3 => ?_) rfl rfl (by omega) (by omega) (by omega) (Nat.le_of_ble_eq_true rfl)
  refine k_catch S [] (0, 8, 11, 67) [] rfl (fun z hz => by cases hz) (by decide) (by decide) cl_L_67 ca_NoSuchElement_NoSuchElement (fun q9 => ?_)
  refine k_astore_n S dL_nextStop_11 (by decide) ?_
  refine k_iconst S dL_nextStop_12 ?_
  exact k_ireturn S dL_nextStop_13 ⟨rfl, hp3⟩ (by omega) (by omega)
/-- undo, with an answer -/
theorem w_undo_g (hx : h x = some (gObj 7 fs)) (hv : inR v) (M : GMet D yX7_undo cX7_undo 1 (some .int) [] dep mc ms [gR (some x)] h (pr (gI v) P)) (ho : ∀ h1, P h1 → ∃ f, h1 out = some (gArrL 3 1 f)) : GMet D yL_undo cL_undo 3 (some .int) [(0, 8, 11, 13)] (dep + 1) mc ms [gR (some x), gR (some out)] h (pr (gI 0) (fun h2 => ∃ (h1 : GH) (g : Nat → Int), P h1 ∧ g 0 = v ∧ h2 = hput h1 out (gArrL 3 1 g))) := by
  refine GMet.introH RL rfl (by decide) (gcats rfl) (Nat.le_of_ble_eq_true rfl) fun K KX S => ?_
  show K 0 [some _, some _, none] [] _ 0 0
  unfold inR at hv
  refine k_aload_n S dL_undo_0 rfl ?_
  refine k_iconst S dL_undo_1 ?_
  refine k_aload_n S dL_undo_2 rfl ?_
  refine k_callV_r S dL_undo_3 v_L_103 M (by assumption) (fun h3 hp3 => ?_) rfl rfl (by omega) (by omega) (by omega) (Nat.le_of_ble_eq_true rfl)
  obtain ⟨f, hf⟩ := ho h3 hp3
  refine k_i2l S dL_undo_6 (by omega) ?_
  refine k_lastore S dL_undo_7 (by assumption) (by omega) ?_
  refine k_goto (tgt := 14) S dL_undo_8 (by decide) ?_
  refine k_iconst S dL_undo_14 ?_
  exact k_ireturn S dL_undo_15 ⟨rfl, h3, _, hp3, gupd_s _ _ _, rfl⟩ (by omega) (by omega)
/-- undo, a throw -/
theorem w_undo_1 (hx : h x = some (gObj 7 fs)) (M : GMet D yX7_undo cX7_undo 1 (some .int) [] dep mc ms [gR (some x)] h (px "java/lang/IllegalStateException" P)) : GMet D yL_undo cL_undo 3 (some .int) [(0, 8, 11, 13)] (dep + 1) mc ms [gR (some x), gR (some out)] h (pr (gI 1) P) := by
  refine GMet.introH RL rfl (by decide) (gcats rfl) (Nat.le_of_ble_eq_true rfl) fun K KX S => ?_
  show K 0 [some _, some _, none] [] _ 0 0
  refine k_aload_n S dL_undo_0 rfl ?_
  refine k_iconst S dL_undo_1 ?_
  refine k_aload_n S dL_undo_2 rfl ?_
  refine k_callV_x S dL_undo_3 v_L_103 M (by assumption) (fun h3 hp3 => ?_) rfl rfl (by omega) (by omega) (by omega) (Nat.le_of_ble_eq_true rfl)
  refine k_catch S [] (0, 8, 11, 13) [] rfl (fun z hz => by cases hz) (by decide) (by decide) cl_L_13 ca_IllegalState_IllegalState (fun q9 => ?_)
  refine k_astore_n S dL_undo_11 (by decide) ?_
  refine k_iconst S dL_undo_12 ?_
  exact k_ireturn S dL_undo_13 ⟨rfl, hp3⟩ (by omega) (by omega)
/-- characterAt, with an answer -/
theorem w_characterAt_g (hx : h x = some (gObj 7 fs)) (hv : inR v) (M : GMet D yX7_characterAt cX7_characterAt 2 (some .char) [] dep mc ms [gR (some x), gI a1] h (pr (gI v) P)) (ho : ∀ h1, P h1 → ∃ f, h1 out = some (gArrL 3 1 f)) : GMet D yL_characterAt cL_characterAt 4 (some .int) [(0, 9, 12, 19)] (dep + 1) mc ms [gR (some x), gI a1, gR (some out)] h (pr (gI 0) (fun h2 => ∃ (h1 : GH) (g : Nat → Int), P h1 ∧ g 0 = v ∧ h2 = hput h1 out (gArrL 3 1 g))) := by
  refine GMet.introH RL rfl (by decide) (gcats rfl) (Nat.le_of_ble_eq_true rfl) fun K KX S => ?_
  show K 0 [some _, some _, some _, none] [] _ 0 0
  unfold inR at hv
  refine k_aload_n S dL_characterAt_0 rfl ?_
  refine k_iconst S dL_characterAt_1 ?_
  refine k_aload_n S dL_characterAt_2 rfl ?_
  refine k_iload_n S dL_characterAt_3 rfl ?_
  refine k_callV_r S dL_characterAt_4 v_L_106 M (by assumption) (fun h4 hp4 => ?_) rfl rfl (by omega) (by omega) (by omega) (Nat.le_of_ble_eq_true rfl)
  obtain ⟨f, hf⟩ := ho h4 hp4
  refine k_i2l S dL_characterAt_7 (by omega) ?_
  refine k_lastore S dL_characterAt_8 (by assumption) (by omega) ?_
  refine k_goto (tgt := 15) S dL_characterAt_9 (by decide) ?_
  refine k_iconst S dL_characterAt_15 ?_
  exact k_ireturn S dL_characterAt_16 ⟨rfl, h4, _, hp4, gupd_s _ _ _, rfl⟩ (by omega) (by omega)
/-- characterAt, a throw -/
theorem w_characterAt_1 (hx : h x = some (gObj 7 fs)) (M : GMet D yX7_characterAt cX7_characterAt 2 (some .char) [] dep mc ms [gR (some x), gI a1] h (px "java/lang/IndexOutOfBoundsException" P)) : GMet D yL_characterAt cL_characterAt 4 (some .int) [(0, 9, 12, 19)] (dep + 1) mc ms [gR (some x), gI a1, gR (some out)] h (pr (gI 1) P) := by
  refine GMet.introH RL rfl (by decide) (gcats rfl) (Nat.le_of_ble_eq_true rfl) fun K KX S => ?_
  show K 0 [some _, some _, some _, none] [] _ 0 0
  refine k_aload_n S dL_characterAt_0 rfl ?_
  refine k_iconst S dL_characterAt_1 ?_
  refine k_aload_n S dL_characterAt_2 rfl ?_
  refine k_iload_n S dL_characterAt_3 rfl ?_
  refine k_callV_x S dL_characterAt_4 v_L_106 M (by assumption) (fun h4 hp4 => ?_) rfl rfl (by omega) (by omega) (by omega) (Nat.le_of_ble_eq_true rfl)
  refine k_catch S [] (0, 9, 12, 19) [] rfl (fun z hz => by cases hz) (by decide) (by decide) cl_L_19 ca_IndexOutOfBounds_IndexOutOfBounds (fun q9 => ?_)
  refine k_astore_n S dL_characterAt_12 (by decide) ?_
  refine k_iconst S dL_characterAt_13 ?_
  exact k_ireturn S dL_characterAt_14 ⟨rfl, hp4⟩ (by omega) (by omega)
/-- stopAt, with an answer -/
theorem w_stopAt_g (hx : h x = some (gObj 7 fs)) (hv : inR v) (M : GMet D yX7_stopAt cX7_stopAt 2 (some .int) [] dep mc ms [gR (some x), gI a1] h (pr (gI v) P)) (ho : ∀ h1, P h1 → ∃ f, h1 out = some (gArrL 3 1 f)) : GMet D yL_stopAt cL_stopAt 4 (some .int) [(0, 9, 12, 19)] (dep + 1) mc ms [gR (some x), gI a1, gR (some out)] h (pr (gI 0) (fun h2 => ∃ (h1 : GH) (g : Nat → Int), P h1 ∧ g 0 = v ∧ h2 = hput h1 out (gArrL 3 1 g))) := by
  refine GMet.introH RL rfl (by decide) (gcats rfl) (Nat.le_of_ble_eq_true rfl) fun K KX S => ?_
  show K 0 [some _, some _, some _, none] [] _ 0 0
  unfold inR at hv
  refine k_aload_n S dL_stopAt_0 rfl ?_
  refine k_iconst S dL_stopAt_1 ?_
  refine k_aload_n S dL_stopAt_2 rfl ?_
  refine k_iload_n S dL_stopAt_3 rfl ?_
  refine k_callV_r S dL_stopAt_4 v_L_110 M (by assumption) (fun h4 hp4 => ?_) rfl rfl (by omega) (by omega) (by omega) (Nat.le_of_ble_eq_true rfl)
  obtain ⟨f, hf⟩ := ho h4 hp4
  refine k_i2l S dL_stopAt_7 (by omega) ?_
  refine k_lastore S dL_stopAt_8 (by assumption) (by omega) ?_
  refine k_goto (tgt := 15) S dL_stopAt_9 (by decide) ?_
  refine k_iconst S dL_stopAt_15 ?_
  exact k_ireturn S dL_stopAt_16 ⟨rfl, h4, _, hp4, gupd_s _ _ _, rfl⟩ (by omega) (by omega)
/-- stopAt, a throw -/
theorem w_stopAt_1 (hx : h x = some (gObj 7 fs)) (M : GMet D yX7_stopAt cX7_stopAt 2 (some .int) [] dep mc ms [gR (some x), gI a1] h (px "java/lang/IndexOutOfBoundsException" P)) : GMet D yL_stopAt cL_stopAt 4 (some .int) [(0, 9, 12, 19)] (dep + 1) mc ms [gR (some x), gI a1, gR (some out)] h (pr (gI 1) P) := by
  refine GMet.introH RL rfl (by decide) (gcats rfl) (Nat.le_of_ble_eq_true rfl) fun K KX S => ?_
  show K 0 [some _, some _, some _, none] [] _ 0 0
  refine k_aload_n S dL_stopAt_0 rfl ?_
  refine k_iconst S dL_stopAt_1 ?_
  refine k_aload_n S dL_stopAt_2 rfl ?_
  refine k_iload_n S dL_stopAt_3 rfl ?_
  refine k_callV_x S dL_stopAt_4 v_L_110 M (by assumption) (fun h4 hp4 => ?_) rfl rfl (by omega) (by omega) (by omega) (Nat.le_of_ble_eq_true rfl)
  refine k_catch S [] (0, 9, 12, 19) [] rfl (fun z hz => by cases hz) (by decide) (by decide) cl_L_19 ca_IndexOutOfBounds_IndexOutOfBounds (fun q9 => ?_)
  refine k_astore_n S dL_stopAt_12 (by decide) ?_
  refine k_iconst S dL_stopAt_13 ?_
  exact k_ireturn S dL_stopAt_14 ⟨rfl, hp4⟩ (by omega) (by omega)
/-- keptShare, with an answer -/
theorem w_keptShare_g (hx : h x = some (gObj 7 fs)) {u : UInt32} (hu : vf_n64 (FP.f2d u)) (M : GMet D yX7_keptShare cX7_keptShare 1 (some .float) [] dep mc ms [gR (some x)] h (pr (gF u) P)) (ho : ∀ h1, P h1 → ∃ f, h1 out = some (gArrD 4 1 f)) : GMet D yL_keptShare cL_keptShare 3 (some .int) [(0, 8, 11, 67)] (dep + 1) mc ms [gR (some x), gR (some out)] h (pr (gI 0) (fun h2 => ∃ (h1 : GH) (g : Nat → UInt64), P h1 ∧ g 0 = FP.f2d u ∧ h2 = hput h1 out (gArrD 4 1 g))) := by
  refine GMet.introH RL rfl (by decide) (gcats rfl) (Nat.le_of_ble_eq_true rfl) fun K KX S => ?_
  show K 0 [some _, some _, none] [] _ 0 0
  refine k_aload_n S dL_keptShare_0 rfl ?_
  refine k_iconst S dL_keptShare_1 ?_
  refine k_aload_n S dL_keptShare_2 rfl ?_
  refine k_callV_r S dL_keptShare_3 v_L_113 M (by assumption) (fun h3 hp3 => ?_) rfl rfl (by omega) (by omega) (by omega) (Nat.le_of_ble_eq_true rfl)
  obtain ⟨f, hf⟩ := ho h3 hp3
  refine k_f2d S dL_keptShare_6 hu ?_
  refine k_dastore S dL_keptShare_7 (by assumption) (by omega) ?_
  refine k_goto (tgt := 14) S dL_keptShare_8 (by decide) ?_
  refine k_iconst S dL_keptShare_14 ?_
  exact k_ireturn S dL_keptShare_15 ⟨rfl, h3, _, hp3, gupd_s _ _ _, rfl⟩ (by omega) (by omega)
/-- keptShare, a throw -/
theorem w_keptShare_1 (hx : h x = some (gObj 7 fs)) (M : GMet D yX7_keptShare cX7_keptShare 1 (some .float) [] dep mc ms [gR (some x)] h (px "java/util/NoSuchElementException" P)) : GMet D yL_keptShare cL_keptShare 3 (some .int) [(0, 8, 11, 67)] (dep + 1) mc ms [gR (some x), gR (some out)] h (pr (gI 1) P) := by
  refine GMet.introH RL rfl (by decide) (gcats rfl) (Nat.le_of_ble_eq_true rfl) fun K KX S => ?_
  show K 0 [some _, some _, none] [] _ 0 0
  refine k_aload_n S dL_keptShare_0 rfl ?_
  refine k_iconst S dL_keptShare_1 ?_
  refine k_aload_n S dL_keptShare_2 rfl ?_
  refine k_callV_x S dL_keptShare_3 v_L_113 M (by assumption) (fun h3 hp3 => ?_) rfl rfl (by omega) (by omega) (by omega) (Nat.le_of_ble_eq_true rfl)
  refine k_catch S [] (0, 8, 11, 67) [] rfl (fun z hz => by cases hz) (by decide) (by decide) cl_L_67 ca_NoSuchElement_NoSuchElement (fun q9 => ?_)
  refine k_astore_n S dL_keptShare_11 (by decide) ?_
  refine k_iconst S dL_keptShare_12 ?_
  exact k_ireturn S dL_keptShare_13 ⟨rfl, hp3⟩ (by omega) (by omega)
end
