section
variable {h : GH} {τ A : Nat → Nat} {td cu lg sv ex un : Int} {n : Nat} {fw of sc sz he : Nat → Int} {re : Nat → Nat} {le tg pn kd on ot : Nat → Int} {rk : Nat → Nat}
/-- addSnippet, 8 there -/
theorem c_addSn_x (D : DD) (hX : XTop h τ A td cu lg sv ex un) (hn : n ≤ 8) (hS : XS D h τ A n fw of sc le tg pn kd on ot) (h8 : n = 8) {p : Int} : GMet D yX7_addSnippet cX7_addSnippet 2 (some .int) [] 9 8 6000 [gR (some (A 0)), gI p] h (px "java/lang/IllegalStateException" (fun h1 => h1 = h)) := by
  refine GMet.intro RX7 rfl (by decide) (gcats rfl) (Nat.le_of_ble_eq_true rfl) fun K KX S => ?_
  show K 0 [some _, some _] [] _ 0 0
  have g0 := hX.1
  obtain ⟨sz, he, re, hS9, hG⟩ := id hS
  obtain ⟨e, cap, f, hl, hf, htl, hte⟩ := hS9.1
  obtain ⟨m9, gl⟩ := hl.1
  refine k_aload_n S dX7_addSnippet_0 rfl ?_
  refine k_getf S dX7_addSnippet_1 f_X7_12 (by assumption) (by rfl) ?_
  refine k_callV_r S dX7_addSnippet_4 v_X7_61 (li_size D hl) (by assumption) (fun h4 hp4 => ?_) rfl rfl (by decide) (by omega) (by omega) (Nat.le_of_ble_eq_true rfl)
  rw [hp4]
  refine k_bipush S dX7_addSnippet_7 ?_
  refine k_icmp_lt (tgt := 22) S dX7_addSnippet_9 (by decide) (by omega) (by omega) (fun c9 => ?_) (fun c9 => ?_)
  · omega
  · exact k_throwS S th_67_65 dX7_addSnippet_12 dX7_addSnippet_15 dX7_addSnippet_16 dX7_addSnippet_18 dX7_addSnippet_21 ⟨rfl, rfl⟩ (by omega) (by omega) (by decide)
/-- addSnippet -/
theorem c_addSn_g (D : DD) (hX : XTop h τ A td cu lg sv ex un) (hn : n ≤ 8) (hS : XS D h τ A n fw of sc le tg pn kd on ot) (h8 : n < 8) {p : Int} (hp9 : p = 0 ∨ p = 1) (hz : of n = 0 ∧ sc n = 0 ∧ le n = 0 ∧ pn n = 0) : GMet D yX7_addSnippet cX7_addSnippet 2 (some .int) [] 9 8 6000 [gR (some (A 0)), gI p] h (pr (gI n) (fun h1 => ∃ τ2 A2 : Nat → Nat, rtg h τ τ2 ∧ (∀ i, i < 6 → A2 i = A i) ∧ XS D h1 τ2 A2 (n + 1) (gupd fw n p) of sc le tg pn kd on ot ∧ keeps h h1 (fun q => τ q = 2))) := by
  refine GMet.intro RX7 rfl (by decide) (gcats rfl) (Nat.le_of_ble_eq_true rfl) fun K KX S => ?_
  show K 0 [some _, some _] [] _ 0 0
  have g0 := hX.1
  obtain ⟨sz, he, re, hS9, hG⟩ := id hS
  obtain ⟨e, cap, f, hl, hf, htl, hte⟩ := hS9.1
  obtain ⟨m9, gl⟩ := hl.1
  refine k_aload_n S dX7_addSnippet_0 rfl ?_
  refine k_getf S dX7_addSnippet_1 f_X7_12 (by assumption) (by rfl) ?_
  refine k_callV_r S dX7_addSnippet_4 v_X7_61 (li_size D hl) (by assumption) (fun h4 hp4 => ?_) rfl rfl (by decide) (by omega) (by omega) (Nat.le_of_ble_eq_true rfl)
  rw [hp4]
  refine k_bipush S dX7_addSnippet_7 ?_
  refine k_icmp_lt (tgt := 22) S dX7_addSnippet_9 (by decide) (by omega) (by omega) (fun c9 => ?_) (fun c9 => ?_)
  · refine k_aload_n S dX7_addSnippet_22 rfl ?_
    refine k_getf S dX7_addSnippet_23 f_X7_12 (by assumption) (by rfl) ?_
    refine k_new S dX7_addSnippet_26 n_X7_72 (by omega) (by omega) (fun q26 n26 l26 => ?_)
    refine k_dup S dX7_addSnippet_29 ?_
    refine k_iload_n S dX7_addSnippet_30 rfl ?_
    refine k_callI_v S dX7_addSnippet_31 i_X7_74 (sn_init D (hput_s _ _ _) hp9) (fun h31 hp31 => ?_) rfl rfl (by decide) (by omega) (by omega) (Nat.le_of_ble_eq_true rfl)
    obtain ⟨r9, a9, l9, nr, na, nl9, nrl, gs, gr, ⟨mm, gl9⟩, k31⟩ := hp31
    have kk : keeps h h31 (fun _ => False) := keeps.fr n26 k31
    have nq : ∀ z : Nat, hput h q26 (gObj 4 [gI 0, gR none, gR none, gI 0, gI 0, gI 0, gI 0, gI 0]) z = none → h z = none ∧ z ≠ q26 := fun z hz => hput_no hz
    have hl31 : IsList D h31 (A 1) e cap n f := hl.kp kk id (fun _ _ z => z)
    obtain ⟨m91, gl1⟩ := hl31.1
    have ne1 : q26 ≠ A 1 := frm_ne gs gl1 (by intro z; cases z)
    refine k_callV_r S dX7_addSnippet_34 v_X7_77 (li_add D hl31 (ci := 4) rfl ca_Snippet_Object (fun i hi => ⟨A (10 + i), _, hf i hi, kk _ _ (hS9.2.1 i hi).1 id⟩) gs ne1 (by omega)) (by assumption) (fun h34 hp34 => ?_) rfl rfl (by decide) (by omega) (by omega) (Nat.le_of_ble_eq_true rfl)
    obtain ⟨⟨e1, cap1, f1, y1, y2, y3, y4⟩, y5⟩ := hp34
    have k34 : keeps h h34 (fun q => τ q = 2) := (kk.mono fun _ z => z.elim).tr (y5.mono fun q z => z.elim (fun e9 => by rw [e9]; exact htl) (fun e9 => by rw [e9.1]; exact hte e9.2))
    obtain ⟨m92, gl2⟩ := y1.1
    have som : ∀ z g, h z = some g → z ≠ q26 ∧ z ≠ r9 ∧ z ≠ a9 ∧ z ≠ l9 := fun z g hz => ⟨fun e => (by subst e; rw [n26] at hz; cases hz), fun e => (by subst e; rw [(nq _ nr).1] at hz; cases hz), fun e => (by subst e; rw [(nq _ na).1] at hz; cases hz), fun e => (by subst e; rw [(nq _ nl9).1] at hz; cases hz)⟩
    have e9q : e1 ≠ cad D 4 := by
      rcases y1.2.1 with z | z
      · omega
      · exact z.2.1
    -- the array of the list: the old one, or fresh
    have fre : e1 = e ∨ h e1 = none := y4.imp id fun z => by
      cases hz : h e1 with
      | none => rfl
      | some g => rw [kk _ _ hz id] at z; cases z
    have gs34 : h34 q26 = _ := y5 _ _ gs (fun z => by
      rcases z with z | ⟨z, ze⟩
      · exact ne1 z
      · rcases hl.2.1 with w | w
        · exact ze w.1
        · exact (som _ _ w.1).1 z.symm)
    have arr : ∀ g, h e = some g → ∀ z, hput h q26 (gObj 4 [gI 0, gR none, gR none, gI 0, gI 0, gI 0, gI 0, gI 0]) z = none → z ≠ e := fun g hg z hz e9 => by subst e9; rw [(nq _ hz).1] at hg; cases hg
    have off : ∀ z, (z = r9 ∨ z = a9 ∨ z = l9) → ¬ (z = A 1 ∨ (z = e ∧ e ≠ cad D 4)) := fun z hz hc => by
      have nz : hput h q26 (gObj 4 [gI 0, gR none, gR none, gI 0, gI 0, gI 0, gI 0, gI 0]) z = none := by rcases hz with rfl | rfl | rfl <;> assumption
      rcases hc with rfl | ⟨rfl, ze⟩
      · rw [(nq _ nz).1] at gl; cases gl
      · rcases hl.2.1 with w | w
        · exact ze w.1
        · rw [(nq _ nz).1] at w; cases w.1
    have gr34 : IsRow h34 r9 a9 6 0 (fun _ => 0) := gr.kp y5 (off _ (Or.inl rfl)) (off _ (Or.inr (Or.inl rfl)))
    have gl34 := y5 _ _ gl9 (off _ (Or.inr (Or.inr rfl)))
    have ner : r9 ≠ a9 := fun e => gr.ne e.symm
    have nal : a9 ≠ l9 := frm_ne gr.2.1 gl9 (by intro z; cases z)
    -- the new array of the list is none of the new snippet's cells
    have e1n : h e1 = none → e1 ≠ q26 ∧ e1 ≠ r9 ∧ e1 ≠ a9 ∧ e1 ≠ l9 := fun _ => by
      have ge : h34 e1 = some (gArrR 5 cap1 f1) := by
        rcases y1.2.1 with z | z
        · omega
        · exact z.1
      exact ⟨frm_ne ge gs34 (by intro z; cases z), frm_ne ge gr34.1 (by intro z; cases z), frm_ne ge gr34.2.1 (by intro z; cases z), frm_ne ge gl34 (by intro z; cases z)⟩
    let τ2 : Nat → Nat := fun z => if z = q26 then 100 + n else if z = r9 ∨ z = a9 then 200 + n else if z = l9 then 300 + n else if z = e1 then 2 else τ z
    let A2 : Nat → Nat := fun i => if i = 10 + n then q26 else if i = 20 + n then l9 else if i = 30 + n then r9 else A i
    have t2 : rtg h τ τ2 := fun z g hz => by
      obtain ⟨s1, s2, s3, s4⟩ := som z g hz
      show (if z = q26 then 100 + n else if z = r9 ∨ z = a9 then 200 + n else if z = l9 then 300 + n else if z = e1 then 2 else τ z) = τ z
      rw [if_neg s1, if_neg (fun w => w.elim s2 s3), if_neg s4]
      by_cases ze : z = e1
      · rw [if_pos ze]
        rcases fre with w | w
        · rw [ze, w]; exact (hte (by rw [← w]; exact e9q)).symm
        · rw [ze] at hz; rw [w] at hz; cases hz
      · rw [if_neg ze]
    have nqr : q26 ≠ r9 := fun e => (nq _ nr).2 e.symm
    have nqa : q26 ≠ a9 := fun e => (nq _ na).2 e.symm
    have nql : q26 ≠ l9 := fun e => (nq _ nl9).2 e.symm
    have tq : τ2 q26 = 100 + n := if_pos rfl
    have tr : τ2 r9 = 200 + n := by show (if r9 = q26 then _ else _) = _; rw [if_neg nqr.symm, if_pos (Or.inl rfl)]
    have ta : τ2 a9 = 200 + n := by show (if a9 = q26 then _ else _) = _; rw [if_neg nqa.symm, if_pos (Or.inr rfl)]
    have tl : τ2 l9 = 300 + n := by show (if l9 = q26 then _ else _) = _; rw [if_neg nql.symm, if_neg (fun w => w.elim nrl.symm nal.symm), if_pos rfl]
    have te : τ2 e1 = 2 := by
      rcases fre with w | w
      · have ge : h e = some (gArrR 5 cap f) := by
          rcases hl.2.1 with z | z
          · exact absurd (w.trans z.1) e9q
          · exact z.1
        rw [w]
        exact (t2 _ _ ge).trans (hte (by rw [← w]; exact e9q))
      · obtain ⟨s1, s2, s3, s4⟩ := e1n w
        show (if e1 = q26 then 100 + n else if e1 = r9 ∨ e1 = a9 then 200 + n else if e1 = l9 then 300 + n else if e1 = e1 then 2 else τ e1) = 2
        rw [if_neg s1, if_neg (fun w => w.elim s2 s3), if_neg s4, if_pos rfl]
    have Alt : ∀ i, i < 10 → A2 i = A i := fun i hi => by
      show (if i = 10 + n then q26 else if i = 20 + n then l9 else if i = 30 + n then r9 else A i) = A i
      rw [if_neg (by omega), if_neg (by omega), if_neg (by omega)]
    have Ak : ∀ k, k < n → A2 (10 + k) = A (10 + k) ∧ A2 (20 + k) = A (20 + k) ∧ A2 (30 + k) = A (30 + k) := fun k hk => by
      refine ⟨?_, ?_, ?_⟩ <;> show (if _ = 10 + n then q26 else if _ = 20 + n then l9 else if _ = 30 + n then r9 else _) = _ <;> rw [if_neg (by omega), if_neg (by omega), if_neg (by omega)]
    have An : A2 (10 + n) = q26 ∧ A2 (20 + n) = l9 ∧ A2 (30 + n) = r9 := by
      refine ⟨if_pos rfl, ?_, ?_⟩
      · show (if 20 + n = 10 + n then q26 else if 20 + n = 20 + n then l9 else _) = _
        rw [if_neg (by omega), if_pos rfl]
      · show (if 30 + n = 10 + n then q26 else if 30 + n = 20 + n then l9 else if 30 + n = 30 + n then r9 else _) = _
        rw [if_neg (by omega), if_neg (by omega), if_pos rfl]
    have old := hS9.2
    have S34 : XSn D h34 τ2 A2 (n + 1) (gupd fw n p) of sc (gupd sz n 0) (gupd he n 1) (gupd re n 0) le tg pn kd on ot := by
      refine ⟨⟨e1, cap1, f1, ?_, fun i hi => ?_, ?_, fun _ => te⟩, fun k hk => ?_, fun k hk => ?_, fun k hk => ?_⟩
      · rw [Alt 1 (by omega)]; exact y1
      · show f1 i = some (A2 (10 + i))
        by_cases ei : i = n
        · rw [ei, An.1]; exact y3
        · rw [(Ak i (by omega)).1, y2 i (by omega)]; exact hf i (by omega)
      · rw [Alt 1 (by omega)]; exact (t2 _ _ gl).trans htl
      · by_cases ek : k = n
        · rw [ek]
          unfold XSob
          rw [An.1, An.2.1, An.2.2, gupd_s, gupd_s, gupd_s, gupd_s, hz.1, hz.2.1]
          exact ⟨gs34, tq⟩
        · rw [gupd_n _ _ ek, gupd_n _ _ ek, gupd_n _ _ ek, gupd_n _ _ ek]
          exact (old.1 k (by omega)).mv k34 (fun q e => by omega) t2 (Ak k (by omega))
      · by_cases ek : k = n
        · rw [ek]
          unfold XTrg
          rw [An.2.2, hz.2.2.1]
          exact ⟨a9, ⟨_, gr34, fun q hq => absurd hq (by simp)⟩, tr, ta⟩
        · exact (old.2.1 k (by omega)).mv k34 (fun q e => by omega) t2 (Ak k (by omega)).2.2
      · by_cases ek : k = n
        · rw [ek]
          unfold XPs XPrt
          rw [An.2.1, hz.2.2.2]
          exact ⟨fun _ => 0, ⟨cad D 4, 0, fun _ => none, ⟨⟨_, gl34⟩, Or.inl ⟨rfl, rfl, rfl⟩, by omega⟩, fun i hi => absurd hi (by simp), tl, fun z => absurd rfl z⟩, fun j hj => absurd hj (by simp)⟩
        · exact (old.2.2 k (by omega)).mv k34 (fun q e => by omega) t2 (Ak k (by omega)).2.1
    have g034 := k34 _ _ g0 (by have := hX.2; omega)
    refine k_pop S dX7_addSnippet_37 ?_
    refine k_aload_n S dX7_addSnippet_38 rfl ?_
    refine k_getf S dX7_addSnippet_39 f_X7_12 (by assumption) (by rfl) ?_
    refine k_callV_r S dX7_addSnippet_42 v_X7_61 (li_size D y1) (by assumption) (fun h42 hp42 => ?_) rfl rfl (by decide) (by omega) (by omega) (Nat.le_of_ble_eq_true rfl)
    rw [hp42, show ((n + 1 : Nat) : Int) = (n : Nat) + 1 by omega]
    refine k_iconst S dX7_addSnippet_45 ?_
    refine k_isub S dX7_addSnippet_46 ?_
    refine k_ireturn S dX7_addSnippet_47 ?_ (by omega) (by omega)
    refine ⟨by congr 2; show gI _ = gI _; congr 1; omega, τ2, A2, t2, fun i hi => Alt i (by omega), ⟨_, _, _, S34, fun k hk => ?_⟩, k34⟩
    by_cases ek : k = n
    · rw [ek]
      have z0 : szF pn kd on ot (7 + 1) n = 0 := by rw [szF_s, hz.2.2.2]; rfl
      have d0 : dpF pn kd on ot (7 + 1) n = 1 := by rw [dpF_s, hz.2.2.2]; rfl
      refine ⟨by rw [gupd_s, show szF pn kd on ot 8 n = 0 from z0]; rfl, by rw [gupd_s]; exact d0.symm, by rw [gupd_s]; omega, fun t ht => ?_⟩
      rw [gupd_s, Nat.zero_testBit]
      constructor
      · intro z; cases z
      · intro z
        have z1 : goF pn kd on ot t (7 + 1) n := z
        rw [goF, hz.2.2.2] at z1
        exact z1.elim
    · have := hG k (by omega)
      unfold Gd
      rw [gupd_n _ _ ek, gupd_n _ _ ek, gupd_n _ _ ek]
      exact this
  · omega
end
