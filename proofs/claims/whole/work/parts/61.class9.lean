section
variable {h : GH} {τ A : Nat → Nat} {td cu lg sv ex un : Int} {n : Nat} {fw of sc sz he : Nat → Int} {re : Nat → Nat} {le tg pn kd on ot : Nat → Int} {rk : Nat → Nat}
theorem Gd.bd {n x : Nat} (h : Gd pn kd on ot sz he re x) : (0 ≤ sz x ∧ sz x ≤ 201) ∧ (0 ≤ he x ∧ he x ≤ 100) ∧ re x < 256 := by
  obtain ⟨h1, h2, h3, -⟩ := h
  have := szF_nn (pn := pn) (kd := kd) (on := on) (ot := ot) 8 x
  have := dpF_r (pn := pn) (kd := kd) (on := on) (ot := ot) 8 x
  omega
/-- the list after add -/
theorem XSn.add {D : DD} {h1 : GH} (hn : n ≤ 8) {x N : Nat} (hx : x < n) (hN : pn x = (N : Nat)) (hBo : BOk (n : Nat) pn kd on ot rk) (hS : XSn D h τ A n fw of sc sz he re le tg pn kd on ot) (h12 : N < 12) {so u v : Int} {q e : Nat} {cap : Nat} {f : Nat → Option Nat} {F : Nat → Nat} (hl : IsList D h (A (20 + x)) e cap N f) (hf : ∀ i, i < N → f i = some (F i)) (htl : τ (A (20 + x)) = 300 + x) (hte : e ≠ cad D 4 → τ e = 300 + x) (hF : ∀ j, j < N → h (F j) = some (gObj 2 [gR (some (cad D (pkK (kd (12 * x + j))))), gI (on (12 * x + j)), gI (pk2 kd on ot (12 * x + j))]) ∧ τ (F j) = 7) (gq : h q = some (gObj 2 [gR (some (cad D (pkK so))), gI u, gI (if so = 115 then u else v)])) (tq : τ q = 7) (hp : (∃ (e1 cap1 : Nat) (f1 : Nat → Option Nat), IsList D h1 (A (20 + x)) e1 cap1 (N + 1) f1 ∧ (∀ i, i < N → f1 i = f i) ∧ f1 N = some q ∧ (e1 = e ∨ h e1 = none)) ∧ keeps h h1 (fun z => z = A (20 + x) ∨ (z = e ∧ e ≠ cad D 4))) : ∃ τ2 : Nat → Nat, rtg h τ τ2 ∧ keeps h h1 (fun q => τ q = 300 + x) ∧ XSn D h1 τ2 A n fw of sc sz he re le tg (gupd pn x ((N : Nat) + 1)) (gupd kd (12 * x + N) so) (gupd on (12 * x + N) u) (gupd ot (12 * x + N) v) := by
  obtain ⟨⟨e1, cap1, f1, y1, y2, y3, y4⟩, y5⟩ := hp
  have k1 : keeps h h1 (fun q => τ q = 300 + x) := y5.mono fun q z => z.elim (fun e9 => by rw [e9]; exact htl) (fun e9 => by rw [e9.1]; exact hte e9.2)
  have hp12 : ∀ k, k < n → 0 ≤ pn k ∧ pn k ≤ 12 := fun k hk => (hBo k (by omega)).1
  have hpe := pAdd.eq (kd := kd) (on := on) (ot := ot) (so := so) (u := u) (v := v) hx hp12 (by omega)
  rw [show (pn x).toNat = N by omega] at hpe
  have main : ∀ τ2 : Nat → Nat, rtg h τ τ2 → τ2 e1 = 300 + x → XSn D h1 τ2 A n fw of sc sz he re le tg (gupd pn x ((N : Nat) + 1)) (gupd kd (12 * x + N) so) (gupd on (12 * x + N) u) (gupd ot (12 * x + N) v) := fun τ2 ht te => by
    refine hS.pa hn k1 ht ?_ (by omega) (fun k hk e9 => ⟨gupd_n _ _ e9, fun j hj => hpe k (by omega) (12 * k + j) (by omega) (by omega)⟩)
    rw [gupd_s, show (((N : Nat) : Int) + 1).toNat = N + 1 by omega]
    obtain ⟨m9, l9⟩ := y1.1
    obtain ⟨m8, l8⟩ := hl.1
    refine ⟨gupd F N q, ⟨e1, cap1, f1, y1, fun i hi => ?_, (ht _ _ l8).trans htl, fun _ => te⟩, fun j hj => ?_⟩
    · by_cases e9 : i = N
      · subst e9; rw [gupd_s]; exact y3
      · rw [gupd_n _ _ e9, y2 i (by omega)]; exact hf i (by omega)
    · dsimp only
      refine ⟨?_, ?_, pkK_lt _⟩
      · by_cases e9 : j = N
        · subst e9
          unfold pk2
          rw [gupd_s, gupd_s, gupd_s, gupd_s]
          exact k1 _ _ gq (by omega)
        · have e8 : 12 * x + j ≠ 12 * x + N := by omega
          have h8 := hF j (by omega)
          unfold pk2 at h8 ⊢
          rw [gupd_n _ _ e9, gupd_n _ _ e8, gupd_n _ _ e8, gupd_n _ _ e8]
          exact k1 _ _ h8.1 (by omega)
      · by_cases e9 : j = N
        · subst e9
          rw [gupd_s]
          exact (ht _ _ gq).trans tq
        · rw [gupd_n _ _ e9]
          have h8 := hF j (by omega)
          exact (ht _ _ h8.1).trans h8.2
  by_cases hq : h e1 = none
  · refine ⟨gupd τ e1 (300 + x), fun z g hz => gupd_n _ _ (fun e9 => by subst e9; rw [hq] at hz; cases hz), k1, main _ (fun z g hz => gupd_n _ _ (fun e9 => by subst e9; rw [hq] at hz; cases hz)) (gupd_s _ _ _)⟩
  · have e9 : e1 = e := y4.resolve_right hq
    have ne9 : e1 ≠ cad D 4 := by
      rcases y1.2.1 with z | z
      · omega
      · exact z.2.1
    exact ⟨τ, rtg.rf, k1, main τ rtg.rf (by rw [e9]; exact hte (by rw [← e9]; exact ne9))⟩
/-- dropLastPart(), with parts -/
theorem sn_drop (D : DD) {h : GH} {l e cap n : Nat} {f : Nat → Option Nat} (hl : IsList D h l e cap n f) (hn : 1 ≤ n) {s : Nat} {a0 a1 a3 a4 a5 a6 a7 : GV} (gs : h s = some (gObj 4 [a0, a1, gR (some l), a3, a4, a5, a6, a7])) : GMet D yX4_dropLastPart cX4_dropLastPart 1 none [] 4 0 0 [gR (some s)] h (pv (fun h1 => (∃ f1 : Nat → Option Nat, IsList D h1 l e cap (n - 1) f1 ∧ ∀ i, i < n - 1 → f1 i = f i) ∧ keeps h h1 (fun x => x = l ∨ (x = e ∧ e ≠ cad D 4)))) := by
  have hle := hl.le
  obtain ⟨m9, gl⟩ := hl.1
  refine GMet.intro RX4 rfl (by decide) (gcats rfl) (Nat.le_of_ble_eq_true rfl) fun K KX S => ?_
  show K 0 [some _] [] _ 0 0
  refine k_aload_n S dX4_dropLastPart_0 rfl ?_
  refine k_getf S dX4_dropLastPart_1 f_X4_23 (by assumption) (by rfl) ?_
  refine k_callV_r S dX4_dropLastPart_4 v_X4_47 (li_isEmpty D hl) (by assumption) (fun h4 hp4 => ?_) rfl rfl (by decide) (by omega) (by omega) (Nat.le_of_ble_eq_true rfl)
  rw [hp4]
  refine k_if_ne (tgt := 27) S dX4_dropLastPart_7 (by decide) (b01_r _) (fun c7 => ?_) (fun c7 => ?_)
  · exact absurd (b01_n.mp c7) (by omega)
  · refine k_aload_n S dX4_dropLastPart_10 rfl ?_
    refine k_getf S dX4_dropLastPart_11 f_X4_23 (by assumption) (by rfl) ?_
    refine k_aload_n S dX4_dropLastPart_14 rfl ?_
    refine k_getf S dX4_dropLastPart_15 f_X4_23 (by assumption) (by rfl) ?_
    refine k_callV_r S dX4_dropLastPart_18 v_X4_51 (li_size D hl) (by assumption) (fun h18 hp18 => ?_) rfl rfl (by decide) (by omega) (by omega) (Nat.le_of_ble_eq_true rfl)
    rw [hp18]
    refine k_iconst S dX4_dropLastPart_21 ?_
    refine k_isub S dX4_dropLastPart_22 ?_
    refine k_callV_r S dX4_dropLastPart_23 v_X4_54 (li_removeLast D hl hn) (by assumption) (fun h23 hp23 => ?_) rfl rfl (by decide) (by omega) (by omega) (Nat.le_of_ble_eq_true rfl)
    refine k_pop S dX4_dropLastPart_26 ?_
    exact k_return S dX4_dropLastPart_27 ⟨rfl, hp23⟩ (by omega) (by omega)
/-- addPart, the body is full -/
theorem c_addPart_f (D : DD) (hX : XTop h τ A td cu lg sv ex un) (hn : n ≤ 8) {x N : Nat} (hx : x < n) (hN : pn x = (N : Nat)) (hBo : BOk (n : Nat) pn kd on ot rk) (hr8 : ∀ s, rk s < 8) (hS : XS D h τ A n fw of sc le tg pn kd on ot) (h12 : ¬ N < 12) {q : Nat} : GMet D yX7_addPart cX7_addPart 3 (some .int) [] 9 2 1006 [gR (some (A 0)), gR (some (A (10 + x))), gR (some q)] h (px "java/lang/IllegalStateException" (fun h1 => ∃ τ2 : Nat → Nat, rtg h τ τ2 ∧ XS D h1 τ2 A n fw of sc le tg pn kd on ot ∧ keeps h h1 (fun q => 100 ≤ τ q))) := by
  refine GMet.intro RX7 rfl (by decide) (gcats rfl) (Nat.le_of_ble_eq_true rfl) fun K KX S => ?_
  show K 0 [some _, some _, some _] [] _ 0 0
  have g0 := hX.1
  obtain ⟨sz, he, re, hS, hG⟩ := hS
  obtain ⟨gx, tx9⟩ := hS.2.1 x hx
  obtain ⟨F, ⟨e, cap, f, hl, hf, htl, hte⟩, hF⟩ := hS.2.2.2 x hx
  rw [show (pn x).toNat = N by omega] at hl hf hF
  obtain ⟨m9, gl⟩ := hl.1
  have hN12 := (hBo x (by omega)).1
  refine k_aload_n S dX7_addPart_0 rfl ?_
  refine k_getf S dX7_addPart_1 f_X7_148 (by assumption) (by rfl) ?_
  refine k_callV_r S dX7_addPart_4 v_X7_61 (li_size D hl) (by assumption) (fun h4 hp4 => ?_) rfl rfl (by decide) (by omega) (by omega) (Nat.le_of_ble_eq_true rfl)
  rw [hp4]
  refine k_bipush S dX7_addPart_7 ?_
  refine k_icmp_lt (tgt := 23) S dX7_addPart_9 (by decide) (by omega) (by omega) (fun c9 => ?_) (fun c9 => ?_)
  · omega
  · exact k_throwSW S th_267_65 dX7_addPart_12 dX7_addPart_15 dX7_addPart_16 dX7_addPart_19 dX7_addPart_22 ⟨rfl, τ, rtg.rf, ⟨sz, he, re, hS, hG⟩, keeps.rf⟩ (by omega) (by omega) (by decide)
theorem kp_re {h h1 h2 : GH} {τ τ2 : Nat → Nat} {P Q : Nat → Prop} (k1 : keeps h h1 P) (hP : ∀ q, P q → 100 ≤ τ q) (ht : rtg h τ τ2) (k2 : keeps h1 h2 Q) (hQ : ∀ q, Q q → 100 ≤ τ2 q) : keeps h h2 (fun q => 100 ≤ τ q) := fun q g hq hn => by
  have e := ht q g hq
  exact k2 q g (k1 q g hq (fun z => hn (hP q z))) (fun z => hn (by have := hQ q z; omega))
/-- addPart -/
theorem c_addPart_g (D : DD) (hX : XTop h τ A td cu lg sv ex un) (hn : n ≤ 8) {x N : Nat} (hx : x < n) (hN : pn x = (N : Nat)) (hBo : BOk (n : Nat) pn kd on ot rk) (hr8 : ∀ s, rk s < 8) (hS : XS D h τ A n fw of sc le tg pn kd on ot) (h12 : N < 12) {so u v : Int} {q : Nat} (gq : h q = some (gObj 2 [gR (some (cad D (pkK so))), gI u, gI (if so = 115 then u else v)])) (tq : τ q = 7) {rk1 : Nat → Nat} (hB1 : BOk (n : Nat) (gupd pn x ((N : Nat) + 1)) (gupd kd (12 * x + N) so) (gupd on (12 * x + N) u) (gupd ot (12 * x + N) v) rk1) (hr1 : ∀ s, rk1 s < 8) (hsm : ∀ k : Nat, (k : Int) < ((n : Nat) : Int) → szF (gupd pn x ((N : Nat) + 1)) (gupd kd (12 * x + N) so) (gupd on (12 * x + N) u) (gupd ot (12 * x + N) v) 8 k ≤ 200) : GMet D yX7_addPart cX7_addPart 3 (some .int) [] 9 1 1000 [gR (some (A 0)), gR (some (A (10 + x))), gR (some q)] h (pr (gI ((N : Nat) + 1)) (fun h1 => ∃ τ2 : Nat → Nat, rtg h τ τ2 ∧ XS D h1 τ2 A n fw of sc le tg (gupd pn x ((N : Nat) + 1)) (gupd kd (12 * x + N) so) (gupd on (12 * x + N) u) (gupd ot (12 * x + N) v) ∧ keeps h h1 (fun q => 100 ≤ τ q))) := by
  refine GMet.intro RX7 rfl (by decide) (gcats rfl) (Nat.le_of_ble_eq_true rfl) fun K KX S => ?_
  show K 0 [some _, some _, some _] [] _ 0 0
  have g0 := hX.1
  obtain ⟨sz, he, re, hS, hG⟩ := hS
  obtain ⟨gx, tx9⟩ := hS.2.1 x hx
  obtain ⟨F, ⟨e, cap, f, hl, hf, htl, hte⟩, hF⟩ := hS.2.2.2 x hx
  rw [show (pn x).toNat = N by omega] at hl hf hF
  obtain ⟨m9, gl⟩ := hl.1
  have hN12 := (hBo x (by omega)).1
  refine k_aload_n S dX7_addPart_0 rfl ?_
  refine k_getf S dX7_addPart_1 f_X7_148 (by assumption) (by rfl) ?_
  refine k_callV_r S dX7_addPart_4 v_X7_61 (li_size D hl) (by assumption) (fun h4 hp4 => ?_) rfl rfl (by decide) (by omega) (by omega) (Nat.le_of_ble_eq_true rfl)
  rw [hp4]
  refine k_bipush S dX7_addPart_7 ?_
  refine k_icmp_lt (tgt := 23) S dX7_addPart_9 (by decide) (by omega) (by omega) (fun c9 => ?_) (fun c9 => ?_)
  · have hql : q ≠ A (20 + x) := frm_ne gq gl (by intro z; cases z)
    refine k_aload_n S dX7_addPart_23 rfl ?_
    refine k_getf S dX7_addPart_24 f_X7_148 (by assumption) (by rfl) ?_
    refine k_aload_n S dX7_addPart_27 rfl ?_
    refine k_callV_r S dX7_addPart_28 v_X7_77 (li_add D hl (ci := 2) rfl ca_Part_Object (fun i hi => ⟨F i, _, hf i hi, (hF i hi).1⟩) gq hql (by omega)) (by assumption) (fun h28 hp28 => ?_) rfl rfl (by decide) (by omega) (by omega) (Nat.le_of_ble_eq_true rfl)
    obtain ⟨τ2, t2, k28, S28⟩ := XSn.add hn hx hN hBo hS h12 hl hf htl hte (fun j hj => ⟨(hF j hj).1, (hF j hj).2.1⟩) gq tq hp28
    have X28 := hX.mv k28 (fun q e => by omega) t2 (fun _ _ => rfl)
    have g028 := X28.1
    refine k_pop S dX7_addPart_31 ?_
    refine k_aload_n S dX7_addPart_32 rfl ?_
    refine k_callV_v S dX7_addPart_33 v_X7_154 (c_measureAll D X28 S28 hn (fun k hk => (hG k hk).bd (n := n)) hB1 hr1) (by assumption) (fun h33 hp33 => ?_) rfl rfl (by decide) (by omega) (by omega) (Nat.le_of_ble_eq_true rfl)
    obtain ⟨⟨sz3, he3, re3, S33, G33⟩, k33⟩ := hp33
    have X33 := X28.kp k33 (fun q e => by omega)
    have g033 := X33.1
    obtain ⟨gx33, -⟩ := S33.2.1 x hx
    have ec : (∃ k, k < n ∧ 200 < sz3 k) ↔ ∃ k : Nat, (k : Int) < ((n : Nat) : Int) ∧ 200 < szF (gupd pn x ((N : Nat) + 1)) (gupd kd (12 * x + N) so) (gupd on (12 * x + N) u) (gupd ot (12 * x + N) v) 8 k := by
      constructor
      · rintro ⟨k, k1, k2⟩
        have := (G33 k k1).1
        exact ⟨k, by omega, by omega⟩
      · rintro ⟨k, k1, k2⟩
        have := (G33 k (by omega)).1
        exact ⟨k, by omega, by omega⟩
    refine k_aload_n S dX7_addPart_36 rfl ?_
    refine k_callV_r S dX7_addPart_37 v_X7_269 (c_tooLarge D X33 S33 hn (fun k hk => ((G33 k hk).bd (n := n)).1)) (by assumption) (fun h37 hp37 => ?_) rfl rfl (by decide) (by omega) (by omega) (Nat.le_of_ble_eq_true rfl)
    rw [hp37, b01_c ec]
    refine k_if_eq (tgt := 62) S dX7_addPart_40 (by decide) (b01_r _) (fun c40 => ?_) (fun c40 => ?_)
    · obtain ⟨F3, ⟨e3, cap3, f3, hl3, -, -, -⟩, -⟩ := S33.2.2.2 x hx
      rw [gupd_s, show (((N : Nat) : Int) + 1).toNat = N + 1 by omega] at hl3
      obtain ⟨m93, gl3⟩ := hl3.1
      refine k_aload_n S dX7_addPart_62 rfl ?_
      refine k_getf S dX7_addPart_63 f_X7_148 (by assumption) (by rfl) ?_
      refine k_callV_r S dX7_addPart_66 v_X7_61 (li_size D hl3) (by assumption) (fun h66 hp66 => ?_) rfl rfl (by decide) (by omega) (by omega) (Nat.le_of_ble_eq_true rfl)
      rw [hp66, show ((N + 1 : Nat) : Int) = (N : Nat) + 1 by omega]
      exact k_ireturn S dX7_addPart_69 ⟨rfl, τ2, t2, ⟨sz3, he3, re3, S33, G33⟩, kp_re k28 (fun q e => by omega) t2 k33 (fun q e => by omega)⟩ (by omega) (by omega)
    · exact absurd (b01_n.mp c40) (fun ⟨k, k1, k2⟩ => by have := hsm k k1; omega)
  · omega
/-- addPart, too large -/
theorem c_addPart_l (D : DD) (hX : XTop h τ A td cu lg sv ex un) (hn : n ≤ 8) {x N : Nat} (hx : x < n) (hN : pn x = (N : Nat)) (hBo : BOk (n : Nat) pn kd on ot rk) (hr8 : ∀ s, rk s < 8) (hS : XS D h τ A n fw of sc le tg pn kd on ot) (h12 : N < 12) {so u v : Int} {q : Nat} (gq : h q = some (gObj 2 [gR (some (cad D (pkK so))), gI u, gI (if so = 115 then u else v)])) (tq : τ q = 7) {rk1 : Nat → Nat} (hB1 : BOk (n : Nat) (gupd pn x ((N : Nat) + 1)) (gupd kd (12 * x + N) so) (gupd on (12 * x + N) u) (gupd ot (12 * x + N) v) rk1) (hr1 : ∀ s, rk1 s < 8) (hbig : ∃ k : Nat, (k : Int) < ((n : Nat) : Int) ∧ 200 < szF (gupd pn x ((N : Nat) + 1)) (gupd kd (12 * x + N) so) (gupd on (12 * x + N) u) (gupd ot (12 * x + N) v) 8 k) : GMet D yX7_addPart cX7_addPart 3 (some .int) [] 9 2 1006 [gR (some (A 0)), gR (some (A (10 + x))), gR (some q)] h (px "java/lang/IllegalStateException" (fun h1 => ∃ τ2 : Nat → Nat, rtg h τ τ2 ∧ XS D h1 τ2 A n fw of sc le tg pn kd on ot ∧ keeps h h1 (fun q => 100 ≤ τ q))) := by
  refine GMet.intro RX7 rfl (by decide) (gcats rfl) (Nat.le_of_ble_eq_true rfl) fun K KX S => ?_
  show K 0 [some _, some _, some _] [] _ 0 0
  have g0 := hX.1
  obtain ⟨sz, he, re, hS, hG⟩ := hS
  obtain ⟨gx, tx9⟩ := hS.2.1 x hx
  obtain ⟨F, ⟨e, cap, f, hl, hf, htl, hte⟩, hF⟩ := hS.2.2.2 x hx
  rw [show (pn x).toNat = N by omega] at hl hf hF
  obtain ⟨m9, gl⟩ := hl.1
  have hN12 := (hBo x (by omega)).1
  refine k_aload_n S dX7_addPart_0 rfl ?_
  refine k_getf S dX7_addPart_1 f_X7_148 (by assumption) (by rfl) ?_
  refine k_callV_r S dX7_addPart_4 v_X7_61 (li_size D hl) (by assumption) (fun h4 hp4 => ?_) rfl rfl (by decide) (by omega) (by omega) (Nat.le_of_ble_eq_true rfl)
  rw [hp4]
  refine k_bipush S dX7_addPart_7 ?_
  refine k_icmp_lt (tgt := 23) S dX7_addPart_9 (by decide) (by omega) (by omega) (fun c9 => ?_) (fun c9 => ?_)
  · have hql : q ≠ A (20 + x) := frm_ne gq gl (by intro z; cases z)
    refine k_aload_n S dX7_addPart_23 rfl ?_
    refine k_getf S dX7_addPart_24 f_X7_148 (by assumption) (by rfl) ?_
    refine k_aload_n S dX7_addPart_27 rfl ?_
    refine k_callV_r S dX7_addPart_28 v_X7_77 (li_add D hl (ci := 2) rfl ca_Part_Object (fun i hi => ⟨F i, _, hf i hi, (hF i hi).1⟩) gq hql (by omega)) (by assumption) (fun h28 hp28 => ?_) rfl rfl (by decide) (by omega) (by omega) (Nat.le_of_ble_eq_true rfl)
    obtain ⟨τ2, t2, k28, S28⟩ := XSn.add hn hx hN hBo hS h12 hl hf htl hte (fun j hj => ⟨(hF j hj).1, (hF j hj).2.1⟩) gq tq hp28
    have X28 := hX.mv k28 (fun q e => by omega) t2 (fun _ _ => rfl)
    have g028 := X28.1
    refine k_pop S dX7_addPart_31 ?_
    refine k_aload_n S dX7_addPart_32 rfl ?_
    refine k_callV_v S dX7_addPart_33 v_X7_154 (c_measureAll D X28 S28 hn (fun k hk => (hG k hk).bd (n := n)) hB1 hr1) (by assumption) (fun h33 hp33 => ?_) rfl rfl (by decide) (by omega) (by omega) (Nat.le_of_ble_eq_true rfl)
    obtain ⟨⟨sz3, he3, re3, S33, G33⟩, k33⟩ := hp33
    have X33 := X28.kp k33 (fun q e => by omega)
    have g033 := X33.1
    obtain ⟨gx33, -⟩ := S33.2.1 x hx
    have ec : (∃ k, k < n ∧ 200 < sz3 k) ↔ ∃ k : Nat, (k : Int) < ((n : Nat) : Int) ∧ 200 < szF (gupd pn x ((N : Nat) + 1)) (gupd kd (12 * x + N) so) (gupd on (12 * x + N) u) (gupd ot (12 * x + N) v) 8 k := by
      constructor
      · rintro ⟨k, k1, k2⟩
        have := (G33 k k1).1
        exact ⟨k, by omega, by omega⟩
      · rintro ⟨k, k1, k2⟩
        have := (G33 k (by omega)).1
        exact ⟨k, by omega, by omega⟩
    refine k_aload_n S dX7_addPart_36 rfl ?_
    refine k_callV_r S dX7_addPart_37 v_X7_269 (c_tooLarge D X33 S33 hn (fun k hk => ((G33 k hk).bd (n := n)).1)) (by assumption) (fun h37 hp37 => ?_) rfl rfl (by decide) (by omega) (by omega) (Nat.le_of_ble_eq_true rfl)
    rw [hp37, b01_c ec]
    refine k_if_eq (tgt := 62) S dX7_addPart_40 (by decide) (b01_r _) (fun c40 => ?_) (fun c40 => ?_)
    · exact absurd hbig (b01_0.mp c40)
    · obtain ⟨F3, ⟨e3, cap3, f3, hl3, hf3, htl3, hte3⟩, hF3⟩ := S33.2.2.2 x hx
      rw [gupd_s, show (((N : Nat) : Int) + 1).toNat = N + 1 by omega] at hl3 hf3 hF3
      obtain ⟨m93, gl3⟩ := hl3.1
      refine k_aload_n S dX7_addPart_43 rfl ?_
      refine k_callV_v S dX7_addPart_44 v_X7_272 (sn_drop D hl3 (by omega) gx33) (by assumption) (fun h44 hp44 => ?_) rfl rfl (by decide) (by omega) (by omega) (Nat.le_of_ble_eq_true rfl)
      have k44 : keeps h33 h44 (fun q => τ2 q = 300 + x) := hp44.2.mono fun q z => z.elim (fun e9 => by rw [e9]; exact htl3) (fun e9 => by rw [e9.1]; exact hte3 e9.2)
      have S44 : XSn D h44 τ2 A n fw of sc sz3 he3 re3 le tg pn kd on ot := by
        have hp12 : ∀ k, k < n → 0 ≤ pn k ∧ pn k ≤ 12 := fun k hk => (hBo k (by omega)).1
        have hpe := pAdd.eq (kd := kd) (on := on) (ot := ot) (so := so) (u := u) (v := v) hx hp12 (by omega)
        rw [show (pn x).toNat = N by omega] at hpe
        refine S33.pa hn k44 rtg.rf ?_ (by omega) (fun k hk e9 => ?_)
        · rw [show (pn x).toNat = N by omega]
          obtain ⟨⟨f4, l4, hf4⟩, -⟩ := hp44
          refine ⟨F3, ⟨e3, cap3, f4, l4, fun i hi => by rw [hf4 i (by omega)]; exact hf3 i (by omega), htl3, hte3⟩, fun j hj => ?_⟩
          obtain ⟨w1, w2, w3⟩ := hF3 j (by omega)
          obtain ⟨a1, a2, a3⟩ := hpe x (by omega) (12 * x + j) (by omega) (by omega)
          dsimp only at w1 ⊢
          rw [show pk2 (gupd kd (12 * x + N) so) (gupd on (12 * x + N) u) (gupd ot (12 * x + N) v) (12 * x + j) = pk2 kd on ot (12 * x + j) by unfold pk2; rw [a1, a2, a3], a1, a2] at w1
          exact ⟨k44 _ _ w1 (by omega), w2, pkK_lt _⟩
        · rw [gupd_n _ _ e9]
          refine ⟨rfl, fun j hj => ?_⟩
          obtain ⟨a1, a2, a3⟩ := hpe k (by omega) (12 * k + j) (by omega) (by omega)
          exact ⟨a1.symm, a2.symm, a3.symm⟩
      have X44 := X33.kp k44 (fun q e => by omega)
      have g044 := X44.1
      refine k_aload_n S dX7_addPart_47 rfl ?_
      refine k_callV_v S dX7_addPart_48 v_X7_154 (c_measureAll D X44 S44 hn (fun k hk => (G33 k hk).bd (n := n)) hBo hr8) (by assumption) (fun h48 hp48 => ?_) rfl rfl (by decide) (by omega) (by omega) (Nat.le_of_ble_eq_true rfl)
      exact k_throwSW S th_275_65 dX7_addPart_51 dX7_addPart_54 dX7_addPart_55 dX7_addPart_58 dX7_addPart_61 ⟨rfl, τ2, t2, hp48.1, kp_re k28 (fun q e => by omega) t2 (((k33.mono fun q e => (show 100 ≤ τ2 q by omega)).tr (k44.mono fun q e => (show 100 ≤ τ2 q by omega))).tr (hp48.2.mono fun q e => (show 100 ≤ τ2 q by omega))) (fun q e => e)⟩ (by omega) (by omega) (by decide)
  · omega
end
