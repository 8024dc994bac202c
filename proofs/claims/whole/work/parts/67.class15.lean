section
variable {h : GH} {τ A : Nat → Nat} {td cu lg sv ex un : Int} {n : Nat} {fw of sc sz he : Nat → Int} {re : Nat → Nat} {le tg pn kd on ot : Nat → Int} {rk : Nat → Nat}
theorem c_copy (D : DD) {t g t2 g2 n9 m9 c9 n2 m2 c2 : Nat} {F Z F2 Z2 : Nat → Int} (h1 : XTxt h τ t g n9 F m9 Z c9) (h2 : XTxt h τ t2 g2 n2 F2 m2 Z2 c2) (hne : g ≠ g2) : GMet D yX5_copyFrom cX5_copyFrom 2 none [] 4 0 0 [gR (some t), gR (some t2)] h (pv (fun h1 => XTxt h1 τ t g n2 F2 m2 Z2 c2 ∧ keeps h h1 (fun q => τ q = g))) := by
  obtain ⟨rc, ac, rs, as_, ht9, e6⟩ := h1
  obtain ⟨rd, ad, ru, au, hu9, e7⟩ := h2
  have dif : ∀ x y, tP t rc ac rs as_ x → tP t2 rd ad ru au y → y ≠ x := fun x y z1 z2 z3 => by
    have y1 := e6 x z1
    have y2 := e7 y z2
    rw [z3] at y2
    exact hne (y1.symm.trans y2)
  have cp := tx_copyFrom D ht9 hu9 ⟨⟨dif _ _ (Or.inr (Or.inl rfl)) (Or.inr (Or.inl rfl)), dif _ _ (Or.inr (Or.inr (Or.inr (Or.inl rfl)))) (Or.inr (Or.inl rfl)), dif _ _ (Or.inr (Or.inl rfl)) (Or.inr (Or.inr (Or.inr (Or.inl rfl)))), dif _ _ (Or.inr (Or.inr (Or.inr (Or.inl rfl)))) (Or.inr (Or.inr (Or.inr (Or.inl rfl))))⟩, ⟨dif _ _ (Or.inr (Or.inr (Or.inl rfl))) (Or.inr (Or.inr (Or.inl rfl))), dif _ _ (Or.inr (Or.inr (Or.inr (Or.inr rfl)))) (Or.inr (Or.inr (Or.inl rfl))), dif _ _ (Or.inr (Or.inr (Or.inl rfl))) (Or.inr (Or.inr (Or.inr (Or.inr rfl)))), dif _ _ (Or.inr (Or.inr (Or.inr (Or.inr rfl)))) (Or.inr (Or.inr (Or.inr (Or.inr rfl))))⟩, dif _ _ (Or.inl rfl) (Or.inl rfl)⟩
  exact cp.pvm fun h9 z => ⟨⟨rc, ac, rs, as_, z.1, e6⟩, z.2.mono fun q y => e6 q y⟩
theorem c_repl (D : DD) {t g t2 n9 m9 c9 : Nat} {F Z : Nat → Int} {cl sl : List Int} (h1 : XTxt h τ t g n9 F m9 Z c9) (h2 : XGft h τ t2 cl sl) (hne : g ≠ 4) {u : Nat} (hu : u ≤ c9 ∧ c9 ≤ n9) (hroom : n9 - u + cl.length ≤ 80) (hsl : ∀ x ∈ sl, 0 ≤ x ∧ x ≤ 200) : GMet D yX5_replace cX5_replace 4 none [] 4 0 0 [gR (some t), gI u, gR (some t2)] h (pv (fun h1 => XTxt h1 τ t g (n9 - u + cl.length) (splT F (c9 - u) u cl cl.length) (sl.length - 1) (fun q => ((c9 - u : Nat) : Int) + sl.getD (q + 1) 0) (carT (c9 - u) cl.length sl) ∧ keeps h h1 (fun q => τ q = g))) := by
  obtain ⟨rc, ac, rs, as_, ht9, e6⟩ := h1
  obtain ⟨rd, ad, ru, au, hu9, e7⟩ := h2
  have dif : ∀ x y, tP t rc ac rs as_ x → tP t2 rd ad ru au y → y ≠ x := fun x y z1 z2 z3 => by
    have y1 := e6 x z1
    have y2 := e7 y z2
    rw [z3] at y2
    exact hne (y1.symm.trans y2)
  have cp := tx_replace D ht9 hu9 ⟨⟨dif _ _ (Or.inr (Or.inl rfl)) (Or.inr (Or.inl rfl)), dif _ _ (Or.inr (Or.inr (Or.inr (Or.inl rfl)))) (Or.inr (Or.inl rfl)), dif _ _ (Or.inr (Or.inl rfl)) (Or.inr (Or.inr (Or.inr (Or.inl rfl)))), dif _ _ (Or.inr (Or.inr (Or.inr (Or.inl rfl)))) (Or.inr (Or.inr (Or.inr (Or.inl rfl))))⟩, ⟨dif _ _ (Or.inr (Or.inr (Or.inl rfl))) (Or.inr (Or.inr (Or.inl rfl))), dif _ _ (Or.inr (Or.inr (Or.inr (Or.inr rfl)))) (Or.inr (Or.inr (Or.inl rfl))), dif _ _ (Or.inr (Or.inr (Or.inl rfl))) (Or.inr (Or.inr (Or.inr (Or.inr rfl)))), dif _ _ (Or.inr (Or.inr (Or.inr (Or.inr rfl)))) (Or.inr (Or.inr (Or.inr (Or.inr rfl))))⟩⟩ hu hroom hsl
  refine cp.pvm fun h9 z => ⟨⟨rc, ac, rs, as_, ?_, e6⟩, z.2.mono fun q y => e6 q y⟩
  cases sl with
  | nil => exact z.1
  | cons s0 l => exact z.1
/-- expand, no room -/
theorem c_expand_n (D : DD) (hX : XTop h τ A td cu lg sv ex un) (hS : XS D h τ A n fw of sc le tg pn kd on ot) (hgf : ∃ cl0 sl0 : List Int, XGft h τ (A 3) cl0 sl0) (hn : n ≤ 8) (hB : BOk (n : Nat) pn kd on ot rk) (hB2 : BOk2 (n : Nat) pn kd on ot) (htd : 99 ≤ td ∧ td ≤ 9999) (hsc : ∀ s, s < n → sc s = 0 ∨ sc s = 1) (h200 : ∀ s : Nat, (s : Int) < ((n : Nat) : Int) → szF pn kd on ot 8 s ≤ 200) {nl c m9 : Nat} {tx sp : Nat → Int} (hE : XTxt h τ (A 4) 5 nl tx m9 sp c) (hcl : c ≤ nl ∧ nl ≤ 80) {x u : Nat} (hx : x < n) (hu : le x = (u : Nat)) (hu6 : u ≤ 6) (huc : u ≤ c) (hroom : 80 < nl - u + (lyF pn kd on ot sc td 8 x ([], [])).1.length) : GMet D yX7_expand cX7_expand 4 (some .boolean) [] 26 0 0 [gR (some (A 0)), gR (some (A (10 + x)))] h (pr (gI 0) (fun h1 => (∃ cl0 sl0 : List Int, XGft h1 τ (A 3) cl0 sl0) ∧ keeps h h1 (fun q => τ q = 4))) := by
  refine GMet.intro RX7 rfl (by decide) (gcats rfl) (Nat.le_of_ble_eq_true rfl) fun K KX S => ?_
  show K 0 [some _, some _, none, none] [] _ 0 0
  have hS0 := hS
  obtain ⟨sz, he, re, hS, hG⟩ := hS
  have g0 := hX.1
  obtain ⟨gx, tx9⟩ := hS.2.1 x hx
  have hu2 : (le x).toNat = u := by omega
  refine k_aload_n S dX7_expand_0 rfl ?_
  refine k_aload_n S dX7_expand_1 rfl ?_
  refine k_callV_v S dX7_expand_2 v_X7_162 (c_gather D hX hS0 hgf hn hB hB2 htd hsc h200 hx) (by assumption) (fun h2 hp2 => ?_) rfl rfl (by decide) (by omega) (by omega) (Nat.le_of_ble_eq_true rfl)
  obtain ⟨G2, k2⟩ := hp2
  have X2 := hX.kp k2 (fun q e => by omega)
  have S2 := hS.kp k2 (fun q e => by omega)
  have E2 := hE.kp k2 (fun q e => by omega)
  have g02 := X2.1
  obtain ⟨gx2, -⟩ := S2.2.1 x hx
  obtain ⟨a1, ⟨f1, q1, -⟩, -⟩ := S2.2.2.1 x hx
  rw [hu2] at q1
  have q1a := q1.1
  obtain ⟨gc, gac, gs, gas, ⟨y1, ⟨fc, r1, r1f⟩, y3⟩, ygt⟩ := id G2
  have r1a := r1.1
  obtain ⟨rc, ac, rs, as_, ⟨e1, ⟨f2, e2, e2f⟩, e3⟩, e6⟩ := id E2
  have e2a := e2.1
  have rl := r1.2.2.1
  refine k_aload_n S dX7_expand_5 rfl ?_
  refine k_getf S dX7_expand_6 f_X7_89 (by assumption) (by rfl) ?_
  refine k_callV_r S dX7_expand_9 v_X7_107 (row_count D q1) (by assumption) (fun h9 hp9 => ?_) rfl rfl (by omega) (by omega) (by omega) (Nat.le_of_ble_eq_true rfl)
  rw [hp9]
  refine k_istore_n S dX7_expand_12 (by decide) ?_
  refine k_aload_n S dX7_expand_13 rfl ?_
  refine k_getf S dX7_expand_14 f_X7_26 (by assumption) (by rfl) ?_
  refine k_getf S dX7_expand_17 f_X7_166 (by assumption) (by rfl) ?_
  refine k_callV_r S dX7_expand_20 v_X7_107 (row_count D r1) (by assumption) (fun h20 hp20 => ?_) rfl rfl (by omega) (by omega) (by omega) (Nat.le_of_ble_eq_true rfl)
  rw [hp20]
  refine k_iload_n S dX7_expand_23 rfl ?_
  refine k_isub S dX7_expand_24 ?_
  refine k_istore_n S dX7_expand_25 (by decide) ?_
  refine k_aload_n S dX7_expand_26 rfl ?_
  refine k_getf S dX7_expand_27 f_X7_33 (by assumption) (by rfl) ?_
  refine k_getf S dX7_expand_30 f_X7_205 (by assumption) (by rfl) ?_
  refine k_callV_r S dX7_expand_33 v_X7_107 (row_count D e2) (by assumption) (fun h33 hp33 => ?_) rfl rfl (by omega) (by omega) (by omega) (Nat.le_of_ble_eq_true rfl)
  rw [hp33]
  refine k_iload_n S dX7_expand_36 rfl ?_
  refine k_iadd S dX7_expand_37 ?_
  refine k_bipush S dX7_expand_38 ?_
  refine k_icmp_le (tgt := 45) S dX7_expand_40 (by decide) (by omega) (by omega) (fun c40 => ?_) (fun c40 => ?_)
  · omega
  · refine k_iconst S dX7_expand_43 ?_
    exact k_zreturn S dX7_expand_44 (by omega) ⟨rfl, ⟨_, _, G2⟩, k2⟩ (by omega) (by omega)
/-- expand -/
theorem c_expand_g (D : DD) (hX : XTop h τ A td cu lg sv ex un) (hS : XS D h τ A n fw of sc le tg pn kd on ot) (hgf : ∃ cl0 sl0 : List Int, XGft h τ (A 3) cl0 sl0) (hn : n ≤ 8) (hB : BOk (n : Nat) pn kd on ot rk) (hB2 : BOk2 (n : Nat) pn kd on ot) (htd : 99 ≤ td ∧ td ≤ 9999) (hsc : ∀ s, s < n → sc s = 0 ∨ sc s = 1) (h200 : ∀ s : Nat, (s : Int) < ((n : Nat) : Int) → szF pn kd on ot 8 s ≤ 200) {nl c m9 : Nat} {tx sp : Nat → Int} (hE : XTxt h τ (A 4) 5 nl tx m9 sp c) (hcl : c ≤ nl ∧ nl ≤ 80) {x u : Nat} (hx : x < n) (hu : le x = (u : Nat)) (hu6 : u ≤ 6) {nl2 c2 m2 : Nat} {wa wp : Nat → Int} (hW : XTxt h τ (A 5) 6 nl2 wa m2 wp c2) (huc : u ≤ c) (hroom : nl - u + (lyF pn kd on ot sc td 8 x ([], [])).1.length ≤ 80) (hxr : 0 ≤ ex ∧ ex ≤ 1000) : GMet D yX7_expand cX7_expand 4 (some .boolean) [] 26 0 0 [gR (some (A 0)), gR (some (A (10 + x)))] h (pr (gI 1) (fun h1 => XTop h1 τ A td 1 ((((lyF pn kd on ot sc td 8 x ([], [])).1.length : Nat) : Int) - le x) (sv + ((((lyF pn kd on ot sc td 8 x ([], [])).1.length : Nat) : Int) - le x)) (ex + 1) un ∧ XTxt h1 τ (A 4) 5 (nl - u + (lyF pn kd on ot sc td 8 x ([], [])).1.length) (splT tx (c - u) u (lyF pn kd on ot sc td 8 x ([], [])).1 (lyF pn kd on ot sc td 8 x ([], [])).1.length) ((lyF pn kd on ot sc td 8 x ([], [])).2.length - 1) (fun q => ((c - u : Nat) : Int) + (lyF pn kd on ot sc td 8 x ([], [])).2.getD (q + 1) 0) (carT (c - u) (lyF pn kd on ot sc td 8 x ([], [])).1.length (lyF pn kd on ot sc td 8 x ([], [])).2) ∧ XTxt h1 τ (A 5) 6 nl tx m9 sp c ∧ (∃ cl0 sl0 : List Int, XGft h1 τ (A 3) cl0 sl0) ∧ keeps h h1 (fun q => τ q = 1 ∨ 4 ≤ τ q ∧ τ q ≤ 6))) := by
  refine GMet.intro RX7 rfl (by decide) (gcats rfl) (Nat.le_of_ble_eq_true rfl) fun K KX S => ?_
  show K 0 [some _, some _, none, none] [] _ 0 0
  have hS0 := hS
  obtain ⟨sz, he, re, hS, hG⟩ := hS
  have g0 := hX.1
  obtain ⟨gx, tx9⟩ := hS.2.1 x hx
  have hu2 : (le x).toNat = u := by omega
  refine k_aload_n S dX7_expand_0 rfl ?_
  refine k_aload_n S dX7_expand_1 rfl ?_
  refine k_callV_v S dX7_expand_2 v_X7_162 (c_gather D hX hS0 hgf hn hB hB2 htd hsc h200 hx) (by assumption) (fun h2 hp2 => ?_) rfl rfl (by decide) (by omega) (by omega) (Nat.le_of_ble_eq_true rfl)
  obtain ⟨G2, k2⟩ := hp2
  have X2 := hX.kp k2 (fun q e => by omega)
  have S2 := hS.kp k2 (fun q e => by omega)
  have E2 := hE.kp k2 (fun q e => by omega)
  have g02 := X2.1
  obtain ⟨gx2, -⟩ := S2.2.1 x hx
  obtain ⟨a1, ⟨f1, q1, -⟩, -⟩ := S2.2.2.1 x hx
  rw [hu2] at q1
  have q1a := q1.1
  obtain ⟨gc, gac, gs, gas, ⟨y1, ⟨fc, r1, r1f⟩, y3⟩, ygt⟩ := id G2
  have r1a := r1.1
  obtain ⟨rc, ac, rs, as_, ⟨e1, ⟨f2, e2, e2f⟩, e3⟩, e6⟩ := id E2
  have e2a := e2.1
  have rl := r1.2.2.1
  refine k_aload_n S dX7_expand_5 rfl ?_
  refine k_getf S dX7_expand_6 f_X7_89 (by assumption) (by rfl) ?_
  refine k_callV_r S dX7_expand_9 v_X7_107 (row_count D q1) (by assumption) (fun h9 hp9 => ?_) rfl rfl (by omega) (by omega) (by omega) (Nat.le_of_ble_eq_true rfl)
  rw [hp9]
  refine k_istore_n S dX7_expand_12 (by decide) ?_
  refine k_aload_n S dX7_expand_13 rfl ?_
  refine k_getf S dX7_expand_14 f_X7_26 (by assumption) (by rfl) ?_
  refine k_getf S dX7_expand_17 f_X7_166 (by assumption) (by rfl) ?_
  refine k_callV_r S dX7_expand_20 v_X7_107 (row_count D r1) (by assumption) (fun h20 hp20 => ?_) rfl rfl (by omega) (by omega) (by omega) (Nat.le_of_ble_eq_true rfl)
  rw [hp20]
  refine k_iload_n S dX7_expand_23 rfl ?_
  refine k_isub S dX7_expand_24 ?_
  refine k_istore_n S dX7_expand_25 (by decide) ?_
  refine k_aload_n S dX7_expand_26 rfl ?_
  refine k_getf S dX7_expand_27 f_X7_33 (by assumption) (by rfl) ?_
  refine k_getf S dX7_expand_30 f_X7_205 (by assumption) (by rfl) ?_
  refine k_callV_r S dX7_expand_33 v_X7_107 (row_count D e2) (by assumption) (fun h33 hp33 => ?_) rfl rfl (by omega) (by omega) (by omega) (Nat.le_of_ble_eq_true rfl)
  rw [hp33]
  refine k_iload_n S dX7_expand_36 rfl ?_
  refine k_iadd S dX7_expand_37 ?_
  refine k_bipush S dX7_expand_38 ?_
  refine k_icmp_le (tgt := 45) S dX7_expand_40 (by decide) (by omega) (by omega) (fun c40 => ?_) (fun c40 => ?_)
  · have hW2 := hW.kp k2 (fun q e => by omega)
    obtain ⟨wt, wu⟩ : ∃ fs, h2 (A 5) = some (gObj 5 fs) := by obtain ⟨w1, w2, w3, w4, w5, -⟩ := hW2; exact ⟨_, w5.1⟩
    have ok := lyF_ok (sc := sc) hB hB2 htd 8 x (by omega) ([], []) (fun x z => by cases z) (fun x z => by cases z)
    refine k_aload_n S dX7_expand_45 rfl ?_
    refine k_getf S dX7_expand_46 f_X7_37 (by assumption) (by rfl) ?_
    refine k_aload_n S dX7_expand_49 rfl ?_
    refine k_getf S dX7_expand_50 f_X7_33 (by assumption) (by rfl) ?_
    refine k_callV_v S dX7_expand_53 v_X7_236 (c_copy D hW2 E2 (by omega)) (by assumption) (fun h53 hp53 => ?_) rfl rfl (by omega) (by omega) (by omega) (Nat.le_of_ble_eq_true rfl)
    obtain ⟨W53, k53⟩ := hp53
    have X53 := X2.kp k53 (fun q e => by omega)
    have E53 := E2.kp k53 (fun q e => by omega)
    have G53 := G2.mv k53 (fun q e => by omega) rtg.rf
    have g053 := X53.1
    obtain ⟨wt2, wu2⟩ : ∃ fs, h53 (A 4) = some (gObj 5 fs) := by obtain ⟨w1, w2, w3, w4, w5, -⟩ := E53; exact ⟨_, w5.1⟩
    refine k_aload_n S dX7_expand_56 rfl ?_
    refine k_getf S dX7_expand_57 f_X7_33 (by assumption) (by rfl) ?_
    refine k_iload_n S dX7_expand_60 rfl ?_
    refine k_aload_n S dX7_expand_61 rfl ?_
    refine k_getf S dX7_expand_62 f_X7_26 (by assumption) (by rfl) ?_
    refine k_callV_v S dX7_expand_65 v_X7_358 (c_repl D E53 G53 (by omega) (u := u) ⟨huc, hcl.1⟩ hroom (fun x z => by have := ok.2 x z; omega)) (by assumption) (fun h65 hp65 => ?_) rfl rfl (by omega) (by omega) (by omega) (Nat.le_of_ble_eq_true rfl)
    obtain ⟨E65, k65⟩ := hp65
    have X65 := X53.kp k65 (fun q e => by omega)
    have W65 := W53.kp k65 (fun q e => by omega)
    have G65 := G53.mv k65 (fun q e => by omega) rtg.rf
    have kk65 : keeps h h65 (fun q => τ q = 1 ∨ 4 ≤ τ q ∧ τ q ≤ 6) := ((k2.mono fun q e => by omega).tr (k53.mono fun q e => by omega)).tr (k65.mono fun q e => by omega)
    have g065 := X65.1
    refine k_aload_n S dX7_expand_68 rfl ?_
    refine k_iconst S dX7_expand_69 ?_
    refine k_putf S dX7_expand_70 f_X7_44 g065 (gfit_bool (by omega)) (Nat.le_of_ble_eq_true rfl) ?_
    simp only [List.set_cons_succ, List.set_cons_zero]
    generalize e70 : hput h65 _ _ = h70
    have X70 : XTop h70 τ A td 1 lg sv ex un := ⟨by rw [← e70]; exact hput_s _ _ _, hX.2⟩
    have k70 : keeps h h70 (fun q => τ q = 1 ∨ 4 ≤ τ q ∧ τ q ≤ 6) := by rw [← e70]; exact kk65.tr (keeps.put (Or.inl (Or.inl hX.2)))
    have g070 := X70.1
    refine k_aload_n S dX7_expand_73 rfl ?_
    refine k_dup S dX7_expand_74 ?_
    refine k_getf S dX7_expand_75 f_X7_55 (by assumption) (by rfl) ?_
    refine k_iconst S dX7_expand_78 ?_
    refine k_iadd S dX7_expand_79 ?_
    refine k_putf S dX7_expand_80 f_X7_55 g070 (gfit_int _) (Nat.le_of_ble_eq_true rfl) ?_
    simp only [List.set_cons_succ, List.set_cons_zero]
    generalize e80 : hput h70 _ _ = h80
    have X80 : XTop h80 τ A td 1 lg sv (ex + 1) un := ⟨by rw [← e80]; exact hput_s _ _ _, hX.2⟩
    have k80 : keeps h h80 (fun q => τ q = 1 ∨ 4 ≤ τ q ∧ τ q ≤ 6) := by rw [← e80]; exact k70.tr (keeps.put (Or.inl (Or.inl hX.2)))
    have g080 := X80.1
    refine k_aload_n S dX7_expand_83 rfl ?_
    refine k_iload_n S dX7_expand_84 rfl ?_
    refine k_putf S dX7_expand_85 f_X7_48 g080 (gfit_int _) (Nat.le_of_ble_eq_true rfl) ?_
    simp only [List.set_cons_succ, List.set_cons_zero]
    generalize e85 : hput h80 _ _ = h85
    have X85 : XTop h85 τ A td 1 ((lyF pn kd on ot sc td 8 x ([], [])).1.length - (u : Nat)) sv (ex + 1) un := ⟨by rw [← e85]; exact hput_s _ _ _, hX.2⟩
    have k85 : keeps h h85 (fun q => τ q = 1 ∨ 4 ≤ τ q ∧ τ q ≤ 6) := by rw [← e85]; exact k80.tr (keeps.put (Or.inl (Or.inl hX.2)))
    have g085 := X85.1
    refine k_aload_n S dX7_expand_88 rfl ?_
    refine k_dup S dX7_expand_89 ?_
    refine k_getf S dX7_expand_90 f_X7_51 (by assumption) (by rfl) ?_
    refine k_iload_n S dX7_expand_93 rfl ?_
    refine k_i2l S dX7_expand_94 (by omega) ?_
    refine k_ladd S dX7_expand_95 ?_
    refine k_putf S dX7_expand_96 f_X7_51 g085 (gfit_long _) (Nat.le_of_ble_eq_true rfl) ?_
    simp only [List.set_cons_succ, List.set_cons_zero]
    generalize e96 : hput h85 _ _ = h96
    have X96 : XTop h96 τ A td 1 ((lyF pn kd on ot sc td 8 x ([], [])).1.length - (u : Nat)) (sv + ((lyF pn kd on ot sc td 8 x ([], [])).1.length - (u : Nat))) (ex + 1) un := ⟨by rw [← e96]; exact hput_s _ _ _, hX.2⟩
    have k96 : keeps h h96 (fun q => τ q = 1 ∨ 4 ≤ τ q ∧ τ q ≤ 6) := by rw [← e96]; exact k85.tr (keeps.put (Or.inl (Or.inl hX.2)))
    have g096 := X96.1
    have kl : keeps h65 h96 (fun q => τ q = 1) := by rw [← e96, ← e85, ← e80, ← e70]; exact keeps.pp (keeps.pp (keeps.pp (keeps.pp keeps.rf hX.2) hX.2) hX.2) hX.2
    refine k_iconst S dX7_expand_99 ?_
    exact k_zreturn S dX7_expand_100 (by omega) ⟨rfl, by rw [hu]; exact ⟨X96, E65.kp kl (fun q e => by omega), W65.kp kl (fun q e => by omega), ⟨_, _, G65.mv kl (fun q e => by omega) rtg.rf⟩, k96⟩⟩ (by omega) (by omega)
  · omega
/-- key, not a character -/
theorem c_key_c (D : DD) (hX : XTop h τ A td cu lg sv ex un) {k : Int} (hk : 0 ≤ k ∧ k < 65536) (hk2 : ¬ canT k) : GMet D yX7_key cX7_key 3 (some .int) [] 27 1 6 [gR (some (A 0)), gI k] h (px "java/lang/IllegalArgumentException" (fun h1 => h1 = h)) := by
  refine GMet.intro RX7 rfl (by decide) (gcats rfl) (Nat.le_of_ble_eq_true rfl) fun K KX S => ?_
  show K 0 [some _, some _, none] [] _ 0 0
  have g0 := hX.1
  refine k_iload_n S dX7_key_0 rfl ?_
  refine k_callS_x S dX7_key_1 s_X7_85 (c_typeable_x D hk hk2) (fun h1 hp1 => ?_) rfl rfl (by decide) (by omega) (by omega) (Nat.le_of_ble_eq_true rfl)
  rw [hp1]
  exact k_out S ⟨rfl, rfl⟩ (by omega) (by omega)
/-- key, full -/
theorem c_key_f (D : DD) (hX : XTop h τ A td cu lg sv ex un) {nl c m9 : Nat} {tx sp : Nat → Int} (hE : XTxt h τ (A 4) 5 nl tx m9 sp c) {k : Int} (hk : 0 ≤ k ∧ k < 65536) (hk2 : canT k) (hn80 : nl = 80) : GMet D yX7_key cX7_key 3 (some .int) [] 27 1 6 [gR (some (A 0)), gI k] h (px "java/lang/IllegalStateException" (fun h1 => h1 = h)) := by
  refine GMet.intro RX7 rfl (by decide) (gcats rfl) (Nat.le_of_ble_eq_true rfl) fun K KX S => ?_
  show K 0 [some _, some _, none] [] _ 0 0
  have g0 := hX.1
  obtain ⟨rc, ac, rs, as_, ⟨e1, ⟨f2, e2, e2f⟩, e3⟩, e6⟩ := id hE
  have e2a := e2.1
  refine k_iload_n S dX7_key_0 rfl ?_
  refine k_callS_v S dX7_key_1 s_X7_85 (c_typeable D hk hk2) (fun h1 hp1 => ?_) rfl rfl (by decide) (by omega) (by omega) (Nat.le_of_ble_eq_true rfl)
  rw [hp1]
  refine k_aload_n S dX7_key_4 rfl ?_
  refine k_getf S dX7_key_5 f_X7_33 (by assumption) (by rfl) ?_
  refine k_getf S dX7_key_8 f_X7_205 (by assumption) (by rfl) ?_
  refine k_callV_r S dX7_key_11 v_X7_93 (row_isFull D e2) (by assumption) (fun h11 hp11 => ?_) rfl rfl (by decide) (by omega) (by omega) (Nat.le_of_ble_eq_true rfl)
  rw [hp11]
  refine k_if_eq (tgt := 27) S dX7_key_14 (by decide) (b01_r _) (fun c14 => ?_) (fun c14 => ?_)
  · exact absurd hn80 (b01_0.mp c14)
  · exact k_throwS S th_206_65 dX7_key_17 dX7_key_20 dX7_key_21 dX7_key_23 dX7_key_26 ⟨rfl, rfl⟩ (by omega) (by omega) (by decide)
/-- key, nothing to expand -/
theorem c_key_n (D : DD) (hX : XTop h τ A td cu lg sv ex un) (hS : XS D h τ A n fw of sc le tg pn kd on ot) (hn : n ≤ 8) (hT : TOk (n : Nat) le of fw) (hg : allC tg) (hTr : XTre h τ (A 2) n le tg) {nl c m9 : Nat} {tx sp : Nat → Int} (hE : XTxt h τ (A 4) 5 nl tx m9 sp c) (hcl : c ≤ nl) (hn80 : nl < 80) (hxx : allC tx) (hZ : ∀ q, q < m9 → inR (sp q)) {k : Int} (hk : 0 ≤ k ∧ k < 65536) (hk2 : canT k) (hv : bsF (mtP of le tg (insM tx nl c k) fw ((c + 1 : Nat))) le n 0 (-1) = -1) : GMet D yX7_key cX7_key 3 (some .int) [] 27 1 6 [gR (some (A 0)), gI k] h (pr (gI (-1)) (fun h1 => XTop h1 τ A td 0 lg sv ex un ∧ XTxt h1 τ (A 4) 5 (nl + 1) (insM tx nl c k) m9 (shM sp m9 c 1) (c + 1) ∧ keeps h h1 (fun q => τ q = 1 ∨ τ q = 5))) := by
  refine GMet.intro RX7 rfl (by decide) (gcats rfl) (Nat.le_of_ble_eq_true rfl) fun K KX S => ?_
  show K 0 [some _, some _, none] [] _ 0 0
  have g0 := hX.1
  obtain ⟨rc, ac, rs, as_, ⟨e1, ⟨f2, e2, e2f⟩, e3⟩, e6⟩ := id hE
  have e2a := e2.1
  refine k_iload_n S dX7_key_0 rfl ?_
  refine k_callS_v S dX7_key_1 s_X7_85 (c_typeable D hk hk2) (fun h1 hp1 => ?_) rfl rfl (by decide) (by omega) (by omega) (Nat.le_of_ble_eq_true rfl)
  rw [hp1]
  refine k_aload_n S dX7_key_4 rfl ?_
  refine k_getf S dX7_key_5 f_X7_33 (by assumption) (by rfl) ?_
  refine k_getf S dX7_key_8 f_X7_205 (by assumption) (by rfl) ?_
  refine k_callV_r S dX7_key_11 v_X7_93 (row_isFull D e2) (by assumption) (fun h11 hp11 => ?_) rfl rfl (by decide) (by omega) (by omega) (Nat.le_of_ble_eq_true rfl)
  rw [hp11]
  refine k_if_eq (tgt := 27) S dX7_key_14 (by decide) (b01_r _) (fun c14 => ?_) (fun c14 => ?_)
  · refine k_aload_n S dX7_key_27 rfl ?_
    refine k_iconst S dX7_key_28 ?_
    refine k_putf S dX7_key_29 f_X7_44 g0 (gfit_bool (by omega)) (Nat.le_of_ble_eq_true rfl) ?_
    simp only [List.set_cons_succ, List.set_cons_zero]
    generalize e29 : hput h _ _ = h29
    have X29 : XTop h29 τ A td 0 lg sv ex un := ⟨by rw [← e29]; exact hput_s _ _ _, hX.2⟩
    have k29 : keeps h h29 (fun q => τ q = 1) := by rw [← e29]; exact keeps.put (Or.inl hX.2)
    have g029 := X29.1
    obtain ⟨rd, ad, ru, au, t9, t6⟩ := id (hE.kp k29 (fun q e => by omega))
    have t9a := t9.1
    refine k_aload_n S dX7_key_32 rfl ?_
    refine k_getf S dX7_key_33 f_X7_33 (by assumption) (by rfl) ?_
    refine k_iload_n S dX7_key_36 rfl ?_
    refine k_callV_v S dX7_key_37 v_X7_208 (tx_type D t9 (v := k) hZ hcl hn80) (by assumption) (fun h37 hp37 => ?_) rfl rfl (by omega) (by omega) (by omega) (Nat.le_of_ble_eq_true rfl)
    have k37 : keeps h29 h37 (fun q => τ q = 5) := hp37.2.mono fun q y => t6 q y
    have E37 : XTxt h37 τ (A 4) 5 (nl + 1) (insM tx nl c k) m9 (shM sp m9 c 1) (c + 1) := XTxt.to ⟨rd, ad, ru, au, hp37.1, t6⟩ (fun q hq => by
      unfold insT insM
      by_cases z1 : q < c
      · rw [if_pos z1, if_neg (by omega), if_neg (by omega)]
      · rw [if_neg z1]
        by_cases z2 : q = c
        · rw [if_pos z2, if_pos z2]
        · rw [if_neg z2, if_neg z2, if_pos (by omega)]) (fun q hq => by
      unfold shF shM
      by_cases z1 : (c : Int) ≤ sp q
      · rw [if_pos z1, if_pos ⟨hq, z1⟩]
      · rw [if_neg z1, if_neg (fun z => z1 z.2)])
    have X37 := X29.kp k37 (fun q e => by omega)
    have kk37 : keeps h h37 (fun q => τ q = 1 ∨ τ q = 5) := (k29.mono fun q e => by omega).tr (k37.mono fun q e => by omega)
    have S37 := hS.mv kk37 (fun q e => by omega) rtg.rf ⟨rfl, fun _ _ => ⟨rfl, rfl, rfl⟩⟩
    have T37 := hTr.mv kk37 (fun q e1 e2 => by omega) rtg.rf
    have g037 := X37.1
    have ix : allC (insM tx nl c k) := allC_ins hxx hk
    refine k_aload_n S dX7_key_40 rfl ?_
    refine k_callV_r S dX7_key_41 v_X7_211 (c_findTree D X37 hn S37 hT hg E37 ix ⟨by omega, by omega⟩ T37) (by assumption) (fun h41 hp41 => ?_) rfl rfl (by omega) (by omega) (by omega) (Nat.le_of_ble_eq_true rfl)
    rw [hp41, hv]
    refine k_istore_n S dX7_key_44 (by decide) ?_
    refine k_iload_n S dX7_key_45 rfl ?_
    refine k_iconst S dX7_key_46 ?_
    refine k_icmp_ne (tgt := 52) S dX7_key_47 (by decide) (by omega) (by omega) (fun c47 => ?_) (fun c47 => ?_)
    · omega
    · refine k_iconst S dX7_key_50 ?_
      exact k_ireturn S dX7_key_51 ⟨rfl, X37, E37, kk37⟩ (by omega) (by omega)
  · exact absurd (b01_n.mp c14) (by omega)
/-- key, no room to expand -/
theorem c_key_o (D : DD) (hX : XTop h τ A td cu lg sv ex un) (hS : XS D h τ A n fw of sc le tg pn kd on ot) (hn : n ≤ 8) (hT : TOk (n : Nat) le of fw) (hg : allC tg) (hTr : XTre h τ (A 2) n le tg) {nl c m9 : Nat} {tx sp : Nat → Int} (hE : XTxt h τ (A 4) 5 nl tx m9 sp c) (hcl : c ≤ nl) (hn80 : nl < 80) (hxx : allC tx) (hZ : ∀ q, q < m9 → inR (sp q)) {k : Int} (hk : 0 ≤ k ∧ k < 65536) (hk2 : canT k) (hgf : ∃ cl0 sl0 : List Int, XGft h τ (A 3) cl0 sl0) {x u : Nat} (hx : x < n) (hu : le x = (u : Nat)) (hu6 : u ≤ 6) (hv : bsF (mtP of le tg (insM tx nl c k) fw ((c + 1 : Nat))) le n 0 (-1) = (x : Nat)) (huc : u ≤ c + 1) (hB : BOk (n : Nat) pn kd on ot rk) (hB2 : BOk2 (n : Nat) pn kd on ot) (htd : 99 ≤ td ∧ td ≤ 9999) (hsc : ∀ s, s < n → sc s = 0 ∨ sc s = 1) (h200 : ∀ s : Nat, (s : Int) < ((n : Nat) : Int) → szF pn kd on ot 8 s ≤ 200) (hroom : 80 < nl + 1 - u + (lyF pn kd on ot sc td 8 x ([], [])).1.length) : GMet D yX7_key cX7_key 3 (some .int) [] 27 1 6 [gR (some (A 0)), gI k] h (pr (gI (-1)) (fun h1 => XTop h1 τ A td 0 lg sv ex un ∧ XTxt h1 τ (A 4) 5 (nl + 1) (insM tx nl c k) m9 (shM sp m9 c 1) (c + 1) ∧ (∃ cl0 sl0 : List Int, XGft h1 τ (A 3) cl0 sl0) ∧ keeps h h1 (fun q => τ q = 1 ∨ 4 ≤ τ q ∧ τ q ≤ 5))) := by
  refine GMet.intro RX7 rfl (by decide) (gcats rfl) (Nat.le_of_ble_eq_true rfl) fun K KX S => ?_
  show K 0 [some _, some _, none] [] _ 0 0
  have g0 := hX.1
  obtain ⟨rc, ac, rs, as_, ⟨e1, ⟨f2, e2, e2f⟩, e3⟩, e6⟩ := id hE
  have e2a := e2.1
  refine k_iload_n S dX7_key_0 rfl ?_
  refine k_callS_v S dX7_key_1 s_X7_85 (c_typeable D hk hk2) (fun h1 hp1 => ?_) rfl rfl (by decide) (by omega) (by omega) (Nat.le_of_ble_eq_true rfl)
  rw [hp1]
  refine k_aload_n S dX7_key_4 rfl ?_
  refine k_getf S dX7_key_5 f_X7_33 (by assumption) (by rfl) ?_
  refine k_getf S dX7_key_8 f_X7_205 (by assumption) (by rfl) ?_
  refine k_callV_r S dX7_key_11 v_X7_93 (row_isFull D e2) (by assumption) (fun h11 hp11 => ?_) rfl rfl (by decide) (by omega) (by omega) (Nat.le_of_ble_eq_true rfl)
  rw [hp11]
  refine k_if_eq (tgt := 27) S dX7_key_14 (by decide) (b01_r _) (fun c14 => ?_) (fun c14 => ?_)
  · refine k_aload_n S dX7_key_27 rfl ?_
    refine k_iconst S dX7_key_28 ?_
    refine k_putf S dX7_key_29 f_X7_44 g0 (gfit_bool (by omega)) (Nat.le_of_ble_eq_true rfl) ?_
    simp only [List.set_cons_succ, List.set_cons_zero]
    generalize e29 : hput h _ _ = h29
    have X29 : XTop h29 τ A td 0 lg sv ex un := ⟨by rw [← e29]; exact hput_s _ _ _, hX.2⟩
    have k29 : keeps h h29 (fun q => τ q = 1) := by rw [← e29]; exact keeps.put (Or.inl hX.2)
    have g029 := X29.1
    obtain ⟨rd, ad, ru, au, t9, t6⟩ := id (hE.kp k29 (fun q e => by omega))
    have t9a := t9.1
    refine k_aload_n S dX7_key_32 rfl ?_
    refine k_getf S dX7_key_33 f_X7_33 (by assumption) (by rfl) ?_
    refine k_iload_n S dX7_key_36 rfl ?_
    refine k_callV_v S dX7_key_37 v_X7_208 (tx_type D t9 (v := k) hZ hcl hn80) (by assumption) (fun h37 hp37 => ?_) rfl rfl (by omega) (by omega) (by omega) (Nat.le_of_ble_eq_true rfl)
    have k37 : keeps h29 h37 (fun q => τ q = 5) := hp37.2.mono fun q y => t6 q y
    have E37 : XTxt h37 τ (A 4) 5 (nl + 1) (insM tx nl c k) m9 (shM sp m9 c 1) (c + 1) := XTxt.to ⟨rd, ad, ru, au, hp37.1, t6⟩ (fun q hq => by
      unfold insT insM
      by_cases z1 : q < c
      · rw [if_pos z1, if_neg (by omega), if_neg (by omega)]
      · rw [if_neg z1]
        by_cases z2 : q = c
        · rw [if_pos z2, if_pos z2]
        · rw [if_neg z2, if_neg z2, if_pos (by omega)]) (fun q hq => by
      unfold shF shM
      by_cases z1 : (c : Int) ≤ sp q
      · rw [if_pos z1, if_pos ⟨hq, z1⟩]
      · rw [if_neg z1, if_neg (fun z => z1 z.2)])
    have X37 := X29.kp k37 (fun q e => by omega)
    have kk37 : keeps h h37 (fun q => τ q = 1 ∨ τ q = 5) := (k29.mono fun q e => by omega).tr (k37.mono fun q e => by omega)
    have S37 := hS.mv kk37 (fun q e => by omega) rtg.rf ⟨rfl, fun _ _ => ⟨rfl, rfl, rfl⟩⟩
    have T37 := hTr.mv kk37 (fun q e1 e2 => by omega) rtg.rf
    have g037 := X37.1
    have ix : allC (insM tx nl c k) := allC_ins hxx hk
    refine k_aload_n S dX7_key_40 rfl ?_
    refine k_callV_r S dX7_key_41 v_X7_211 (c_findTree D X37 hn S37 hT hg E37 ix ⟨by omega, by omega⟩ T37) (by assumption) (fun h41 hp41 => ?_) rfl rfl (by omega) (by omega) (by omega) (Nat.le_of_ble_eq_true rfl)
    rw [hp41, hv]
    refine k_istore_n S dX7_key_44 (by decide) ?_
    refine k_iload_n S dX7_key_45 rfl ?_
    refine k_iconst S dX7_key_46 ?_
    refine k_icmp_ne (tgt := 52) S dX7_key_47 (by decide) (by omega) (by omega) (fun c47 => ?_) (fun c47 => ?_)
    · obtain ⟨cl0, sl0, hgf0⟩ := hgf
      have G37 := hgf0.mv kk37 (fun q e => by omega) rtg.rf
      obtain ⟨sz, he, re, S9, -⟩ := id S37
      obtain ⟨gx9, -⟩ := S9.2.1 x hx
      refine k_aload_n S dX7_key_52 rfl ?_
      refine k_aload_n S dX7_key_53 rfl ?_
      refine k_iload_n S dX7_key_54 rfl ?_
      refine k_callV_r S dX7_key_55 v_X7_81 (c_snAt_g D X37 S9.1 hn hx gx9) (by assumption) (fun h55 hp55 => ?_) rfl rfl (by decide) (by omega) (by omega) (Nat.le_of_ble_eq_true rfl)
      rw [hp55]
      refine k_callV_r S dX7_key_58 v_X7_214 (c_expand_n D X37 S37 ⟨cl0, sl0, G37⟩ hn hB hB2 htd hsc h200 E37 ⟨by omega, by omega⟩ hx hu hu6 huc hroom) (by assumption) (fun h58 hp58 => ?_) rfl rfl (by omega) (by omega) (by omega) (Nat.le_of_ble_eq_true rfl)
      refine k_if_eq (tgt := 68) S dX7_key_61 (by decide) (by omega) (fun c61 => ?_) (fun c61 => ?_)
      · refine k_iconst S dX7_key_68 ?_
        exact k_ireturn S dX7_key_69 ⟨rfl, X37.kp hp58.2 (fun q e => by omega), E37.kp hp58.2 (fun q e => by omega), hp58.1, (kk37.mono fun q e => by omega).tr (hp58.2.mono fun q e => by omega)⟩ (by omega) (by omega)
      · omega
    · omega
  · exact absurd (b01_n.mp c14) (by omega)
/-- key, expanded -/
theorem c_key_e (D : DD) (hX : XTop h τ A td cu lg sv ex un) (hS : XS D h τ A n fw of sc le tg pn kd on ot) (hn : n ≤ 8) (hT : TOk (n : Nat) le of fw) (hg : allC tg) (hTr : XTre h τ (A 2) n le tg) {nl c m9 : Nat} {tx sp : Nat → Int} (hE : XTxt h τ (A 4) 5 nl tx m9 sp c) (hcl : c ≤ nl) (hn80 : nl < 80) (hxx : allC tx) (hZ : ∀ q, q < m9 → inR (sp q)) {k : Int} (hk : 0 ≤ k ∧ k < 65536) (hk2 : canT k) (hgf : ∃ cl0 sl0 : List Int, XGft h τ (A 3) cl0 sl0) {x u : Nat} (hx : x < n) (hu : le x = (u : Nat)) (hu6 : u ≤ 6) (hv : bsF (mtP of le tg (insM tx nl c k) fw ((c + 1 : Nat))) le n 0 (-1) = (x : Nat)) (huc : u ≤ c + 1) (hB : BOk (n : Nat) pn kd on ot rk) (hB2 : BOk2 (n : Nat) pn kd on ot) (htd : 99 ≤ td ∧ td ≤ 9999) (hsc : ∀ s, s < n → sc s = 0 ∨ sc s = 1) (h200 : ∀ s : Nat, (s : Int) < ((n : Nat) : Int) → szF pn kd on ot 8 s ≤ 200) {nl2 c2 m2 : Nat} {wa wp : Nat → Int} (hW : XTxt h τ (A 5) 6 nl2 wa m2 wp c2) (hroom : nl + 1 - u + (lyF pn kd on ot sc td 8 x ([], [])).1.length ≤ 80) (hxr : 0 ≤ ex ∧ ex ≤ 1000) : GMet D yX7_key cX7_key 3 (some .int) [] 27 1 6 [gR (some (A 0)), gI k] h (pr (gI (x : Nat)) (fun h1 => XTop h1 τ A td 1 ((((lyF pn kd on ot sc td 8 x ([], [])).1.length : Nat) : Int) - le x) (sv + ((((lyF pn kd on ot sc td 8 x ([], [])).1.length : Nat) : Int) - le x)) (ex + 1) un ∧ XTxt h1 τ (A 4) 5 (nl + 1 - u + (lyF pn kd on ot sc td 8 x ([], [])).1.length) (splT (insM tx nl c k) (c + 1 - u) u (lyF pn kd on ot sc td 8 x ([], [])).1 (lyF pn kd on ot sc td 8 x ([], [])).1.length) ((lyF pn kd on ot sc td 8 x ([], [])).2.length - 1) (fun q => ((c + 1 - u : Nat) : Int) + (lyF pn kd on ot sc td 8 x ([], [])).2.getD (q + 1) 0) (carT (c + 1 - u) (lyF pn kd on ot sc td 8 x ([], [])).1.length (lyF pn kd on ot sc td 8 x ([], [])).2) ∧ XTxt h1 τ (A 5) 6 (nl + 1) (insM tx nl c k) m9 (shM sp m9 c 1) (c + 1) ∧ (∃ cl0 sl0 : List Int, XGft h1 τ (A 3) cl0 sl0) ∧ keeps h h1 (fun q => τ q = 1 ∨ 4 ≤ τ q ∧ τ q ≤ 6))) := by
  refine GMet.intro RX7 rfl (by decide) (gcats rfl) (Nat.le_of_ble_eq_true rfl) fun K KX S => ?_
  show K 0 [some _, some _, none] [] _ 0 0
  have g0 := hX.1
  obtain ⟨rc, ac, rs, as_, ⟨e1, ⟨f2, e2, e2f⟩, e3⟩, e6⟩ := id hE
  have e2a := e2.1
  refine k_iload_n S dX7_key_0 rfl ?_
  refine k_callS_v S dX7_key_1 s_X7_85 (c_typeable D hk hk2) (fun h1 hp1 => ?_) rfl rfl (by decide) (by omega) (by omega) (Nat.le_of_ble_eq_true rfl)
  rw [hp1]
  refine k_aload_n S dX7_key_4 rfl ?_
  refine k_getf S dX7_key_5 f_X7_33 (by assumption) (by rfl) ?_
  refine k_getf S dX7_key_8 f_X7_205 (by assumption) (by rfl) ?_
  refine k_callV_r S dX7_key_11 v_X7_93 (row_isFull D e2) (by assumption) (fun h11 hp11 => ?_) rfl rfl (by decide) (by omega) (by omega) (Nat.le_of_ble_eq_true rfl)
  rw [hp11]
  refine k_if_eq (tgt := 27) S dX7_key_14 (by decide) (b01_r _) (fun c14 => ?_) (fun c14 => ?_)
  · refine k_aload_n S dX7_key_27 rfl ?_
    refine k_iconst S dX7_key_28 ?_
    refine k_putf S dX7_key_29 f_X7_44 g0 (gfit_bool (by omega)) (Nat.le_of_ble_eq_true rfl) ?_
    simp only [List.set_cons_succ, List.set_cons_zero]
    generalize e29 : hput h _ _ = h29
    have X29 : XTop h29 τ A td 0 lg sv ex un := ⟨by rw [← e29]; exact hput_s _ _ _, hX.2⟩
    have k29 : keeps h h29 (fun q => τ q = 1) := by rw [← e29]; exact keeps.put (Or.inl hX.2)
    have g029 := X29.1
    obtain ⟨rd, ad, ru, au, t9, t6⟩ := id (hE.kp k29 (fun q e => by omega))
    have t9a := t9.1
    refine k_aload_n S dX7_key_32 rfl ?_
    refine k_getf S dX7_key_33 f_X7_33 (by assumption) (by rfl) ?_
    refine k_iload_n S dX7_key_36 rfl ?_
    refine k_callV_v S dX7_key_37 v_X7_208 (tx_type D t9 (v := k) hZ hcl hn80) (by assumption) (fun h37 hp37 => ?_) rfl rfl (by omega) (by omega) (by omega) (Nat.le_of_ble_eq_true rfl)
    have k37 : keeps h29 h37 (fun q => τ q = 5) := hp37.2.mono fun q y => t6 q y
    have E37 : XTxt h37 τ (A 4) 5 (nl + 1) (insM tx nl c k) m9 (shM sp m9 c 1) (c + 1) := XTxt.to ⟨rd, ad, ru, au, hp37.1, t6⟩ (fun q hq => by
      unfold insT insM
      by_cases z1 : q < c
      · rw [if_pos z1, if_neg (by omega), if_neg (by omega)]
      · rw [if_neg z1]
        by_cases z2 : q = c
        · rw [if_pos z2, if_pos z2]
        · rw [if_neg z2, if_neg z2, if_pos (by omega)]) (fun q hq => by
      unfold shF shM
      by_cases z1 : (c : Int) ≤ sp q
      · rw [if_pos z1, if_pos ⟨hq, z1⟩]
      · rw [if_neg z1, if_neg (fun z => z1 z.2)])
    have X37 := X29.kp k37 (fun q e => by omega)
    have kk37 : keeps h h37 (fun q => τ q = 1 ∨ τ q = 5) := (k29.mono fun q e => by omega).tr (k37.mono fun q e => by omega)
    have S37 := hS.mv kk37 (fun q e => by omega) rtg.rf ⟨rfl, fun _ _ => ⟨rfl, rfl, rfl⟩⟩
    have T37 := hTr.mv kk37 (fun q e1 e2 => by omega) rtg.rf
    have g037 := X37.1
    have ix : allC (insM tx nl c k) := allC_ins hxx hk
    refine k_aload_n S dX7_key_40 rfl ?_
    refine k_callV_r S dX7_key_41 v_X7_211 (c_findTree D X37 hn S37 hT hg E37 ix ⟨by omega, by omega⟩ T37) (by assumption) (fun h41 hp41 => ?_) rfl rfl (by omega) (by omega) (by omega) (Nat.le_of_ble_eq_true rfl)
    rw [hp41, hv]
    refine k_istore_n S dX7_key_44 (by decide) ?_
    refine k_iload_n S dX7_key_45 rfl ?_
    refine k_iconst S dX7_key_46 ?_
    refine k_icmp_ne (tgt := 52) S dX7_key_47 (by decide) (by omega) (by omega) (fun c47 => ?_) (fun c47 => ?_)
    · obtain ⟨cl0, sl0, hgf0⟩ := hgf
      have G37 := hgf0.mv kk37 (fun q e => by omega) rtg.rf
      obtain ⟨sz, he, re, S9, -⟩ := id S37
      obtain ⟨gx9, -⟩ := S9.2.1 x hx
      refine k_aload_n S dX7_key_52 rfl ?_
      refine k_aload_n S dX7_key_53 rfl ?_
      refine k_iload_n S dX7_key_54 rfl ?_
      refine k_callV_r S dX7_key_55 v_X7_81 (c_snAt_g D X37 S9.1 hn hx gx9) (by assumption) (fun h55 hp55 => ?_) rfl rfl (by decide) (by omega) (by omega) (Nat.le_of_ble_eq_true rfl)
      rw [hp55]
      refine k_callV_r S dX7_key_58 v_X7_214 (c_expand_g D X37 S37 ⟨cl0, sl0, G37⟩ hn hB hB2 htd hsc h200 E37 ⟨by omega, by omega⟩ hx hu hu6 (hW.kp kk37 (fun q e => by omega)) huc hroom hxr) (by assumption) (fun h58 hp58 => ?_) rfl rfl (by omega) (by omega) (by omega) (Nat.le_of_ble_eq_true rfl)
      refine k_if_eq (tgt := 68) S dX7_key_61 (by decide) (by omega) (fun c61 => ?_) (fun c61 => ?_)
      · omega
      · refine k_iload_n S dX7_key_64 rfl ?_
        refine k_goto (tgt := 69) S dX7_key_65 (by decide) ?_
        exact k_ireturn S dX7_key_69 ⟨rfl, hp58.1, hp58.2.1, hp58.2.2.1, hp58.2.2.2.1, (kk37.mono fun q e => by omega).tr hp58.2.2.2.2⟩ (by omega) (by omega)
    · omega
  · exact absurd (b01_n.mp c14) (by omega)
end
