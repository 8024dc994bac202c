theorem IsGift.som {h : GH} {g rc ac rs as_ : Nat} {cl sl : List Int} (hg : IsGift h g rc ac rs as_ cl sl) : ∀ q, tP g rc ac rs as_ q → ∃ v, h q = some v := fun q hq => by
  obtain ⟨s1, s2, s3, -⟩ := hg
  rcases hq with rfl | rfl | rfl | rfl | rfl
  · exact ⟨_, s1⟩
  · exact s2.som.1
  · exact s2.som.2
  · exact s3.som.1
  · exact s3.som.2
theorem IsText.som {h : GH} {t rc ac rs as_ n m c : Nat} {F Z : Nat → Int} (ht : IsText h t rc ac rs as_ n F m Z c) : ∀ q, tP t rc ac rs as_ q → ∃ v, h q = some v := fun q hq => by
  obtain ⟨s1, s2, s3, -⟩ := ht
  rcases hq with rfl | rfl | rfl | rfl | rfl
  · exact ⟨_, s1⟩
  · exact s2.som.1
  · exact s2.som.2
  · exact s3.som.1
  · exact s3.som.2
section
variable {h : GH}
theorem tr_init1 (D : DD) {h : GH} {t : Nat} {x y z : GV} (ht : h t = some (gObj 6 [x, y, z])) : GMet D yX6_init cX6_init 1 none [] 3 6 4000 [gR (some t)] h (pv (fun h1 => ∃ (τ : Nat → Nat) (P1 C1 E1 : Nat → Int), IsTree h1 τ t 1 P1 C1 E1 ∧ P1 0 = -1 ∧ C1 0 = 0 ∧ E1 0 = 0 ∧ keeps h h1 (fun q => q = t) ∧ ∀ q, τ q ≠ 0 → h q = none ∨ q = t)) := by
  refine GMet.intro RX6 rfl (by decide) (gcats rfl) (Nat.le_of_ble_eq_true rfl) fun K KX S => ?_
  show K 0 [some _] [] _ 0 0
  refine k_aload_n S dX6_init_0 rfl ?_
  refine k_objInit S dX6_init_1 ml_X6_3 mo_inst mo_code (by decide) ?_ (Nat.le_of_ble_eq_true rfl)
  refine k_aload_n S dX6_init_4 rfl ?_
  refine k_new S dX6_init_5 n_X6_9 (by omega) (by omega) (fun q5 n5 l5 => ?_)
  refine k_dup S dX6_init_8 ?_
  refine k_bipush S dX6_init_9 ?_
  refine k_callI_v S dX6_init_11 i_X6_11 (row_init D (hput_s _ _ _) (k := 49) (by omega)) (fun h11 hp11 => ?_) rfl rfl (by decide) (by omega) (by omega) (Nat.le_of_ble_eq_true rfl)
  obtain ⟨a1, na1, ea1, ra1, ka1⟩ := fresh_row n5 hp11
  have t11 := ka1 _ _ ht id
  refine k_putF S rfl dX6_init_14 ff_X6_14 (by assumption) (gfit_ref _ _) (Nat.le_of_ble_eq_true rfl) ?_
  refine k_aload_n S dX6_init_17 rfl ?_
  refine k_new S dX6_init_18 n_X6_9 (by omega) (by omega) (fun q18 n18 l18 => ?_)
  refine k_dup S dX6_init_21 ?_
  refine k_bipush S dX6_init_22 ?_
  refine k_callI_v S dX6_init_24 i_X6_11 (row_init D (hput_s _ _ _) (k := 49) (by omega)) (fun h24 hp24 => ?_) rfl rfl (by decide) (by omega) (by omega) (Nat.le_of_ble_eq_true rfl)
  obtain ⟨a2, na2, ea2, ra2, ka2⟩ := fresh_row n18 hp24
  have t24 := ka2 _ _ (hput_s _ _ _) id
  refine k_putF S rfl dX6_init_27 ff_X6_20 (by assumption) (gfit_ref _ _) (Nat.le_of_ble_eq_true rfl) ?_
  refine k_aload_n S dX6_init_30 rfl ?_
  refine k_new S dX6_init_31 n_X6_9 (by omega) (by omega) (fun q31 n31 l31 => ?_)
  refine k_dup S dX6_init_34 ?_
  refine k_bipush S dX6_init_35 ?_
  refine k_callI_v S dX6_init_37 i_X6_11 (row_init D (hput_s _ _ _) (k := 49) (by omega)) (fun h37 hp37 => ?_) rfl rfl (by decide) (by omega) (by omega) (Nat.le_of_ble_eq_true rfl)
  obtain ⟨a3, na3, ea3, ra3, ka3⟩ := fresh_row n31 hp37
  have t37 := ka3 _ _ (hput_s _ _ _) id
  have kk : ∀ (hx hy : GH) (g : gE), hy = hput hx t g → keeps hx hy (fun q => q = t) := fun hx hy g e => by subst e; exact keeps.put (Or.inl rfl)
  obtain ⟨⟨_, s1⟩, ⟨_, s2⟩⟩ := ra1.som
  have m1 : q5 ≠ t := (ne_fr ht n5).symm
  have m2 : a1 ≠ t := (ne_fr ht na1).symm
  obtain ⟨u1, u2⟩ := hput_no n18
  obtain ⟨u3, u4⟩ := hput_no na2
  have r1 := (ra1.kp (kk _ _ _ rfl) m1 m2).kp ka2 id id
  have m3 := ne_fr s1 u1
  have m4 := ne_fr s2 u3
  have m5 := ne_fr s1 u3
  have m6 := ne_fr s2 u1
  obtain ⟨⟨_, v1⟩, ⟨_, v2⟩⟩ := r1.som
  obtain ⟨⟨_, v3⟩, ⟨_, v4⟩⟩ := ra2.som
  obtain ⟨y1, y2⟩ := hput_no n31
  obtain ⟨y3, y4⟩ := hput_no na3
  have r1 := (r1.kp (kk _ _ _ rfl) m1 m2).kp ka3 id id
  have r2 := (ra2.kp (kk _ _ _ rfl) u2 u4).kp ka3 id id
  have l1 := ne_fr v1 y1
  have l2 := ne_fr v1 y3
  have l3 := ne_fr v2 y1
  have l4 := ne_fr v2 y3
  have l5 := ne_fr v3 y1
  have l6 := ne_fr v3 y3
  have l7 := ne_fr v4 y1
  have l8 := ne_fr v4 y3
  refine k_putF S rfl dX6_init_40 ff_X6_23 (by assumption) (gfit_ref _ _) (Nat.le_of_ble_eq_true rfl) ?_
  refine k_aload_n S dX6_init_43 rfl ?_
  refine k_iconst S dX6_init_44 ?_
  refine k_iconst S dX6_init_45 ?_
  have hT : IsTree (hput h37 t (gObj 6 [gR (some q5), gR (some q18), gR (some q31)])) (tg4 t q5 a1 q18 a2 q31 a3) t 0 (fun _ => 0) (fun _ => 0) (fun _ => 0) := ⟨q5, a1, q18, a2, q31, a3, hput_s _ _ _, r1.kp (kk _ _ _ rfl) m1 m2, r2.kp (kk _ _ _ rfl) u2 u4, ra3.kp (kk _ _ _ rfl) y2 y4, by unfold tg4; exact if_pos rfl, ⟨by unfold tg4; rw [if_neg m1, if_pos (Or.inl rfl)], by unfold tg4; rw [if_neg m2, if_pos (Or.inr rfl)]⟩, ⟨by unfold tg4; rw [if_neg u2, if_neg (by omega), if_pos (Or.inl rfl)], by unfold tg4; rw [if_neg u4, if_neg (by omega), if_pos (Or.inr rfl)]⟩, ⟨by unfold tg4; rw [if_neg y2, if_neg (by omega), if_neg (by omega), if_pos (Or.inl rfl)], by unfold tg4; rw [if_neg y4, if_neg (by omega), if_neg (by omega), if_pos (Or.inr rfl)]⟩⟩
  refine k_callV_r S dX6_init_46 v_X6_26 (tr_addNode D hT (by omega)) (hput_s _ _ _) (fun h46 hp46 => ?_) rfl rfl (by decide) (by omega) (by omega) (Nat.le_of_ble_eq_true rfl)
  refine k_pop S dX6_init_49 ?_
  refine k_return S dX6_init_50 ?_ (by omega) (by omega)
  have k0 : keeps h h37 (fun q => q = t) := keeps.tr (keeps.tr (keeps.tr (keeps.tr (ka1.mono fun _ z => z.elim) (kk _ _ _ rfl)) (ka2.mono fun _ z => z.elim)) (kk _ _ _ rfl)) (ka3.mono fun _ z => z.elim)
  have z3 : h q18 = none := ka1.no u1 id
  have z4 : h a2 = none := ka1.no u3 id
  have z5 : h q31 = none := ka1.no (hput_no (ka2.no y1 id)).1 id
  have z6 : h a3 = none := ka1.no (hput_no (ka2.no y3 id)).1 id
  have hs : ∀ q, (tg4 t q5 a1 q18 a2 q31 a3) q ≠ 0 → h q = none ∨ q = t := fun q hq => by
    unfold tg4 at hq
    by_cases e0 : q = t
    · exact Or.inr e0
    rw [if_neg e0] at hq
    refine Or.inl ?_
    by_cases e1 : q = q5 ∨ q = a1
    · rcases e1 with e | e <;> subst e <;> assumption
    rw [if_neg e1] at hq
    by_cases e2 : q = q18 ∨ q = a2
    · rcases e2 with e | e <;> subst e <;> assumption
    rw [if_neg e2] at hq
    by_cases e3 : q = q31 ∨ q = a3
    · rcases e3 with e | e <;> subst e <;> assumption
    rw [if_neg e3] at hq
    exact absurd rfl hq
  refine ⟨rfl, _, _, _, _, hp46.1, gupd_s _ _ _, gupd_s _ _ _, gupd_s _ _ _, fun q u hq hn => ?_, hs⟩
  refine hp46.2 q u ((kk h37 _ _ rfl) q u (k0 q u hq hn) hn) fun hT9 => ?_
  rcases hs q (by unfold kT at hT9; omega) with e | e
  · rw [hq] at e; cases e
  · exact hn e
/-- ShorthandRules() -/
theorem c_init (D : DD) {q0 : Nat} (hq : h q0 = some (gObj 7 [gR none, gR none, gR none, gR none, gR none, gI 0, gI 0, gI 0, gL 0, gI 0, gI 0])) : GMet D yX7_init cX7_init 1 none [] 4 30 20000 [gR (some q0)] h (pv (fun h1 => ∃ τ A : Nat → Nat, A 0 = q0 ∧ XTop h1 τ A 99 0 0 0 0 0 ∧ XS D h1 τ A 0 (fun _ => 0) (fun _ => 0) (fun _ => 0) (fun _ => 0) (fun _ => 0) (fun _ => 0) (fun _ => 0) (fun _ => 0) (fun _ => 0) ∧ XTre h1 τ (A 2) 0 (fun _ => 0) (fun _ => 0) ∧ (∃ cl sl : List Int, XGft h1 τ (A 3) cl sl) ∧ XTxt h1 τ (A 4) 5 0 (fun _ => 0) 0 (fun _ => 0) 0 ∧ XTxt h1 τ (A 5) 6 0 (fun _ => 0) 0 (fun _ => 0) 0 ∧ keeps h h1 (fun q => q = q0) ∧ ∀ q, τ q ≠ 0 → h q = none ∨ q = q0)) := by
  refine GMet.intro RX7 rfl (by decide) (gcats rfl) (Nat.le_of_ble_eq_true rfl) fun K KX S => ?_
  show K 0 [some _] [] _ 0 0
  refine k_aload_n S dX7_init_0 rfl ?_
  refine k_objInit S dX7_init_1 ml_X7_3 mo_inst mo_code (by decide) ?_ (Nat.le_of_ble_eq_true rfl)
  refine k_aload_n S dX7_init_4 rfl ?_
  refine k_new S dX7_init_5 n_X7_9 (by omega) (by omega) (fun q5 n5 l5 => ?_)
  refine k_dup S dX7_init_8 ?_
  refine k_callI_v S dX7_init_9 i_X7_11 (li_init D (hput_s _ _ _)) (fun h9 hp9 => ?_) rfl rfl (by decide) (by omega) (by omega) (Nat.le_of_ble_eq_true rfl)
  have y9 : h9 q5 = some (gObj 9 [gI 0, gR (some (cad D 4)), gI 0]) := by rw [hp9]; exact hput_s _ _ _
  have k9 : keeps h h9 (fun _ => False) := keeps.fr n5 (by rw [hp9]; exact keeps.pp (keeps.pp keeps.rf rfl) rfl)
  have z9 : h9 q0 = _ := k9 _ _ hq id
  refine k_putF S rfl dX7_init_12 ff_X7_12 z9 (gfit_ref _ _) (Nat.le_of_ble_eq_true rfl) ?_
  simp only [List.set_cons_succ, List.set_cons_zero]
  generalize e12 : hput h9 _ _ = h12
  have z12 : h12 q0 = some (gObj 7 [gR (some q5), gR none, gR none, gR none, gR none, gI 0, gI 0, gI 0, gL 0, gI 0, gI 0]) := by rw [← e12]; exact hput_s _ _ _
  have s12 : keeps h9 h12 (fun q => q = q0) := by rw [← e12]; exact keeps.put (Or.inl rfl)

  have k12 : keeps h h12 (fun q => q = q0) := (k9.mono fun _ z => z.elim).tr s12
  have ne5 : q5 ≠ q0 := fun e => by rw [e] at n5; rw [n5] at hq; cases hq
  have y12 := s12 _ _ y9 ne5
  refine k_aload_n S dX7_init_15 rfl ?_
  refine k_new S dX7_init_16 n_X7_16 (by omega) (by omega) (fun q16 n16 l16 => ?_)
  refine k_dup S dX7_init_19 ?_
  refine k_callI_v S dX7_init_20 i_X7_18 (tr_init1 D (hput_s _ _ _)) (fun h20 hp20 => ?_) rfl rfl (by decide) (by omega) (by omega) (Nat.le_of_ble_eq_true rfl)
  obtain ⟨τt, P1, C1, E1, it, i1, i2, i3, ik, iz⟩ := hp20
  have k20 : keeps h12 h20 (fun _ => False) := keeps.fr n16 ik
  have z20 : h20 q0 = _ := k20 _ _ z12 id
  refine k_putF S rfl dX7_init_23 ff_X7_19 z20 (gfit_ref _ _) (Nat.le_of_ble_eq_true rfl) ?_
  simp only [List.set_cons_succ, List.set_cons_zero]
  generalize e23 : hput h20 _ _ = h23
  have z23 : h23 q0 = some (gObj 7 [gR (some q5), gR (some q16), gR none, gR none, gR none, gI 0, gI 0, gI 0, gL 0, gI 0, gI 0]) := by rw [← e23]; exact hput_s _ _ _
  have s23 : keeps h20 h23 (fun q => q = q0) := by rw [← e23]; exact keeps.put (Or.inl rfl)

  have ne16 : q16 ≠ q0 := fun e => by rw [e] at n16; rw [n16] at z12; cases z12
  have nt : ∀ z, τt z ≠ 0 → h12 z = none := fun z hz => by
    rcases iz z hz with w | rfl
    · exact (hput_no w).1
    · exact n16
  have y23 := s23 _ _ (k20 _ _ y12 id) ne5
  have it23 : IsTree h23 τt q16 1 P1 C1 E1 := it.kp s23 (fun q e1 e2 e3 => by subst e3; have := nt q (by omega); rw [this] at z12; cases z12)
  have k23 : keeps h12 h23 (fun q => q = q0) := (k20.mono fun _ z => z.elim).tr s23
  refine k_aload_n S dX7_init_26 rfl ?_
  refine k_new S dX7_init_27 n_X7_23 (by omega) (by omega) (fun q27 n27 l27 => ?_)
  refine k_dup S dX7_init_30 ?_
  refine k_callIN_v S dX7_init_31 in_X7_25 (gf_init D (hput_s _ _ _)) (fun h31 hp31 => ?_) rfl rfl (by decide) (by omega) (by omega) (Nat.le_of_ble_eq_true rfl)
  obtain ⟨ga, gb, gc, gd, na, nb, nc, nd, gg, gk⟩ := hp31
  have k31 : keeps h23 h31 (fun _ => False) := keeps.fr n27 gk
  have z31 : h31 q0 = _ := k31 _ _ z23 id
  have ng : ∀ z, tP q27 ga gb gc gd z → h23 z = none := fun z hz => by
    rcases hz with rfl | rfl | rfl | rfl | rfl
    · exact n27
    · exact (hput_no na).1
    · exact (hput_no nb).1
    · exact (hput_no nc).1
    · exact (hput_no nd).1
  refine k_putF S rfl dX7_init_34 ff_X7_26 z31 (gfit_ref _ _) (Nat.le_of_ble_eq_true rfl) ?_
  simp only [List.set_cons_succ, List.set_cons_zero]
  generalize e34 : hput h31 _ _ = h34
  have z34 : h34 q0 = some (gObj 7 [gR (some q5), gR (some q16), gR (some q27), gR none, gR none, gI 0, gI 0, gI 0, gL 0, gI 0, gI 0]) := by rw [← e34]; exact hput_s _ _ _
  have s34 : keeps h31 h34 (fun q => q = q0) := by rw [← e34]; exact keeps.put (Or.inl rfl)

  have k34 : keeps h23 h34 (fun q => q = q0) := (k31.mono fun _ z => z.elim).tr s34
  refine k_aload_n S dX7_init_37 rfl ?_
  refine k_new S dX7_init_38 n_X7_30 (by omega) (by omega) (fun q38 n38 l38 => ?_)
  refine k_dup S dX7_init_41 ?_
  refine k_callIN_v S dX7_init_42 in_X7_32 (tx_init D (hput_s _ _ _)) (fun h42 hp42 => ?_) rfl rfl (by decide) (by omega) (by omega) (Nat.le_of_ble_eq_true rfl)
  obtain ⟨au, bu, cu, du, nau, nbu, ncu, ndu, ggu, gku⟩ := hp42
  have k42 : keeps h34 h42 (fun _ => False) := keeps.fr n38 gku
  have z42 : h42 q0 = _ := k42 _ _ z34 id
  have ngu : ∀ z, tP q38 au bu cu du z → h34 z = none := fun z hz => by
    rcases hz with rfl | rfl | rfl | rfl | rfl
    · exact n38
    · exact (hput_no nau).1
    · exact (hput_no nbu).1
    · exact (hput_no ncu).1
    · exact (hput_no ndu).1
  refine k_putF S rfl dX7_init_45 ff_X7_33 z42 (gfit_ref _ _) (Nat.le_of_ble_eq_true rfl) ?_
  simp only [List.set_cons_succ, List.set_cons_zero]
  generalize e45 : hput h42 _ _ = h45
  have z45 : h45 q0 = some (gObj 7 [gR (some q5), gR (some q16), gR (some q27), gR (some q38), gR none, gI 0, gI 0, gI 0, gL 0, gI 0, gI 0]) := by rw [← e45]; exact hput_s _ _ _
  have s45 : keeps h42 h45 (fun q => q = q0) := by rw [← e45]; exact keeps.put (Or.inl rfl)

  have k45 : keeps h34 h45 (fun q => q = q0) := (k42.mono fun _ z => z.elim).tr s45
  refine k_aload_n S dX7_init_48 rfl ?_
  refine k_new S dX7_init_49 n_X7_30 (by omega) (by omega) (fun q49 n49 l49 => ?_)
  refine k_dup S dX7_init_52 ?_
  refine k_callIN_v S dX7_init_53 in_X7_32 (tx_init D (hput_s _ _ _)) (fun h53 hp53 => ?_) rfl rfl (by decide) (by omega) (by omega) (Nat.le_of_ble_eq_true rfl)
  obtain ⟨av, bv, cv, dv, nav, nbv, ncv, ndv, ggv, gkv⟩ := hp53
  have k53 : keeps h45 h53 (fun _ => False) := keeps.fr n49 gkv
  have z53 : h53 q0 = _ := k53 _ _ z45 id
  have ngv : ∀ z, tP q49 av bv cv dv z → h45 z = none := fun z hz => by
    rcases hz with rfl | rfl | rfl | rfl | rfl
    · exact n49
    · exact (hput_no nav).1
    · exact (hput_no nbv).1
    · exact (hput_no ncv).1
    · exact (hput_no ndv).1
  refine k_putF S rfl dX7_init_56 ff_X7_37 z53 (gfit_ref _ _) (Nat.le_of_ble_eq_true rfl) ?_
  simp only [List.set_cons_succ, List.set_cons_zero]
  generalize e56 : hput h53 _ _ = h56
  have z56 : h56 q0 = some (gObj 7 [gR (some q5), gR (some q16), gR (some q27), gR (some q38), gR (some q49), gI 0, gI 0, gI 0, gL 0, gI 0, gI 0]) := by rw [← e56]; exact hput_s _ _ _
  have s56 : keeps h53 h56 (fun q => q = q0) := by rw [← e56]; exact keeps.put (Or.inl rfl)

  have k56 : keeps h45 h56 (fun q => q = q0) := (k53.mono fun _ z => z.elim).tr s56
  refine k_aload_n S dX7_init_59 rfl ?_
  refine k_bipush S dX7_init_60 ?_
  refine k_putf S dX7_init_62 f_X7_40 z56 (gfit_int _) (Nat.le_of_ble_eq_true rfl) ?_
  simp only [List.set_cons_succ, List.set_cons_zero]
  generalize e62 : hput h56 _ _ = h62
  have z62 : h62 q0 = some (gObj 7 [gR (some q5), gR (some q16), gR (some q27), gR (some q38), gR (some q49), gI 99, gI 0, gI 0, gL 0, gI 0, gI 0]) := by rw [← e62]; exact hput_s _ _ _
  have s62 : keeps h56 h62 (fun q => q = q0) := by rw [← e62]; exact keeps.put (Or.inl rfl)
  refine k_aload_n S dX7_init_65 rfl ?_
  refine k_iconst S dX7_init_66 ?_
  refine k_putf S dX7_init_67 f_X7_44 z62 (gfit_bool (by omega)) (Nat.le_of_ble_eq_true rfl) ?_
  simp only [List.set_cons_succ, List.set_cons_zero]
  generalize e67 : hput h62 _ _ = h67
  have z67 : h67 q0 = some (gObj 7 [gR (some q5), gR (some q16), gR (some q27), gR (some q38), gR (some q49), gI 99, gI 0, gI 0, gL 0, gI 0, gI 0]) := by rw [← e67]; exact hput_s _ _ _
  have s67 : keeps h62 h67 (fun q => q = q0) := by rw [← e67]; exact keeps.put (Or.inl rfl)
  refine k_aload_n S dX7_init_70 rfl ?_
  refine k_iconst S dX7_init_71 ?_
  refine k_putf S dX7_init_72 f_X7_48 z67 (gfit_int _) (Nat.le_of_ble_eq_true rfl) ?_
  simp only [List.set_cons_succ, List.set_cons_zero]
  generalize e72 : hput h67 _ _ = h72
  have z72 : h72 q0 = some (gObj 7 [gR (some q5), gR (some q16), gR (some q27), gR (some q38), gR (some q49), gI 99, gI 0, gI 0, gL 0, gI 0, gI 0]) := by rw [← e72]; exact hput_s _ _ _
  have s72 : keeps h67 h72 (fun q => q = q0) := by rw [← e72]; exact keeps.put (Or.inl rfl)
  refine k_aload_n S dX7_init_75 rfl ?_
  refine k_lconst S (v := 0) rfl dX7_init_76 ?_
  refine k_putf S dX7_init_77 f_X7_51 z72 (gfit_long _) (Nat.le_of_ble_eq_true rfl) ?_
  simp only [List.set_cons_succ, List.set_cons_zero]
  generalize e77 : hput h72 _ _ = h77
  have z77 : h77 q0 = some (gObj 7 [gR (some q5), gR (some q16), gR (some q27), gR (some q38), gR (some q49), gI 99, gI 0, gI 0, gL 0, gI 0, gI 0]) := by rw [← e77]; exact hput_s _ _ _
  have s77 : keeps h72 h77 (fun q => q = q0) := by rw [← e77]; exact keeps.put (Or.inl rfl)
  refine k_aload_n S dX7_init_80 rfl ?_
  refine k_iconst S dX7_init_81 ?_
  refine k_putf S dX7_init_82 f_X7_55 z77 (gfit_int _) (Nat.le_of_ble_eq_true rfl) ?_
  simp only [List.set_cons_succ, List.set_cons_zero]
  generalize e82 : hput h77 _ _ = h82
  have z82 : h82 q0 = some (gObj 7 [gR (some q5), gR (some q16), gR (some q27), gR (some q38), gR (some q49), gI 99, gI 0, gI 0, gL 0, gI 0, gI 0]) := by rw [← e82]; exact hput_s _ _ _
  have s82 : keeps h77 h82 (fun q => q = q0) := by rw [← e82]; exact keeps.put (Or.inl rfl)
  refine k_aload_n S dX7_init_85 rfl ?_
  refine k_iconst S dX7_init_86 ?_
  refine k_putf S dX7_init_87 f_X7_58 z82 (gfit_int _) (Nat.le_of_ble_eq_true rfl) ?_
  simp only [List.set_cons_succ, List.set_cons_zero]
  generalize e87 : hput h82 _ _ = h87
  have z87 : h87 q0 = some (gObj 7 [gR (some q5), gR (some q16), gR (some q27), gR (some q38), gR (some q49), gI 99, gI 0, gI 0, gL 0, gI 0, gI 0]) := by rw [← e87]; exact hput_s _ _ _
  have s87 : keeps h82 h87 (fun q => q = q0) := by rw [← e87]; exact keeps.put (Or.inl rfl)
  have s56l : keeps h56 h87 (fun q => q = q0) := ((((s62.tr s67).tr s72).tr s77).tr s82).tr s87
  have k2 : keeps h23 h87 (fun q => q = q0) := ((k34.tr k45).tr k56).tr s56l
  have k3 : keeps h34 h87 (fun q => q = q0) := (k45.tr k56).tr s56l
  have k4 : keeps h45 h87 (fun q => q = q0) := k56.tr s56l
  have kA : keeps h h87 (fun q => q = q0) := (k12.tr k23).tr k2
  -- what is there at a stage is none of the later cells
  have f45 : ∀ z g, h45 z = some g → ¬ tP q49 av bv cv dv z := fun z g hz w => by rw [ngv z w] at hz; cases hz
  have no5 : ∀ z, z = q0 ∨ (∃ g, h45 z = some g) → ¬ tP q49 av bv cv dv z := fun z hz w => by
    rcases hz with rfl | ⟨g, hz⟩
    · rw [ngv _ w] at z45; cases z45
    · exact f45 z g hz w
  have no4 : ∀ z, z = q0 ∨ (∃ g, h34 z = some g) → ¬ tP q38 au bu cu du z ∧ ¬ tP q49 av bv cv dv z := fun z hz => by
    refine ⟨fun w => ?_, no5 z ?_⟩
    · rcases hz with rfl | ⟨g, hz⟩
      · rw [ngu _ w] at z34; cases z34
      · rw [ngu z w] at hz; cases hz
    · rcases hz with rfl | ⟨g, hz⟩
      · exact Or.inl rfl
      · by_cases e : z = q0
        · exact Or.inl e
        · exact Or.inr ⟨g, k45 _ _ hz e⟩
  have no3 : ∀ z, z = q0 ∨ (∃ g, h23 z = some g) → ¬ tP q27 ga gb gc gd z ∧ ¬ tP q38 au bu cu du z ∧ ¬ tP q49 av bv cv dv z := fun z hz => by
    refine ⟨fun w => ?_, no4 z ?_⟩
    · rcases hz with rfl | ⟨g, hz⟩
      · rw [ng _ w] at z23; cases z23
      · rw [ng z w] at hz; cases hz
    · rcases hz with rfl | ⟨g, hz⟩
      · exact Or.inl rfl
      · by_cases e : z = q0
        · exact Or.inl e
        · exact Or.inr ⟨g, k34 _ _ hz e⟩
  have no2 : ∀ z, z = q0 ∨ (∃ g, h12 z = some g) → τt z = 0 ∧ ¬ tP q27 ga gb gc gd z ∧ ¬ tP q38 au bu cu du z ∧ ¬ tP q49 av bv cv dv z := fun z hz => by
    refine ⟨Classical.byContradiction fun w => ?_, no3 z ?_⟩
    · rcases hz with rfl | ⟨g, hz⟩
      · rw [nt _ w] at z12; cases z12
      · rw [nt z w] at hz; cases hz
    · rcases hz with rfl | ⟨g, hz⟩
      · exact Or.inl rfl
      · by_cases e : z = q0
        · exact Or.inl e
        · exact Or.inr ⟨g, k23 _ _ hz e⟩
  obtain ⟨τ, i6, i5, i4, i30, i20, i10, i0⟩ : ∃ τ : Nat → Nat, (∀ z, tP q49 av bv cv dv z → τ z = 6) ∧ (∀ z, ¬ tP q49 av bv cv dv z → tP q38 au bu cu du z → τ z = 5) ∧ (∀ z, ¬ tP q49 av bv cv dv z → ¬ tP q38 au bu cu du z → tP q27 ga gb gc gd z → τ z = 4) ∧ (∀ z, ¬ tP q49 av bv cv dv z → ¬ tP q38 au bu cu du z → ¬ tP q27 ga gb gc gd z → τt z ≠ 0 → τ z = τt z) ∧ (∀ z, ¬ tP q49 av bv cv dv z → ¬ tP q38 au bu cu du z → ¬ tP q27 ga gb gc gd z → ¬ τt z ≠ 0 → z = q5 → τ z = 2) ∧ (∀ z, ¬ tP q49 av bv cv dv z → ¬ tP q38 au bu cu du z → ¬ tP q27 ga gb gc gd z → ¬ τt z ≠ 0 → ¬ z = q5 → z = q0 → τ z = 1) ∧ (∀ z, τ z ≠ 0 → tP q49 av bv cv dv z ∨ tP q38 au bu cu du z ∨ tP q27 ga gb gc gd z ∨ τt z ≠ 0 ∨ z = q5 ∨ z = q0) := by
    classical
    refine ⟨fun z => if tP q49 av bv cv dv z then 6 else if tP q38 au bu cu du z then 5 else if tP q27 ga gb gc gd z then 4 else if τt z ≠ 0 then τt z else if z = q5 then 2 else if z = q0 then 1 else 0, fun z a => if_pos a, fun z a b => (if_neg a).trans (if_pos b), fun z a b c => (if_neg a).trans ((if_neg b).trans (if_pos c)), fun z a b c d => (if_neg a).trans ((if_neg b).trans ((if_neg c).trans (if_pos d))), fun z a b c d e => (if_neg a).trans ((if_neg b).trans ((if_neg c).trans ((if_neg d).trans (if_pos e)))), fun z a b c d e f => (if_neg a).trans ((if_neg b).trans ((if_neg c).trans ((if_neg d).trans ((if_neg e).trans (if_pos f))))), fun z hz => Classical.byContradiction fun w => hz ?_⟩
    exact (if_neg (fun a => w (Or.inl a))).trans ((if_neg (fun a => w (Or.inr (Or.inl a)))).trans ((if_neg (fun a => w (Or.inr (Or.inr (Or.inl a))))).trans ((if_neg (fun a => w (Or.inr (Or.inr (Or.inr (Or.inl a)))))).trans ((if_neg (fun a => w (Or.inr (Or.inr (Or.inr (Or.inr (Or.inl a))))))).trans (if_neg (fun a => w (Or.inr (Or.inr (Or.inr (Or.inr (Or.inr a)))))))))))
  have τ0 : τ q0 = 1 := by
    obtain ⟨w1, w2, w3, w4⟩ := no2 q0 (Or.inl rfl)
    exact i10 q0 w4 w3 w2 (fun z => z w1) (Ne.symm ne5) rfl
  have τ5 : τ q5 = 2 := by
    obtain ⟨w1, w2, w3, w4⟩ := no2 q5 (Or.inr ⟨_, y12⟩)
    exact i20 q5 w4 w3 w2 (fun z => z w1) rfl
  have y87 := k2 _ _ (k23 _ _ y12 ne5) ne5
  have tre : IsTree h87 τ q16 1 P1 C1 E1 := (it23.re (fun q g hq a b => by
    obtain ⟨w2, w3, w4⟩ := no3 q (Or.inr ⟨g, hq⟩)
    exact i30 q w4 w3 w2 (by omega))).kp k2 (fun q a b e => by rw [e, τ0] at a; omega)
  have gft : XGft h87 τ q27 [] [] := XGft.mv (P := fun q => q = q0) ⟨ga, gb, gc, gd, gg, fun q hq => by
    obtain ⟨v, hv⟩ := gg.som q hq
    have hne : q ≠ q0 := fun e => by rw [e] at hq; rw [ng _ hq] at z23; cases z23
    obtain ⟨w3, w4⟩ := no4 q (Or.inr ⟨v, s34 _ _ hv hne⟩)
    exact i4 q w4 w3 hq⟩ (s34.tr k3) (fun q e1 e2 => by rw [e2, τ0] at e1; omega) rtg.rf
  have txu : XTxt h87 τ q38 5 0 (fun _ => 0) 0 (fun _ => 0) 0 := XTxt.mv (P := fun q => q = q0) ⟨au, bu, cu, du, ggu, fun q hq => by
    obtain ⟨v, hv⟩ := ggu.som q hq
    have hne : q ≠ q0 := fun e => by rw [e] at hq; rw [ngu _ hq] at z34; cases z34
    exact i5 q (no5 q (Or.inr ⟨v, s45 _ _ hv hne⟩)) hq⟩ (s45.tr k4) (fun q e1 e2 => by rw [e2, τ0] at e1; omega) rtg.rf
  have txv : XTxt h87 τ q49 6 0 (fun _ => 0) 0 (fun _ => 0) 0 := XTxt.mv (P := fun q => q = q0) ⟨av, bv, cv, dv, ggv, fun q hq => i6 q hq⟩ (s56.tr s56l) (fun q e1 e2 => by rw [e2, τ0] at e1; omega) rtg.rf
  have non : ∀ q, τ q ≠ 0 → h q = none ∨ q = q0 := fun q hz => by
    by_cases e : q = q0
    · exact Or.inr e
    · refine Or.inl ?_
      rcases i0 q hz with w | w | w | w | w | w
      · exact keeps.no (((k12.tr k23).tr k34).tr k45) (ngv q w) e
      · exact keeps.no ((k12.tr k23).tr k34) (ngu q w) e
      · exact keeps.no (k12.tr k23) (ng q w) e
      · exact keeps.no k12 (nt q w) e
      · rw [w]; exact n5
      · exact absurd w e
  refine k_return S dX7_init_90 ⟨rfl, τ, fun i => if i = 0 then q0 else if i = 1 then q5 else if i = 2 then q16 else if i = 3 then q27 else if i = 4 then q38 else q49, rfl, ⟨z87, τ0⟩, ⟨fun _ => 0, fun _ => 0, fun _ => 0, ⟨⟨cad D 4, 0, fun _ => none, ⟨⟨0, y87⟩, Or.inl ⟨rfl, rfl, rfl⟩, by omega⟩, fun i hi => absurd hi (by omega), τ5, fun z => absurd rfl z⟩, fun k hk => absurd hk (by omega), fun k hk => absurd hk (by omega), fun k hk => absurd hk (by omega)⟩, fun k hk => absurd hk (by omega)⟩, ⟨1, P1, C1, E1, tre, ⟨⟨by omega, i1⟩, fun j a b => by omega, fun i j a b c d => by omega, fun j hj => by rw [show j = 0 by omega, i2]; omega⟩, by omega, fun k hk => absurd hk (by omega), fun j hj => ⟨0, by rw [show j = 0 by omega, i3]; rfl, by omega, fun x hx => by rw [Nat.zero_testBit]; exact ⟨fun z => (by cases z), fun z => (by omega)⟩⟩⟩, ⟨[], [], gft⟩, txu, txv, kA, non⟩ (by omega) (by omega)

end
