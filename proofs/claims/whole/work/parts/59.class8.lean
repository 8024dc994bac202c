section
variable {h : GH} {τ A : Nat → Nat} {td cu lg sv ex un : Int} {n : Nat} {fw of sc sz he : Nat → Int} {re : Nat → Nat} {le tg pn kd on ot : Nat → Int} {rk : Nat → Nat}
theorem keeps.pp {h0 h : GH} {a : Nat} {g : gE} {P : Nat → Prop} (hk : keeps h0 h P) (ha : P a) : keeps h0 (hput h a g) P := hk.tr (keeps.put (P := P) (Or.inl ha))
theorem ad_ne {a x : Nat} (ha : τ (A (10 + a)) = 100 + a) (hx : τ (A (10 + x)) = 100 + x) (e : a ≠ x) : A (10 + a) ≠ A (10 + x) := fun z => by rw [z] at ha; omega
/-- measureInner(measured, first, second) -/
theorem c_mInner (D : DD) (hX : XTop h τ A td cu lg sv ex un) (hS : XSn D h τ A n fw of sc sz he re le tg pn kd on ot) (hn : n ≤ 8) (hz : ∀ k, k < n → (0 ≤ sz k ∧ sz k ≤ 201) ∧ (0 ≤ he k ∧ he k ≤ 200000) ∧ re k < 256) {x a b : Nat} (hx : x < n) (ha : a < n) (hb : b < n) (hax : a ≠ x) (hbx : b ≠ x) : GMet D yX7_measureInner cX7_measureInner 7 none [] 5 0 0 [gR (some (A 0)), gR (some (A (10 + x))), gI a, gI b] h (pv (fun h1 => XSn D h1 τ A n fw of sc (gupd sz x (min (sz x + (1 + max (sz a) (sz b))) 201)) (gupd he x (max (he x) (1 + max (he a) (he b)))) (gupd re x (re x ||| (((re a ||| re b) ||| 2 ^ a) ||| 2 ^ b))) le tg pn kd on ot ∧ keeps h h1 (fun q => τ q = 100 + x))) := by
  refine GMet.intro RX7 rfl (by decide) (gcats rfl) (Nat.le_of_ble_eq_true rfl) fun K KX S => ?_
  show K 0 [some _, some _, some _, some _, none, none, none] [] _ 0 0
  have g0 := hX.1
  obtain ⟨gx, tx9⟩ := hS.2.1 x hx
  obtain ⟨ga, ta⟩ := hS.2.1 a ha
  obtain ⟨gb, tb⟩ := hS.2.1 b hb
  obtain ⟨⟨x1, x2⟩, ⟨x3, x4⟩, x5⟩ := hz x hx
  obtain ⟨⟨a1, a2⟩, ⟨a3, a4⟩, a5⟩ := hz a ha
  obtain ⟨⟨b1, b2⟩, ⟨b3, b4⟩, b5⟩ := hz b hb
  have na := ad_ne ta tx9 hax
  have nb := ad_ne tb tx9 hbx
  refine k_aload_n S dX7_measureInner_0 rfl ?_
  refine k_iload_n S dX7_measureInner_1 rfl ?_
  refine k_callV_r S dX7_measureInner_2 v_X7_81 (c_snAt_g D hX hS.1 hn ha ga) (by assumption) (fun h2 hp2 => ?_) rfl rfl (by decide) (by omega) (by omega) (Nat.le_of_ble_eq_true rfl)
  rw [hp2]
  refine k_astore S dX7_measureInner_5 (by decide) ?_
  refine k_aload_n S dX7_measureInner_7 rfl ?_
  refine k_iload_n S dX7_measureInner_8 rfl ?_
  refine k_callV_r S dX7_measureInner_9 v_X7_81 (c_snAt_g D hX hS.1 hn hb gb) (by assumption) (fun h9 hp9 => ?_) rfl rfl (by decide) (by omega) (by omega) (Nat.le_of_ble_eq_true rfl)
  rw [hp9]
  refine k_astore S dX7_measureInner_12 (by decide) ?_
  refine k_aload_n S dX7_measureInner_14 rfl ?_
  refine k_iconst S dX7_measureInner_15 ?_
  refine k_aload S dX7_measureInner_16 rfl ?_
  refine k_getf S dX7_measureInner_18 f_X7_277 (by assumption) (by rfl) ?_
  refine k_aload S dX7_measureInner_21 rfl ?_
  refine k_getf S dX7_measureInner_23 f_X7_277 (by assumption) (by rfl) ?_
  refine k_max S dX7_measureInner_26 ml_X7_301 mm_max_static mm_init mm_max_code (by omega) (by omega) (by decide) (by omega) (by omega) ?_ (Nat.le_of_ble_eq_true rfl)
  refine k_iadd S dX7_measureInner_29 ?_
  refine k_callV_v S dX7_measureInner_30 v_X7_298 (sn_grow D gx (x := 1 + max (sz a) (sz b)) (by omega) (by omega)) (by assumption) (fun h30 hp30 => ?_) rfl rfl (by decide) (by omega) (by omega) (Nat.le_of_ble_eq_true rfl)
  have gx30 : h30 (A (10 + x)) = some (gObj 4 [gI (fw x), gR (some (A (30 + x))), gR (some (A (20 + x))), gI (1 - of x), gI (sc x), gI (min (sz x + (1 + max (sz a) (sz b))) 201), gI (he x), gI (((re x) : Nat) : Int)]) := by rw [hp30]; exact hput_s _ _ _
  have ga30 : h30 (A (10 + a)) = some (gObj 4 [gI (fw a), gR (some (A (30 + a))), gR (some (A (20 + a))), gI (1 - of a), gI (sc a), gI (sz a), gI (he a), gI (((re a) : Nat) : Int)]) := by rw [hp30, hput_n _ _ na]; exact ga
  have gb30 : h30 (A (10 + b)) = some (gObj 4 [gI (fw b), gR (some (A (30 + b))), gR (some (A (20 + b))), gI (1 - of b), gI (sc b), gI (sz b), gI (he b), gI (((re b) : Nat) : Int)]) := by rw [hp30, hput_n _ _ nb]; exact gb
  have k30 : keeps h h30 (fun q => τ q = 100 + x) := by rw [hp30]; exact keeps.put (Or.inl tx9)
  refine k_aload S dX7_measureInner_33 rfl ?_
  refine k_getf S dX7_measureInner_35 f_X7_193 (by assumption) (by rfl) ?_
  refine k_aload S dX7_measureInner_38 rfl ?_
  refine k_getf S dX7_measureInner_40 f_X7_193 (by assumption) (by rfl) ?_
  refine k_max S dX7_measureInner_43 ml_X7_301 mm_max_static mm_init mm_max_code (by omega) (by omega) (by decide) (by omega) (by omega) ?_ (Nat.le_of_ble_eq_true rfl)
  refine k_istore S dX7_measureInner_46 (by decide) ?_
  refine k_aload_n S dX7_measureInner_48 rfl ?_
  refine k_aload_n S dX7_measureInner_49 rfl ?_
  refine k_getf S dX7_measureInner_50 f_X7_193 (by assumption) (by rfl) ?_
  refine k_iconst S dX7_measureInner_53 ?_
  refine k_iload S dX7_measureInner_54 rfl ?_
  refine k_iadd S dX7_measureInner_56 ?_
  refine k_max S dX7_measureInner_57 ml_X7_301 mm_max_static mm_init mm_max_code (by omega) (by omega) (by decide) (by omega) (by omega) ?_ (Nat.le_of_ble_eq_true rfl)
  refine k_putf S dX7_measureInner_60 f_X7_193 gx30 (gfit_int _) (Nat.le_of_ble_eq_true rfl) ?_
  simp only [List.set_cons_succ, List.set_cons_zero]
  generalize e60 : hput h30 _ _ = h60
  have gx60 : h60 (A (10 + x)) = some (gObj 4 [gI (fw x), gR (some (A (30 + x))), gR (some (A (20 + x))), gI (1 - of x), gI (sc x), gI (min (sz x + (1 + max (sz a) (sz b))) 201), gI (max (he x) (1 + max (he a) (he b))), gI (((re x) : Nat) : Int)]) := by rw [← e60]; exact hput_s _ _ _
  have ga60 : h60 (A (10 + a)) = some (gObj 4 [gI (fw a), gR (some (A (30 + a))), gR (some (A (20 + a))), gI (1 - of a), gI (sc a), gI (sz a), gI (he a), gI (((re a) : Nat) : Int)]) := by rw [← e60, hput_n _ _ na]; exact ga30
  have gb60 : h60 (A (10 + b)) = some (gObj 4 [gI (fw b), gR (some (A (30 + b))), gR (some (A (20 + b))), gI (1 - of b), gI (sc b), gI (sz b), gI (he b), gI (((re b) : Nat) : Int)]) := by rw [← e60, hput_n _ _ nb]; exact gb30
  have k60 : keeps h h60 (fun q => τ q = 100 + x) := by rw [← e60]; exact k30.tr (keeps.put (Or.inl tx9))
  refine k_aload_n S dX7_measureInner_63 rfl ?_
  refine k_dup S dX7_measureInner_64 ?_
  refine k_getf S dX7_measureInner_65 f_X7_282 (by assumption) (by rfl) ?_
  refine k_aload S dX7_measureInner_68 rfl ?_
  refine k_getf S dX7_measureInner_70 f_X7_282 (by assumption) (by rfl) ?_
  refine k_aload S dX7_measureInner_73 rfl ?_
  refine k_getf S dX7_measureInner_75 f_X7_282 (by assumption) (by rfl) ?_
  refine k_ior S dX7_measureInner_78 ?_
  refine k_iconst S dX7_measureInner_79 ?_
  refine k_iload_n S dX7_measureInner_80 rfl ?_
  refine k_ishl S dX7_measureInner_81 ?_
  refine k_ior S dX7_measureInner_82 ?_
  refine k_iconst S dX7_measureInner_83 ?_
  refine k_iload_n S dX7_measureInner_84 rfl ?_
  refine k_ishl S dX7_measureInner_85 ?_
  refine k_ior S dX7_measureInner_86 ?_
  refine k_ior S dX7_measureInner_87 ?_
  have pa := pw8 a (by omega)
  have pb := pw8 b (by omega)
  have o1 : re a ||| re b < 256 := Nat.or_lt_two_pow (n := 8) a5 b5
  have o2 : (re a ||| re b) ||| 2 ^ a < 256 := Nat.or_lt_two_pow (n := 8) o1 pa
  have o3 : ((re a ||| re b) ||| 2 ^ a) ||| 2 ^ b < 256 := Nat.or_lt_two_pow (n := 8) o2 pb
  rw [bShl1 a (by omega), bShl1 b (by omega), bOr_nat (by omega) (by omega), bOr_nat (by omega) (by omega), bOr_nat (by omega) (by omega), bOr_nat (by omega) (by omega)]
  refine k_putf S dX7_measureInner_88 f_X7_282 gx60 (gfit_int _) (Nat.le_of_ble_eq_true rfl) ?_
  simp only [List.set_cons_succ, List.set_cons_zero]
  generalize e88 : hput h60 _ _ = h88
  have gx88 : h88 (A (10 + x)) = some (gObj 4 [gI (fw x), gR (some (A (30 + x))), gR (some (A (20 + x))), gI (1 - of x), gI (sc x), gI (min (sz x + (1 + max (sz a) (sz b))) 201), gI (max (he x) (1 + max (he a) (he b))), gI (((re x ||| (((re a ||| re b) ||| 2 ^ a) ||| 2 ^ b)) : Nat) : Int)]) := by rw [← e88]; exact hput_s _ _ _
  have k88 : keeps h h88 (fun q => τ q = 100 + x) := by rw [← e88]; exact k60.tr (keeps.put (Or.inl tx9))
  refine k_return S dX7_measureInner_91 ⟨rfl, hS.ob k88 ⟨by rw [gupd_s, gupd_s, gupd_s]; exact gx88, tx9⟩ (by omega) (fun k e => ⟨rfl, rfl, gupd_n _ _ e, gupd_n _ _ e, gupd_n _ _ e⟩), k88⟩ (by omega) (by omega)
/-- measure(measured) -/
theorem c_measure (D : DD) (hX : XTop h τ A td cu lg sv ex un) (hS : XSn D h τ A n fw of sc sz he re le tg pn kd on ot) (hn : n ≤ 8) (hz : ∀ k, k < n → (0 ≤ sz k ∧ sz k ≤ 201) ∧ (0 ≤ he k ∧ he k ≤ 100000) ∧ re k < 256) (hB : BOk (n : Nat) pn kd on ot rk) {x : Nat} (hx : x < n) : GMet D yX7_measure cX7_measure 4 none [] 6 0 0 [gR (some (A 0)), gR (some (A (10 + x)))] h (pv (fun h1 => XSn D h1 τ A n fw of sc (gupd sz x (min (sumR (szG kd on ot sz) (pn x).toNat (12 * x)) 201)) (gupd he x (maxR (dpG kd on ot he) (pn x).toNat (12 * x) + 1)) (gupd re x (orR (reG kd on ot re) (pn x).toNat (12 * x))) le tg pn kd on ot ∧ keeps h h1 (fun q => τ q = 100 + x))) := by
  refine GMet.intro RX7 rfl (by decide) (gcats rfl) (Nat.le_of_ble_eq_true rfl) fun K KX S => ?_
  show K 0 [some _, some _, none, none] [] _ 0 0
  refine k_cad S (fun n4 inj => ?_)
  have g0 := hX.1
  obtain ⟨gx, tx9⟩ := hS.2.1 x hx
  have hxi : (x : Int) < ((n : Nat) : Int) := by omega
  obtain ⟨⟨p0, p12⟩, hb⟩ := hB x hxi
  have szn : ∀ k, k < n → 0 ≤ sz k := fun k hk => (hz k hk).1.1
  have ed : ∀ p y : Nat, 12 * x ≤ p → (p : Int) < 12 * (x : Nat) + pn x → ((kd p = 115 ∨ kd p = 111) ∧ (on p).toNat = y) ∨ (kd p = 111 ∧ (ot p).toNat = y) → y < n ∧ y ≠ x := fun p y h1 h2 h3 => by
    obtain ⟨z1, z2⟩ := (hB.edg hxi h1 h2 h3).dn hB hxi
    exact ⟨by omega, fun e => by subst e; omega⟩
  have gb : ∀ p : Nat, 12 * x ≤ p → (p : Int) < 12 * (x : Nat) + pn x → 0 ≤ szG kd on ot sz p ∧ 0 ≤ dpG kd on ot he p ∧ dpG kd on ot he p ≤ 100000 ∧ reG kd on ot re p < 256 := fun p h1 h2 => by
    have w9 := gB hB (by omega) (M := 201) (B := 100000) (fun k hk => hz k (by omega)) hxi h1 h2
    exact ⟨w9.1, w9.2.1, by have := w9.2.2.1; omega, w9.2.2.2⟩
  have loop : ∀ (d j : Nat) (h5 : GH) (l3 : Option GV), j + d = (pn x).toNat → XSn D h5 τ A n fw of sc (gupd sz x (min (sumR (szG kd on ot sz) j (12 * x)) 201)) (gupd he x (maxR (dpG kd on ot he) j (12 * x) + 1)) (gupd re x (orR (reG kd on ot re) j (12 * x))) le tg pn kd on ot → keeps h h5 (fun q => τ q = 100 + x) → K 17 [some (gR (some (A 0))), some (gR (some (A (10 + x)))), some (gI j), l3] [] h5 0 0 := by
    intro d
    induction d with
    | zero =>
      intro j h5 l3 hj S5 k5
      obtain ⟨gx5, -⟩ := S5.2.1 x hx
      obtain ⟨F, ⟨e9, cap, f, hl, hf, -, -⟩, hF⟩ := S5.2.2.2 x hx
      obtain ⟨m9, gl⟩ := hl.1
      refine k_iload_n S dX7_measure_17 rfl ?_
      refine k_aload_n S dX7_measure_18 rfl ?_
      refine k_getf S dX7_measure_19 f_X7_148 (by assumption) (by rfl) ?_
      refine k_callV_r S dX7_measure_22 v_X7_61 (li_size D hl) (by assumption) (fun h22 hp22 => ?_) rfl rfl (by decide) (by omega) (by omega) (Nat.le_of_ble_eq_true rfl)
      rw [hp22]
      refine k_icmp_ge (tgt := 91) S dX7_measure_25 (by decide) (by omega) (by omega) (fun c25 => ?_) (fun c25 => ?_)
      · exact k_return S dX7_measure_91 ⟨rfl, by rw [show j = (pn x).toNat by omega] at S5; exact S5, k5⟩ (by omega) (by omega)
      · omega
    | succ d ih =>
      intro j h5 l3 hj S5 k5
      have X5 := hX.kp k5 (fun q e => by omega)
      obtain ⟨gx5, -⟩ := S5.2.1 x hx
      obtain ⟨F, ⟨e9, cap, f, hl, hf, -, -⟩, hF⟩ := S5.2.2.2 x hx
      obtain ⟨m9, gl⟩ := hl.1
      have hjn : j < (pn x).toNat := by omega
      obtain ⟨gp, tp, -⟩ := hF j hjn
      dsimp only at gp
      have g05 := X5.1
      obtain ⟨q1, q2, q3, q4⟩ := gb (12 * x + j) (by omega) (by omega)
      have sj := sumR_nn (g := szG kd on ot sz) j (12 * x) (fun q h1 h2 => (gb q h1 (by omega)).1)
      have mj := maxR_r (g := dpG kd on ot he) (B := 100000) (by omega) j (12 * x) (fun q h1 h2 => (gb q h1 (by omega)).2.2.1)
      have oj := orR_lt (g := reG kd on ot re) j (12 * x) (fun q h1 h2 => (gb q h1 (by omega)).2.2.2)
      rw [gupd_s, gupd_s, gupd_s] at gx5
      have next : ∀ (h6 : GH) (l6 : Option GV), XSn D h6 τ A n fw of sc (gupd sz x (min (sumR (szG kd on ot sz) (j + 1) (12 * x)) 201)) (gupd he x (maxR (dpG kd on ot he) (j + 1) (12 * x) + 1)) (gupd re x (orR (reG kd on ot re) (j + 1) (12 * x))) le tg pn kd on ot → keeps h5 h6 (fun q => τ q = 100 + x) → K 85 [some (gR (some (A 0))), some (gR (some (A (10 + x)))), some (gI j), l6] [] h6 0 0 := fun h6 l6 S6 k6 => by
        refine k_iinc S dX7_measure_85 rfl (by decide) ?_
        refine k_goto (tgt := 17) S dX7_measure_88 (by decide) ?_
        exact ih (j + 1) h6 l6 (by omega) S6 (k5.tr k6)
      refine k_iload_n S dX7_measure_17 rfl ?_
      refine k_aload_n S dX7_measure_18 rfl ?_
      refine k_getf S dX7_measure_19 f_X7_148 (by assumption) (by rfl) ?_
      refine k_callV_r S dX7_measure_22 v_X7_61 (li_size D hl) (by assumption) (fun h22 hp22 => ?_) rfl rfl (by decide) (by omega) (by omega) (Nat.le_of_ble_eq_true rfl)
      rw [hp22]
      refine k_icmp_ge (tgt := 91) S dX7_measure_25 (by decide) (by omega) (by omega) (fun c25 => ?_) (fun c25 => ?_)
      · omega
      · refine k_aload_n S dX7_measure_28 rfl ?_
        refine k_getf S dX7_measure_29 f_X7_148 (by assumption) (by rfl) ?_
        refine k_iload_n S dX7_measure_32 rfl ?_
        refine k_callV_r S dX7_measure_33 v_X7_250 (li_get D hl (i := ((j : Nat) : Int)) (by omega)) (by assumption) (fun h33 hp33 => ?_) rfl rfl (by decide) (by omega) (by omega) (Nat.le_of_ble_eq_true rfl)
        rw [hp33, show ((j : Nat) : Int).toNat = j by omega, hf j hjn]
        refine k_castS S dX7_measure_36 cl_X7_116 (by assumption) rfl ?_
        refine k_astore_n S dX7_measure_39 (by decide) ?_
        refine k_aload_n S dX7_measure_40 rfl ?_
        refine k_getf S dX7_measure_41 f_X7_285 (by assumption) (by rfl) ?_
        refine k_getsK (i := 1) S (by decide) dX7_measure_44 (Or.inl m_X7_264) ?_
        refine k_acmp_ne (tgt := 66) S dX7_measure_47 (by decide) (fun c47 => ?_) (fun c47 => ?_)
        · have nk : ¬ (kd (12 * x + j) = 115 ∨ kd (12 * x + j) = 111) := fun z => c47 (by rw [pkK_1.mpr z])
          have gr : ∀ c9 : Int, c9 = szG kd on ot sz (12 * x + j) → 0 ≤ c9 → c9 ≤ 5 → ∀ l6 : Option GV, K 82 [some (gR (some (A 0))), some (gR (some (A (10 + x)))), some (gI j), l6] [gI c9, gR (some (A (10 + x)))] h5 0 0 := fun c9 e1 e2 e3 l6 => by
            refine k_callV_v S dX7_measure_82 v_X7_298 (sn_grow D gx5 (x := c9) (by omega) (by omega)) (by assumption) (fun h82 hp82 => ?_) rfl rfl (by decide) (by omega) (by omega) (Nat.le_of_ble_eq_true rfl)
            have k82 : keeps h5 h82 (fun q => τ q = 100 + x) := by rw [hp82]; exact keeps.put (Or.inl tx9)
            refine next h82 l6 (S5.ob k82 ⟨?_, tx9⟩ (by omega) (fun k e => ⟨rfl, rfl, by rw [gupd_n _ _ e, gupd_n _ _ e], by rw [gupd_n _ _ e, gupd_n _ _ e], by rw [gupd_n _ _ e, gupd_n _ _ e]⟩)) k82
            rw [gupd_s, gupd_s, gupd_s, hp82, hput_s]
            rw [show orR (reG kd on ot re) (j + 1) (12 * x) = orR (reG kd on ot re) j (12 * x) by rw [orR, show reG kd on ot re (12 * x + j) = 0 by unfold reG; rw [if_neg nk], Nat.or_zero], show maxR (dpG kd on ot he) (j + 1) (12 * x) = maxR (dpG kd on ot he) j (12 * x) by rw [maxR_snoc _ _ q2, show dpG kd on ot he (12 * x + j) = 0 by unfold dpG; rw [if_neg (fun z => nk (Or.inl z)), if_neg (fun z => nk (Or.inr z))]]; omega, show min (sumR (szG kd on ot sz) (j + 1) (12 * x)) 201 = min (min (sumR (szG kd on ot sz) j (12 * x)) 201 + c9) 201 by rw [sumR_snoc, e1]; omega]
          have sg : szG kd on ot sz (12 * x + j) = if kd (12 * x + j) = 100 then 5 else 1 := by unfold szG; rw [if_neg (fun z => nk (Or.inl z)), if_neg (fun z => nk (Or.inr z))]
          refine k_aload_n S dX7_measure_66 rfl ?_
          refine k_aload_n S dX7_measure_67 rfl ?_
          refine k_getf S dX7_measure_68 f_X7_285 (by assumption) (by rfl) ?_
          refine k_getsK (i := 2) S (by decide) dX7_measure_71 (Or.inl m_X7_142) ?_
          refine k_acmp_ne (tgt := 81) S dX7_measure_74 (by decide) (fun c74 => ?_) (fun c74 => ?_)
          · refine k_iconst S dX7_measure_81 ?_
            exact gr 1 (by rw [sg, if_neg (fun z => c74 (by rw [pkK_2.mpr z]))]) (by omega) (by omega) _
          · refine k_iconst S dX7_measure_77 ?_
            refine k_goto (tgt := 82) S dX7_measure_78 (by decide) ?_
            exact gr 5 (by rw [sg, if_pos (pkK_2.mp (inj _ 2 (pkK_lt _) (by omega) (Option.some.inj c74)))]) (by omega) (by omega) _
        · have yk : kd (12 * x + j) = 115 ∨ kd (12 * x + j) = 111 := pkK_1.mp (inj _ 1 (pkK_lt _) (by omega) (Option.some.inj c47))
          obtain ⟨a1, a2⟩ := ed (12 * x + j) _ (by omega) (by omega) (nm_of kd on ot ⟨yk, Or.inl rfl⟩)
          obtain ⟨b1, b2⟩ := ed (12 * x + j) _ (by omega) (by omega) (nm_of kd on ot ⟨yk, Or.inr rfl⟩)
          have ea : on (12 * x + j) = ((on (12 * x + j)).toNat : Nat) := by have := (hb (12 * x + j) (by omega) (by omega)).1 yk; omega
          have eb : pk2 kd on ot (12 * x + j) = ((pk2 kd on ot (12 * x + j)).toNat : Nat) := by
            have u1 := (hb (12 * x + j) (by omega) (by omega)).1
            have u2 := (hb (12 * x + j) (by omega) (by omega)).2
            unfold pk2
            split
            · next e => have := u1 (Or.inl e); omega
            · next e => have := u2 (yk.resolve_left e); omega
          have B5 : ∀ k, k < n → (0 ≤ (gupd sz x (min (sumR (szG kd on ot sz) j (12 * x)) 201)) k ∧ (gupd sz x (min (sumR (szG kd on ot sz) j (12 * x)) 201)) k ≤ 201) ∧ (0 ≤ (gupd he x (maxR (dpG kd on ot he) j (12 * x) + 1)) k ∧ (gupd he x (maxR (dpG kd on ot he) j (12 * x) + 1)) k ≤ 200000) ∧ (gupd re x (orR (reG kd on ot re) j (12 * x))) k < 256 := fun k hk => by
            by_cases e : k = x
            · subst e; rw [gupd_s, gupd_s, gupd_s]; omega
            · rw [gupd_n _ _ e, gupd_n _ _ e, gupd_n _ _ e]; have := hz k hk; omega
          have wg : szG kd on ot sz (12 * x + j) = 1 + max (sz (on (12 * x + j)).toNat) (sz (pk2 kd on ot (12 * x + j)).toNat) ∧ dpG kd on ot he (12 * x + j) = max (he (on (12 * x + j)).toNat) (he (pk2 kd on ot (12 * x + j)).toNat) ∧ reG kd on ot re (12 * x + j) = ((re (on (12 * x + j)).toNat ||| re (pk2 kd on ot (12 * x + j)).toNat) ||| 2 ^ (on (12 * x + j)).toNat) ||| 2 ^ (pk2 kd on ot (12 * x + j)).toNat := by
            refine ⟨?_, ?_, by unfold reG; rw [if_pos yk]⟩
            · unfold szG pk2
              split
              · omega
              · rw [if_pos (yk.resolve_left ‹_›)]
            · unfold dpG pk2
              split
              · omega
              · rw [if_pos (yk.resolve_left ‹_›)]
          revert ea eb wg a1 a2 b1 b2
          generalize hga : (on (12 * x + j)).toNat = a
          generalize hgb : (pk2 kd on ot (12 * x + j)).toNat = b
          intro a1 a2 b1 b2 ea eb wg
          refine k_aload_n S dX7_measure_50 rfl ?_
          refine k_aload_n S dX7_measure_51 rfl ?_
          refine k_aload_n S dX7_measure_52 rfl ?_
          refine k_getf S dX7_measure_53 f_X7_288 (by assumption) (by rfl) ?_
          refine k_aload_n S dX7_measure_56 rfl ?_
          refine k_getf S dX7_measure_57 f_X7_291 (by assumption) (by rfl) ?_
          rw [ea, eb]
          refine k_callV_v S dX7_measure_60 v_X7_294 (c_mInner D X5 S5 hn B5 hx a1 b1 a2 b2) (by assumption) (fun h60 hp60 => ?_) rfl rfl (by decide) (by omega) (by omega) (Nat.le_of_ble_eq_true rfl)
          refine k_goto (tgt := 85) S dX7_measure_63 (by decide) ?_
          refine next h60 _ ?_ hp60.2
          have e1 := hp60.1
          rw [gupd_n _ _ a2, gupd_n _ _ b2, gupd_n _ _ a2, gupd_n _ _ b2, gupd_n _ _ a2, gupd_n _ _ b2, gupd_s, gupd_s, gupd_s] at e1
          refine e1.ob (x := x) (h1 := h60) keeps.rf ?_ (by omega) (fun k e => ⟨rfl, rfl, by rw [gupd_n _ _ e, gupd_n _ _ e, gupd_n _ _ e], by rw [gupd_n _ _ e, gupd_n _ _ e, gupd_n _ _ e], by rw [gupd_n _ _ e, gupd_n _ _ e, gupd_n _ _ e]⟩)
          have e2 := e1.2.1 x hx
          rw [gupd_s, gupd_s, gupd_s] at e2 ⊢
          rw [orR, wg.2.2, maxR_snoc _ _ q2, wg.2.1, sumR_snoc, wg.1]
          rw [show min (sumR (szG kd on ot sz) j (12 * x) + (1 + max (sz a) (sz b))) 201 = min (min (sumR (szG kd on ot sz) j (12 * x)) 201 + (1 + max (sz a) (sz b))) 201 by have := hz a a1; have := hz b b1; omega, show max (maxR (dpG kd on ot he) j (12 * x)) (max (he a) (he b)) + 1 = max (maxR (dpG kd on ot he) j (12 * x) + 1) (1 + max (he a) (he b)) by omega]
          exact e2
  refine k_aload_n S dX7_measure_0 rfl ?_
  refine k_iconst S dX7_measure_1 ?_
  refine k_putf S dX7_measure_2 f_X7_277 gx (gfit_int _) (Nat.le_of_ble_eq_true rfl) ?_
  simp only [List.set_cons_succ, List.set_cons_zero]
  generalize e2 : hput h _ _ = h2
  have gx2 : h2 (A (10 + x)) = some (gObj 4 [gI (fw x), gR (some (A (30 + x))), gR (some (A (20 + x))), gI (1 - of x), gI (sc x), gI (0), gI (he x), gI (((re x) : Nat) : Int)]) := by rw [← e2]; exact hput_s _ _ _
  refine k_aload_n S dX7_measure_5 rfl ?_
  refine k_iconst S dX7_measure_6 ?_
  refine k_putf S dX7_measure_7 f_X7_193 gx2 (gfit_int _) (Nat.le_of_ble_eq_true rfl) ?_
  simp only [List.set_cons_succ, List.set_cons_zero]
  generalize e7 : hput h2 _ _ = h7
  have gx7 : h7 (A (10 + x)) = some (gObj 4 [gI (fw x), gR (some (A (30 + x))), gR (some (A (20 + x))), gI (1 - of x), gI (sc x), gI (0), gI (1), gI (((re x) : Nat) : Int)]) := by rw [← e7]; exact hput_s _ _ _
  refine k_aload_n S dX7_measure_10 rfl ?_
  refine k_iconst S dX7_measure_11 ?_
  refine k_putf S dX7_measure_12 f_X7_282 gx7 (gfit_int _) (Nat.le_of_ble_eq_true rfl) ?_
  simp only [List.set_cons_succ, List.set_cons_zero]
  generalize e12 : hput h7 _ _ = h12
  have gx12 : h12 (A (10 + x)) = some (gObj 4 [gI (fw x), gR (some (A (30 + x))), gR (some (A (20 + x))), gI (1 - of x), gI (sc x), gI (0), gI (1), gI (((0) : Nat) : Int)]) := by rw [← e12]; exact hput_s _ _ _
  have k12 : keeps h h12 (fun q => τ q = 100 + x) := by rw [← e12, ← e7, ← e2]; exact keeps.pp (keeps.pp (keeps.pp keeps.rf tx9) tx9) tx9
  refine k_iconst S dX7_measure_15 ?_
  refine k_istore_n S dX7_measure_16 (by decide) ?_
  refine loop (pn x).toNat 0 h12 none (by omega) (hS.ob k12 ⟨?_, tx9⟩ (by omega) (fun k e => ⟨rfl, rfl, gupd_n _ _ e, gupd_n _ _ e, gupd_n _ _ e⟩)) k12
  rw [gupd_s, gupd_s, gupd_s]
  exact gx12
/-- measureAll() -/
theorem c_measureAll (D : DD) (hX : XTop h τ A td cu lg sv ex un) (hS : XSn D h τ A n fw of sc sz he re le tg pn kd on ot) (hn : n ≤ 8) (hz : ∀ k, k < n → (0 ≤ sz k ∧ sz k ≤ 201) ∧ (0 ≤ he k ∧ he k ≤ 100) ∧ re k < 256) (hB : BOk (n : Nat) pn kd on ot rk) (hr8 : ∀ s, rk s < 8) : GMet D yX7_measureAll cX7_measureAll 3 none [] 7 0 0 [gR (some (A 0))] h (pv (fun h1 => XS D h1 τ A n fw of sc le tg pn kd on ot ∧ keeps h h1 (fun q => 100 ≤ τ q ∧ τ q < 108))) := by
  refine GMet.intro RX7 rfl (by decide) (gcats rfl) (Nat.le_of_ble_eq_true rfl) fun K KX S => ?_
  show K 0 [some _, none, none] [] _ 0 0
  have inner : ∀ (d x : Nat) (r : Nat) (h5 : GH) (sz5 he5 : Nat → Int) (re5 : Nat → Nat), r < 8 → x + d = n → XSn D h5 τ A n fw of sc sz5 he5 re5 le tg pn kd on ot → keeps h h5 (fun q => 100 ≤ τ q ∧ τ q < 108) → MI n pn kd on ot rk sz5 he5 re5 r x → (∀ (h6 : GH) (sz6 he6 : Nat → Int) (re6 : Nat → Nat), XSn D h6 τ A n fw of sc sz6 he6 re6 le tg pn kd on ot → keeps h h6 (fun q => 100 ≤ τ q ∧ τ q < 108) → MI n pn kd on ot rk sz6 he6 re6 r n → K 36 [some (gR (some (A 0))), some (gI r), some (gI n)] [] h6 0 0) → K 10 [some (gR (some (A 0))), some (gI r), some (gI x)] [] h5 0 0 := by
    intro d
    induction d with
    | zero =>
      intro x r h5 sz5 he5 re5 hr hx S5 k5 I5 kk
      have X5 := hX.kp k5 (fun q e => by omega)
      have g05 := X5.1
      obtain ⟨e9, cap, f, hl, hf, -, -⟩ := id S5.1
      obtain ⟨m9, gl⟩ := hl.1
      refine k_iload_n S dX7_measureAll_10 rfl ?_
      refine k_aload_n S dX7_measureAll_11 rfl ?_
      refine k_getf S dX7_measureAll_12 f_X7_12 (by assumption) (by rfl) ?_
      refine k_callV_r S dX7_measureAll_15 v_X7_61 (li_size D hl) (by assumption) (fun h15 hp15 => ?_) rfl rfl (by decide) (by omega) (by omega) (Nat.le_of_ble_eq_true rfl)
      rw [hp15]
      refine k_icmp_ge (tgt := 36) S dX7_measureAll_18 (by decide) (by omega) (by omega) (fun c18 => ?_) (fun c18 => ?_)
      · rw [show x = n by omega] at I5 ⊢
        exact kk h5 sz5 he5 re5 S5 k5 I5
      · omega
    | succ d ih =>
      intro x r h5 sz5 he5 re5 hr hx S5 k5 I5 kk
      have X5 := hX.kp k5 (fun q e => by omega)
      have g05 := X5.1
      obtain ⟨e9, cap, f, hl, hf, -, -⟩ := id S5.1
      obtain ⟨m9, gl⟩ := hl.1
      have hxn : x < n := by omega
      obtain ⟨gx, tx9⟩ := S5.2.1 x hxn
      have bb : ∀ k, k < n → (0 ≤ sz5 k ∧ sz5 k ≤ 201) ∧ (0 ≤ he5 k ∧ he5 k ≤ 100000) ∧ re5 k < 256 := fun k hk => by have := I5.1 k hk; omega
      refine k_iload_n S dX7_measureAll_10 rfl ?_
      refine k_aload_n S dX7_measureAll_11 rfl ?_
      refine k_getf S dX7_measureAll_12 f_X7_12 (by assumption) (by rfl) ?_
      refine k_callV_r S dX7_measureAll_15 v_X7_61 (li_size D hl) (by assumption) (fun h15 hp15 => ?_) rfl rfl (by decide) (by omega) (by omega) (Nat.le_of_ble_eq_true rfl)
      rw [hp15]
      refine k_icmp_ge (tgt := 36) S dX7_measureAll_18 (by decide) (by omega) (by omega) (fun c18 => ?_) (fun c18 => ?_)
      · omega
      · refine k_aload_n S dX7_measureAll_21 rfl ?_
        refine k_aload_n S dX7_measureAll_22 rfl ?_
        refine k_iload_n S dX7_measureAll_23 rfl ?_
        refine k_callV_r S dX7_measureAll_24 v_X7_81 (c_snAt_g D X5 S5.1 hn hxn gx) (by assumption) (fun h24 hp24 => ?_) rfl rfl (by decide) (by omega) (by omega) (Nat.le_of_ble_eq_true rfl)
        rw [hp24]
        refine k_callV_v S dX7_measureAll_27 v_X7_279 (c_measure D X5 S5 hn bb hB hxn) (by assumption) (fun h27 hp27 => ?_) rfl rfl (by decide) (by omega) (by omega) (Nat.le_of_ble_eq_true rfl)
        refine k_iinc S dX7_measureAll_30 rfl (by decide) ?_
        refine k_goto (tgt := 10) S dX7_measureAll_33 (by decide) ?_
        exact ih (x + 1) r h27 _ _ _ hr (by omega) hp27.1 (k5.tr (hp27.2.mono fun q e => by omega)) (I5.step hB hn hr8 hxn) kk

  have outer : ∀ (d r : Nat) (h5 : GH) (sz5 he5 : Nat → Int) (re5 : Nat → Nat) (l2 : Option GV), r + d = 8 → XSn D h5 τ A n fw of sc sz5 he5 re5 le tg pn kd on ot → keeps h h5 (fun q => 100 ≤ τ q ∧ τ q < 108) → MI n pn kd on ot rk sz5 he5 re5 r 0 → K 2 [some (gR (some (A 0))), some (gI r), l2] [] h5 0 0 := by
    intro d
    induction d with
    | zero =>
      intro r h5 sz5 he5 re5 l2 hr S5 k5 I5
      refine k_iload_n S dX7_measureAll_2 rfl ?_
      refine k_bipush S dX7_measureAll_3 ?_
      refine k_icmp_ge (tgt := 42) S dX7_measureAll_5 (by decide) (by omega) (by omega) (fun c5 => ?_) (fun c5 => ?_)
      · exact k_return S dX7_measureAll_42 ⟨rfl, ⟨sz5, he5, re5, S5, fun y hy => I5.2.1 y hy (by have := hr8 y; omega)⟩, k5⟩ (by omega) (by omega)
      · omega
    | succ d ih =>
      intro r h5 sz5 he5 re5 l2 hr S5 k5 I5
      refine k_iload_n S dX7_measureAll_2 rfl ?_
      refine k_bipush S dX7_measureAll_3 ?_
      refine k_icmp_ge (tgt := 42) S dX7_measureAll_5 (by decide) (by omega) (by omega) (fun c5 => ?_) (fun c5 => ?_)
      · omega
      · refine k_iconst S dX7_measureAll_8 ?_
        refine k_istore_n S dX7_measureAll_9 (by decide) ?_
        refine inner n 0 r h5 sz5 he5 re5 (by omega) (by omega) S5 k5 I5 (fun h6 sz6 he6 re6 S6 k6 I6 => ?_)
        refine k_iinc S dX7_measureAll_36 rfl (by decide) ?_
        refine k_goto (tgt := 2) S dX7_measureAll_39 (by decide) ?_
        exact ih (r + 1) h6 sz6 he6 re6 _ (by omega) S6 k6 (I6.round hn)
  refine k_iconst S dX7_measureAll_0 ?_
  refine k_istore_n S dX7_measureAll_1 (by decide) ?_
  exact outer 8 0 h sz he re none (by omega) hS keeps.rf ⟨fun k hk => by have := hz k hk; omega, fun y hy e => by omega, fun y e => by omega⟩
/-- isSomeTooLarge() -/
theorem c_tooLarge (D : DD) (hX : XTop h τ A td cu lg sv ex un) (hS : XSn D h τ A n fw of sc sz he re le tg pn kd on ot) (hn : n ≤ 8) (hz : ∀ k, k < n → 0 ≤ sz k ∧ sz k ≤ 201) : GMet D yX7_isSomeTooLarge cX7_isSomeTooLarge 2 (some .boolean) [] 5 0 0 [gR (some (A 0))] h (pr (gI (b01 (∃ k, k < n ∧ 200 < sz k))) (fun h1 => h1 = h)) := by
  refine GMet.intro RX7 rfl (by decide) (gcats rfl) (Nat.le_of_ble_eq_true rfl) fun K KX S => ?_
  show K 0 [some _, none] [] _ 0 0
  have g0 := hX.1
  obtain ⟨e9, cap, f, hl, hf, -, -⟩ := id hS.1
  obtain ⟨m9, gl⟩ := hl.1
  have loop : ∀ (d x : Nat), x + d = n → (∀ k, k < x → ¬ 200 < sz k) → K 2 [some (gR (some (A 0))), some (gI x)] [] h 0 0 := by
    intro d
    induction d with
    | zero =>
      intro x hx hq
      refine k_iload_n S dX7_isSomeTooLarge_2 rfl ?_
      refine k_aload_n S dX7_isSomeTooLarge_3 rfl ?_
      refine k_getf S dX7_isSomeTooLarge_4 f_X7_12 (by assumption) (by rfl) ?_
      refine k_callV_r S dX7_isSomeTooLarge_7 v_X7_61 (li_size D hl) (by assumption) (fun h7 hp7 => ?_) rfl rfl (by decide) (by omega) (by omega) (Nat.le_of_ble_eq_true rfl)
      rw [hp7]
      refine k_icmp_ge (tgt := 35) S dX7_isSomeTooLarge_10 (by decide) (by omega) (by omega) (fun c10 => ?_) (fun c10 => ?_)
      · refine k_iconst S dX7_isSomeTooLarge_35 ?_
        exact k_zreturn S dX7_isSomeTooLarge_36 (by omega) ⟨by rw [b01_f (fun ⟨k, k1, k2⟩ => hq k (by omega) k2)], rfl⟩ (by omega) (by omega)
      · omega
    | succ d ih =>
      intro x hx hq
      have hxn : x < n := by omega
      obtain ⟨gx, tx9⟩ := hS.2.1 x hxn
      have bx := hz x hxn
      refine k_iload_n S dX7_isSomeTooLarge_2 rfl ?_
      refine k_aload_n S dX7_isSomeTooLarge_3 rfl ?_
      refine k_getf S dX7_isSomeTooLarge_4 f_X7_12 (by assumption) (by rfl) ?_
      refine k_callV_r S dX7_isSomeTooLarge_7 v_X7_61 (li_size D hl) (by assumption) (fun h7 hp7 => ?_) rfl rfl (by decide) (by omega) (by omega) (Nat.le_of_ble_eq_true rfl)
      rw [hp7]
      refine k_icmp_ge (tgt := 35) S dX7_isSomeTooLarge_10 (by decide) (by omega) (by omega) (fun c10 => ?_) (fun c10 => ?_)
      · omega
      · refine k_aload_n S dX7_isSomeTooLarge_13 rfl ?_
        refine k_iload_n S dX7_isSomeTooLarge_14 rfl ?_
        refine k_callV_r S dX7_isSomeTooLarge_15 v_X7_81 (c_snAt_g D hX hS.1 hn hxn gx) (by assumption) (fun h15 hp15 => ?_) rfl rfl (by decide) (by omega) (by omega) (Nat.le_of_ble_eq_true rfl)
        rw [hp15]
        refine k_getf S dX7_isSomeTooLarge_18 f_X7_277 (by assumption) (by rfl) ?_
        refine k_sipush S dX7_isSomeTooLarge_21 ?_
        refine k_icmp_le (tgt := 29) S dX7_isSomeTooLarge_24 (by decide) (by omega) (by omega) (fun c24 => ?_) (fun c24 => ?_)
        · refine k_iinc S dX7_isSomeTooLarge_29 rfl (by decide) ?_
          refine k_goto (tgt := 2) S dX7_isSomeTooLarge_32 (by decide) ?_
          refine ih (x + 1) (by omega) (fun k hk => ?_)
          by_cases e : k = x
          · subst e; omega
          · exact hq k (by omega)
        · refine k_iconst S dX7_isSomeTooLarge_27 ?_
          exact k_zreturn S dX7_isSomeTooLarge_28 (by omega) ⟨by rw [b01_t ⟨x, hxn, by omega⟩], rfl⟩ (by omega) (by omega)
  refine k_iconst S dX7_isSomeTooLarge_0 ?_
  refine k_istore_n S dX7_isSomeTooLarge_1 (by decide) ?_
  exact loop n 0 (by omega) (fun k hk => by omega)
end
