/-- coder() of the constant -/
theorem str_coder (D : DD) {h : GH} : GMet D yJ0_coder_7d493 cJ0_coder_7d493 1 (some .byte) [] 1 0 0 [gR (some (cad D 5))] h (pr (gI 0) (fun h1 => h1 = h)) := by
  refine GMet.intro RJ0 rfl (by decide) (gcats rfl) (Nat.le_of_ble_eq_true rfl) fun K KX S => ?_
  show K 0 [some _] [] _ 0 0
  refine k_getsC S dJ0_coder_7d493_0 m_J0_38 ?_
  refine k_if_eq (tgt := 13) S dJ0_coder_7d493_3 (by decide) (by omega) (fun c3 => ?_) (fun c3 => ?_)
  · omega
  · refine k_aload_n S dJ0_coder_7d493_6 rfl ?_
    refine k_getfSc S dJ0_coder_7d493_7 m_J0_15 ?_
    refine k_goto (tgt := 14) S dJ0_coder_7d493_10 (by decide) ?_
    exact k_breturn S dJ0_coder_7d493_14 (by decide) ⟨rfl, rfl⟩ (by omega) (by omega)
/-- isLatin1() of the constant -/
theorem str_latin (D : DD) {h : GH} : GMet D yJ0_isLatin1_aae02 cJ0_isLatin1_aae02 1 (some .boolean) [] 1 0 0 [gR (some (cad D 5))] h (pr (gI 1) (fun h1 => h1 = h)) := by
  refine GMet.intro RJ0 rfl (by decide) (gcats rfl) (Nat.le_of_ble_eq_true rfl) fun K KX S => ?_
  show K 0 [some _] [] _ 0 0
  refine k_getsC S dJ0_isLatin1_aae02_0 m_J0_38 ?_
  refine k_if_eq (tgt := 17) S dJ0_isLatin1_aae02_3 (by decide) (by omega) (fun c3 => ?_) (fun c3 => ?_)
  · omega
  · refine k_aload_n S dJ0_isLatin1_aae02_6 rfl ?_
    refine k_getfSc S dJ0_isLatin1_aae02_7 m_J0_15 ?_
    refine k_if_ne (tgt := 17) S dJ0_isLatin1_aae02_10 (by decide) (by omega) (fun c10 => ?_) (fun c10 => ?_)
    · omega
    · refine k_iconst S dJ0_isLatin1_aae02_13 ?_
      refine k_goto (tgt := 18) S dJ0_isLatin1_aae02_14 (by decide) ?_
      exact k_zreturn S dJ0_isLatin1_aae02_18 (by omega) ⟨rfl, rfl⟩ (by omega) (by omega)
/-- length() of the constant -/
theorem str_length (D : DD) {h : GH} : GMet D yJ0_length_8abf5 cJ0_length_8abf5 1 (some .int) [] 2 0 0 [gR (some (cad D 5))] h (pr (gI 14) (fun h1 => h1 = h)) := by
  refine GMet.intro RJ0 rfl (by decide) (gcats rfl) (Nat.le_of_ble_eq_true rfl) fun K KX S => ?_
  show K 0 [some _] [] _ 0 0
  refine k_aload_n S dJ0_length_8abf5_0 rfl ?_
  refine k_getfSv S dJ0_length_8abf5_1 m_J0_9 ?_
  refine k_alenS S dJ0_length_8abf5_4 ?_
  refine k_aload_n S dJ0_length_8abf5_5 rfl ?_
  refine k_callVS S dJ0_length_8abf5_6 cb_J0_335 im_J0_335 se_J0_335 rfl (str_coder D) (fun r h1 hp => ?_) (fun E h1 hp => by cases hp.1) rfl rfl (by decide) (by omega) (by omega) (Nat.le_of_ble_eq_true rfl)
  obtain ⟨hz, hp⟩ := hp
  cases hz
  rw [hp]
  refine k_ishr S dJ0_length_8abf5_9 ?_
  exact k_ireturn S dJ0_length_8abf5_10 ⟨by rw [show bShr 14 0 = 14 by decide +kernel], rfl⟩ (by omega) (by omega)
/-- String.checkIndex, within -/
theorem str_check (D : DD) {h : GH} {i n : Int} (hi : 0 ≤ i ∧ i < n) (hn : n < 2147483648) : GMet D yJ0_checkIndex_df160 cJ0_checkIndex_df160 2 none [] 2 0 0 [gI i, gI n] h (pv (fun h1 => h1 = h)) := by
  refine GMet.intro RJ0 rfl (by decide) (gcats rfl) (Nat.le_of_ble_eq_true rfl) fun K KX S => ?_
  show K 0 [some _, some _] [] _ 0 0
  refine k_iload_n S dJ0_checkIndex_df160_0 rfl ?_
  refine k_iload_n S dJ0_checkIndex_df160_1 rfl ?_
  refine k_getsQ S dJ0_checkIndex_df160_2 m_J0_1053 (fun r2 => ?_)
  refine k_callS_r S dJ0_checkIndex_df160_5 s_J0_1059 (pre_check D hi hn) (fun h5 hp5 => ?_) rfl rfl (by decide) (by omega) (by omega) (Nat.le_of_ble_eq_true rfl)
  rw [hp5]
  refine k_pop S dJ0_checkIndex_df160_8 ?_
  exact k_return S dJ0_checkIndex_df160_9 ⟨rfl, rfl⟩ (by omega) (by omega)
/-- the signs of the constant -/
def wkc (j : Nat) : Int := (wkB.getD j 0).toInt
theorem wkc_ok : ∀ j : Nat, j < 14 → bAnd (wkc j) 255 % 65536 = wkc j ∧ 0 ≤ wkc j ∧ wkc j < 65536 := by decide +kernel
/-- StringLatin1.charAt of the constant -/
theorem lat_charAt (D : DD) {h : GH} {j : Nat} (hj : j < 14) : GMet D yJ1_charAt_3b067 cJ1_charAt_3b067 2 (some .char) [] 3 0 0 [gR (some (cad D 6)), gI j] h (pr (gI (wkc j)) (fun h1 => h1 = h)) := by
  refine GMet.intro RJ1 rfl (by decide) (gcats rfl) (Nat.le_of_ble_eq_true rfl) fun K KX S => ?_
  show K 0 [some _, some _] [] _ 0 0
  refine k_iload_n S dJ1_charAt_3b067_0 rfl ?_
  refine k_aload_n S dJ1_charAt_3b067_1 rfl ?_
  refine k_alenS S dJ1_charAt_3b067_2 ?_
  refine k_callS_v S dJ1_charAt_3b067_3 s_J1_9 (str_check D (by omega) (by omega)) (fun h3 hp3 => ?_) rfl rfl (by decide) (by omega) (by omega) (Nat.le_of_ble_eq_true rfl)
  rw [hp3]
  refine k_aload_n S dJ1_charAt_3b067_6 rfl ?_
  refine k_iload_n S dJ1_charAt_3b067_7 rfl ?_
  refine k_baloadS S dJ1_charAt_3b067_8 (by omega) ?_
  have ej : ((j : Nat) : Int).toNat = j := by omega
  obtain ⟨w1, w2, w3⟩ := wkc_ok j hj
  rw [ej]
  show K _ _ [gI (wkc j)] _ _ _
  refine k_sipush S dJ1_charAt_3b067_9 ?_
  refine k_iand S dJ1_charAt_3b067_12 ?_
  refine k_i2c S dJ1_charAt_3b067_13 ?_
  rw [w1]
  exact k_creturn S dJ1_charAt_3b067_14 ⟨w2, w3⟩ ⟨rfl, rfl⟩ (by omega) (by omega)
/-- charAt(j) of the constant -/
theorem str_charAt (D : DD) {h : GH} {j : Nat} (hj : j < 14) : GMet D yJ0_charAt_5068e cJ0_charAt_5068e 2 (some .char) [] 4 0 0 [gR (some (cad D 5)), gI j] h (pr (gI (wkc j)) (fun h1 => h1 = h)) := by
  refine GMet.intro RJ0 rfl (by decide) (gcats rfl) (Nat.le_of_ble_eq_true rfl) fun K KX S => ?_
  show K 0 [some _, some _] [] _ 0 0
  refine k_aload_n S dJ0_charAt_5068e_0 rfl ?_
  refine k_callVS S dJ0_charAt_5068e_1 cb_J0_492 im_J0_492 se_J0_492 rfl (str_latin D) (fun r h1 hp => ?_) (fun E h1 hp => by cases hp.1) rfl rfl (by decide) (by omega) (by omega) (Nat.le_of_ble_eq_true rfl)
  obtain ⟨hz, hp⟩ := hp
  cases hz
  rw [hp]
  refine k_if_eq (tgt := 16) S dJ0_charAt_5068e_4 (by decide) (by omega) (fun c4 => ?_) (fun c4 => ?_)
  · omega
  · obtain ⟨w1, w2, w3⟩ := wkc_ok j hj
    refine k_aload_n S dJ0_charAt_5068e_7 rfl ?_
    refine k_getfSv S dJ0_charAt_5068e_8 m_J0_9 ?_
    refine k_iload_n S dJ0_charAt_5068e_11 rfl ?_
    refine k_callS_r S dJ0_charAt_5068e_12 s_J0_495 (lat_charAt D hj) (fun h12 hp12 => ?_) rfl rfl (by decide) (by omega) (by omega) (Nat.le_of_ble_eq_true rfl)
    rw [hp12]
    exact k_creturn S dJ0_charAt_5068e_15 ⟨w2, w3⟩ ⟨rfl, rfl⟩ (by omega) (by omega)
theorem bXor_nn {x y : Int} (hx : 0 ≤ x ∧ x < 2147483648) (hy : 0 ≤ y ∧ y < 2147483648) : 0 ≤ bXor x y ∧ bXor x y < 2147483648 := by
  unfold bXor
  obtain ⟨n, rfl⟩ := Int.eq_ofNat_of_zero_le hx.1
  obtain ⟨m, rfl⟩ := Int.eq_ofNat_of_zero_le hy.1
  have h1 : (Int32.ofInt ((n : Nat) : Int)).toBitVec = BitVec.ofNat 32 n := by
    show BitVec.ofInt 32 _ = _
    rw [BitVec.ofInt_natCast]
  have h2 : (Int32.ofInt ((m : Nat) : Int)).toBitVec = BitVec.ofNat 32 m := by
    show BitVec.ofInt 32 _ = _
    rw [BitVec.ofInt_natCast]
  have h3 : (Int32.ofInt ((n : Nat) : Int) ^^^ Int32.ofInt ((m : Nat) : Int)).toInt = (BitVec.ofNat 32 n ^^^ BitVec.ofNat 32 m).toInt := by
    rw [← h1, ← h2]; rfl
  have h4 : n ^^^ m < 2 ^ 31 := Nat.xor_lt_two_pow (by omega) (by omega)
  have h5 : (BitVec.ofNat 32 n ^^^ BitVec.ofNat 32 m).toNat = n ^^^ m := by
    rw [BitVec.toNat_xor, BitVec.toNat_ofNat, BitVec.toNat_ofNat, Nat.mod_eq_of_lt (by omega), Nat.mod_eq_of_lt (by omega)]
  rw [h3, BitVec.toInt_eq_toNat_cond, h5, if_pos (by omega)]
  omega
/-- Math.floorMod, of what is not less than 0 -/
theorem floorMod (D : DD) {h : GH} {x y : Int} (hx : 0 ≤ x ∧ x < 2147483648) (hy : 0 < y ∧ y < 2147483648) : GMet D yJ9_floorMod_7cf53 cJ9_floorMod_7cf53 3 (some .int) [] 1 0 0 [gI x, gI y] h (pr (gI (x % y)) (fun h1 => h1 = h)) := by
  refine GMet.introF RJ9 rfl (by decide +kernel) (gcats rfl) (Nat.le_of_ble_eq_true rfl) fun K KX S => ?_
  show K 0 [some _, some _, none] [] _ 0 0
  have hb := bXor_nn hx (y := y) ⟨by omega, hy.2⟩
  refine k_iload_n S dJ9_floorMod_7cf53_0 rfl ?_
  refine k_iload_n S dJ9_floorMod_7cf53_1 rfl ?_
  refine k_irem S dJ9_floorMod_7cf53_2 (by omega) (by omega) ?_
  refine k_istore_n S dJ9_floorMod_7cf53_3 (by decide) ?_
  refine k_iload_n S dJ9_floorMod_7cf53_4 rfl ?_
  refine k_iload_n S dJ9_floorMod_7cf53_5 rfl ?_
  refine k_ixor S dJ9_floorMod_7cf53_6 ?_
  refine k_if_ge (tgt := 18) S dJ9_floorMod_7cf53_7 (by decide) (by omega) (fun c7 => ?_) (fun c7 => ?_)
  · refine k_iload_n S dJ9_floorMod_7cf53_18 rfl ?_
    exact k_ireturn S dJ9_floorMod_7cf53_19 ⟨rfl, rfl⟩ (by omega) (by omega)
  · omega
/-- Row(most) -/
theorem row_init (D : DD) {h : GH} {r : Nat} {x y : GV} (hr : h r = some (gObj 3 [x, y])) {k : Nat} (hk : k ≤ 1000) : GMet D yX3_init cX3_init 2 none [] 2 1 1000 [gR (some r), gI k] h (pv (fun h1 => ∃ a : Nat, h a = none ∧ IsRow h1 r a k 0 (fun _ => 0) ∧ keeps h h1 (fun q => q = r))) := by
  refine GMet.intro RX3 rfl (by decide) (gcats rfl) (Nat.le_of_ble_eq_true rfl) fun K KX S => ?_
  show K 0 [some _, some _] [] _ 0 0
  have em : max (k : Int) 0 = (k : Nat) := by omega
  refine k_aload_n S dX3_init_0 rfl ?_
  refine k_objInit S dX3_init_1 ml_X3_1 mo_inst mo_code (by decide) ?_ (Nat.le_of_ble_eq_true rfl)
  refine k_aload_n S dX3_init_4 rfl ?_
  refine k_iconst S dX3_init_5 ?_
  refine k_putf S dX3_init_6 f_X3_7 (by assumption) (gfit_int _) (Nat.le_of_ble_eq_true rfl) ?_
  refine k_aload_n S dX3_init_9 rfl ?_
  refine k_iload_n S dX3_init_10 rfl ?_
  refine k_iconst S dX3_init_11 ?_
  refine k_max S dX3_init_12 ml_X3_13 mm_max_static mm_init mm_max_code (by omega) (by omega) (by decide) (by omega) (by omega) ?_ (Nat.le_of_ble_eq_true rfl)
  rw [em]
  refine k_newa_i S dX3_init_15 (by omega) ac_int (by omega) (by omega) (fun q15 n15 l15 => ?_)
  refine k_putF S rfl dX3_init_17 ff_X3_19 (by rw [hput_n _ _ (fun e => by subst e; rw [hput_s] at n15; cases n15)]; exact hput_s _ _ _) (gfit_arr _ _) (Nat.le_of_ble_eq_true rfl) ?_
  refine k_return S dX3_init_20 ?_ (by omega) (by omega)
  have hq : q15 ≠ r := fun e => by subst e; rw [hput_s] at n15; cases n15
  have ek : ((k : Nat) : Int).toNat = k := by omega
  refine ⟨rfl, q15, by rw [hput_n _ _ hq] at n15; exact n15, ⟨hput_s _ _ _, ?_, by omega, by omega⟩, ?_⟩
  · rw [hput_n _ _ hq, hput_s, ek]
  · exact keeps.tr (keeps.tr (keeps.put (Or.inl rfl)) (keeps.put (Or.inr n15))) (keeps.put (Or.inl rfl))
/-- Part(kind, first, second) -/
theorem part_init (D : DD) {h : GH} {p : Nat} {x y z : GV} (hp : h p = some (gObj 2 [x, y, z])) {k : Option Nat} {u v : Int} : GMet D yX2_init cX2_init 4 none [] 1 0 0 [gR (some p), gR k, gI u, gI v] h (pv (fun h1 => h1 p = some (gObj 2 [gR k, gI u, gI v]) ∧ keeps h h1 (fun q => q = p))) := by
  refine GMet.intro RX2 rfl (by decide) (gcats rfl) (Nat.le_of_ble_eq_true rfl) fun K KX S => ?_
  show K 0 [some _, some _, some _, some _] [] _ 0 0
  refine k_aload_n S dX2_init_0 rfl ?_
  refine k_objInit S dX2_init_1 ml_X2_1 mo_inst mo_code (by decide) ?_ (Nat.le_of_ble_eq_true rfl)
  refine k_aload_n S dX2_init_4 rfl ?_
  refine k_aload_n S dX2_init_5 rfl ?_
  refine k_putF S rfl dX2_init_6 ff_X2_7 (by assumption) (gfit_ref _ _) (Nat.le_of_ble_eq_true rfl) ?_
  refine k_aload_n S dX2_init_9 rfl ?_
  refine k_iload_n S dX2_init_10 rfl ?_
  refine k_putF S rfl dX2_init_11 ff_X2_13 (hput_s _ _ _) (gfit_int _) (Nat.le_of_ble_eq_true rfl) ?_
  refine k_aload_n S dX2_init_14 rfl ?_
  refine k_iload_n S dX2_init_15 rfl ?_
  refine k_putF S rfl dX2_init_16 ff_X2_17 (hput_s _ _ _) (gfit_int _) (Nat.le_of_ble_eq_true rfl) ?_
  exact k_return S dX2_init_19 ⟨rfl, hput_s _ _ _, keeps.tr (keeps.tr (keeps.put (Or.inl rfl)) (keeps.put (Or.inl rfl))) (keeps.put (Or.inl rfl))⟩ (by omega) (by omega)
/-- Snippet(isForWords) -/
theorem sn_init (D : DD) {h : GH} {s : Nat} (hs : h s = some (gObj 4 [gI 0, gR none, gR none, gI 0, gI 0, gI 0, gI 0, gI 0])) {x : Int} (hx : x = 0 ∨ x = 1) : GMet D yX4_init cX4_init 2 none [] 4 3 2000 [gR (some s), gI x] h (pv (fun h1 => ∃ r a l : Nat, h r = none ∧ h a = none ∧ h l = none ∧ r ≠ l ∧ h1 s = some (gObj 4 [gI x, gR (some r), gR (some l), gI 1, gI 0, gI 0, gI 1, gI 0]) ∧ IsRow h1 r a 6 0 (fun _ => 0) ∧ (∃ m : Int, h1 l = some (gObj 9 [gI m, gR (some (cad D 4)), gI 0])) ∧ keeps h h1 (fun q => q = s))) := by
  refine GMet.intro RX4 rfl (by decide) (gcats rfl) (Nat.le_of_ble_eq_true rfl) fun K KX S => ?_
  show K 0 [some _, some _] [] _ 0 0
  refine k_aload_n S dX4_init_0 rfl ?_
  refine k_objInit S dX4_init_1 ml_X4_3 mo_inst mo_code (by decide) ?_ (Nat.le_of_ble_eq_true rfl)
  refine k_aload_n S dX4_init_4 rfl ?_
  refine k_new S dX4_init_5 n_X4_9 (by omega) (by omega) (fun q5 n5 l5 => ?_)
  refine k_dup S dX4_init_8 ?_
  refine k_bipush S dX4_init_9 ?_
  refine k_callI_v S dX4_init_11 i_X4_11 (row_init D (hput_s _ _ _) (k := 6) (by omega)) (fun h11 hp11 => ?_) rfl rfl (by decide) (by omega) (by omega) (Nat.le_of_ble_eq_true rfl)
  obtain ⟨a, ha, hr, hk⟩ := hp11
  have es1 : s ≠ q5 := fun e => by subst e; rw [n5] at hs; cases hs
  have hs1 : h11 s = some (gObj 4 [gI 0, gR none, gR none, gI 0, gI 0, gI 0, gI 0, gI 0]) := hk _ _ (by rw [hput_n _ _ es1]; exact hs) es1
  have hk1 : keeps h h11 (fun q => q = s) := fun q g hq hn => hk _ _ (by rw [hput_n _ _ (fun e => by subst e; rw [n5] at hq; cases hq)]; exact hq) (fun e => by subst e; rw [n5] at hq; cases hq)
  have ha0 : h a = none := by
    cases z : h a with
    | none => rfl
    | some g =>
      by_cases e : a = q5
      · subst e; rw [hput_s] at ha; cases ha
      · rw [hput_n _ _ e, z] at ha; cases ha
  refine k_putF S rfl dX4_init_14 ff_X4_14 (by assumption) (gfit_ref _ _) (Nat.le_of_ble_eq_true rfl) ?_
  refine k_aload_n S dX4_init_17 rfl ?_
  refine k_new S dX4_init_18 n_X4_20 (by omega) (by omega) (fun q18 n18 l18 => ?_)
  refine k_dup S dX4_init_21 ?_
  refine k_callI_v S dX4_init_22 i_X4_22 (li_init D (hput_s _ _ _)) (fun h22 hp22 => ?_) rfl rfl (by decide) (by omega) (by omega) (Nat.le_of_ble_eq_true rfl)
  subst hp22
  have er : ∀ q g, (hput h11 s (gObj 4 ([gI 0, gR none, gR none, gI 0, gI 0, gI 0, gI 0, gI 0].set 1 (gR (some q5))))) q = some g → q ≠ q18 := fun q g hq e => by subst e; rw [n18] at hq; cases hq
  have e1 : s ≠ q18 := er _ _ (hput_s _ _ _)
  have ne5 : q5 ≠ s := Ne.symm es1
  have nea : a ≠ s := fun e => by subst e; rw [ha0] at hs; cases hs
  have e2 : q5 ≠ q18 := er _ _ (by rw [hput_n _ _ ne5]; exact hr.1)
  have e3 : a ≠ q18 := er _ _ (by rw [hput_n _ _ nea]; exact hr.2.1)
  refine k_putF S rfl dX4_init_25 ff_X4_23 (by rw [hput_n _ _ e1, hput_n _ _ e1, hput_n _ _ e1]; exact hput_s _ _ _) (gfit_ref _ _) (Nat.le_of_ble_eq_true rfl) ?_
  refine k_aload_n S dX4_init_28 rfl ?_
  refine k_iconst S dX4_init_29 ?_
  refine k_putf S dX4_init_30 f_X4_27 (hput_s _ _ _) (gfit_bool (by omega)) (Nat.le_of_ble_eq_true rfl) ?_
  refine k_aload_n S dX4_init_33 rfl ?_
  refine k_iconst S dX4_init_34 ?_
  refine k_putf S dX4_init_35 f_X4_31 (hput_s _ _ _) (gfit_bool (by omega)) (Nat.le_of_ble_eq_true rfl) ?_
  refine k_aload_n S dX4_init_38 rfl ?_
  refine k_iconst S dX4_init_39 ?_
  refine k_putf S dX4_init_40 f_X4_34 (hput_s _ _ _) (gfit_int _) (Nat.le_of_ble_eq_true rfl) ?_
  refine k_aload_n S dX4_init_43 rfl ?_
  refine k_iconst S dX4_init_44 ?_
  refine k_putf S dX4_init_45 f_X4_38 (hput_s _ _ _) (gfit_int _) (Nat.le_of_ble_eq_true rfl) ?_
  refine k_aload_n S dX4_init_48 rfl ?_
  refine k_iconst S dX4_init_49 ?_
  refine k_putf S dX4_init_50 f_X4_41 (hput_s _ _ _) (gfit_int _) (Nat.le_of_ble_eq_true rfl) ?_
  refine k_aload_n S dX4_init_53 rfl ?_
  refine k_iload_n S dX4_init_54 rfl ?_
  refine k_putF S rfl dX4_init_55 ff_X4_44 (hput_s _ _ _) (gfit_bool hx) (Nat.le_of_ble_eq_true rfl) ?_
  refine k_return S dX4_init_58 ?_ (by omega) (by omega)
  refine ⟨rfl, q5, a, q18, n5, ha0, ?_, e2, hput_s _ _ _, ⟨?_, ?_, hr.2.2⟩, ⟨0, ?_⟩, ?_⟩
  · cases z : h q18 with
    | none => rfl
    | some g =>
      have := hk1 _ _ z (Ne.symm e1)
      rw [hput_n _ _ (Ne.symm e1), this] at n18
      cases n18
  · simp only [hput_n _ _ ne5, hput_n _ _ e2]
    exact hr.1
  · simp only [hput_n _ _ nea, hput_n _ _ e3]
    exact hr.2.1
  · simp only [hput_n _ _ (Ne.symm e1)]
    exact hput_s _ _ _
  · intro q g hq hn
    have z : q ≠ q18 := fun e => by subst e; have := hk1 _ _ hq hn; rw [hput_n _ _ hn, this] at n18; cases n18
    simp only [hput_n _ _ hn, hput_n _ _ z]
    exact hk1 _ _ hq hn
theorem bit1 {m k : Nat} (hm : m < 2147483648) (hk : k < 32) : bAnd (bShr (m : Nat) (k : Nat)) 1 = if m.testBit k then 1 else 0 := by
  rw [bShr_nat hm hk]
  unfold bAnd
  have hq : m / 2 ^ k < 2147483648 := Nat.lt_of_le_of_lt (Nat.div_le_self _ _) hm
  have h1 : (Int32.ofInt ((m / 2 ^ k : Nat) : Int)) = nI (m / 2 ^ k) := by rw [i32_nI (Int.natCast_nonneg _)]; congr 1
  have h2 : (Int32.ofInt (1 : Int)) = (1 : Int32) := rfl
  rw [h1, h2, pk_andN (n := m / 2 ^ k) (by omega) (m := 1) 1 (by decide), nI_toInt (by omega)]
  have h3 : m.testBit k = decide (m / 2 ^ k % 2 = 1) := by
    rw [Nat.testBit_eq_decide_div_mod_eq]
  rw [h3]
  have : m / 2 ^ k % 2 ^ 1 = 0 ∨ m / 2 ^ k % 2 ^ 1 = 1 := by omega
  rcases this with z | z
  · rw [z]; rfl
  · rw [z]; rfl
/-- reaches(k) -/
theorem sn_reaches (D : DD) {h : GH} {s : Nat} {a0 a1 a2 : GV} {on sec sz he : Int} {re : Nat} (hs : h s = some (gObj 4 [a0, a1, a2, gI on, gI sec, gI sz, gI he, gI ((re : Nat) : Int)])) (hre : re < 2147483648) {k : Nat} (hk : k < 32) : GMet D yX4_reaches cX4_reaches 2 (some .boolean) [] 1 0 0 [gR (some s), gI k] h (pr (gI (b01 (re.testBit k = true))) (fun h1 => h1 = h)) := by
  refine GMet.intro RX4 rfl (by decide) (gcats rfl) (Nat.le_of_ble_eq_true rfl) fun K KX S => ?_
  show K 0 [some _, some _] [] _ 0 0
  refine k_aload_n S dX4_reaches_0 rfl ?_
  refine k_getf S dX4_reaches_1 f_X4_41 (by assumption) (by rfl) ?_
  refine k_iload_n S dX4_reaches_4 rfl ?_
  refine k_ishr S dX4_reaches_5 ?_
  refine k_iconst S dX4_reaches_6 ?_
  refine k_iand S dX4_reaches_7 ?_
  rw [bit1 hre hk]
  refine k_iconst S dX4_reaches_8 ?_
  refine k_icmp_ne (tgt := 16) S dX4_reaches_9 (by decide) (by split <;> omega) (by omega) (fun c9 => ?_) (fun c9 => ?_)
  · refine k_iconst S dX4_reaches_16 ?_
    exact k_zreturn S dX4_reaches_17 (by omega) ⟨by rw [b01_f (fun z => c9 (by rw [if_pos z]))], rfl⟩ (by omega) (by omega)
  · refine k_iconst S dX4_reaches_12 ?_
    refine k_goto (tgt := 17) S dX4_reaches_13 (by decide) ?_
    exact k_zreturn S dX4_reaches_17 (by omega) ⟨by rw [b01_t (by by_cases z : re.testBit k = true; exact z; rw [if_neg z] at c9; omega)], rfl⟩ (by omega) (by omega)
/-- grow(by) -/
theorem sn_grow (D : DD) {h : GH} {s : Nat} {a0 a1 a2 : GV} {on sec sz he re : Int} (hs : h s = some (gObj 4 [a0, a1, a2, gI on, gI sec, gI sz, gI he, gI re])) {x : Int} (hx : 0 ≤ x ∧ x ≤ 1000000) (hz : 0 ≤ sz ∧ sz ≤ 1000000) : GMet D yX4_grow cX4_grow 2 none [] 2 0 0 [gR (some s), gI x] h (pv (fun h1 => h1 = hput h s (gObj 4 [a0, a1, a2, gI on, gI sec, gI (min (sz + x) 201), gI he, gI re]))) := by
  refine GMet.intro RX4 rfl (by decide) (gcats rfl) (Nat.le_of_ble_eq_true rfl) fun K KX S => ?_
  show K 0 [some _, some _] [] _ 0 0
  refine k_aload_n S dX4_grow_0 rfl ?_
  refine k_aload_n S dX4_grow_1 rfl ?_
  refine k_getf S dX4_grow_2 f_X4_34 (by assumption) (by rfl) ?_
  refine k_iload_n S dX4_grow_5 rfl ?_
  refine k_iadd S dX4_grow_6 ?_
  refine k_sipush S dX4_grow_7 ?_
  refine k_min S dX4_grow_10 ml_X4_58 mm_min_static mm_init mm_min_code (by omega) (by omega) (by decide) (by omega) (by omega) ?_ (Nat.le_of_ble_eq_true rfl)
  refine k_putf S dX4_grow_13 f_X4_34 (by assumption) (gfit_int _) (Nat.le_of_ble_eq_true rfl) ?_
  exact k_return S dX4_grow_16 ⟨rfl, rfl⟩ (by omega) (by omega)
/-! Gift -/
def RowL (h : GH) (r a cap : Nat) (l : List Int) : Prop := ∃ f : Nat → Int, IsRow h r a cap l.length f ∧ ∀ q, q < l.length → f q = l.getD q 0
theorem RowL.kp {h h1 : GH} {r a cap : Nat} {l : List Int} {P : Nat → Prop} (hr : RowL h r a cap l) (hk : keeps h h1 P) (p1 : ¬ P r) (p2 : ¬ P a) : RowL h1 r a cap l := by
  obtain ⟨f, ⟨z1, z2, z3⟩, z4⟩ := hr
  exact ⟨f, ⟨hk _ _ z1 p1, hk _ _ z2 p2, z3⟩, z4⟩
theorem IsRow.kp {h h1 : GH} {r a cap n : Nat} {f : Nat → Int} {P : Nat → Prop} (hr : IsRow h r a cap n f) (hk : keeps h h1 P) (p1 : ¬ P r) (p2 : ¬ P a) : IsRow h1 r a cap n f := by
  obtain ⟨z1, z2, z3⟩ := hr
  exact ⟨hk _ _ z1 p1, hk _ _ z2 p2, z3⟩
theorem RowL.add {h1 : GH} {r a cap n : Nat} {f : Nat → Int} {l : List Int} {v : Int} (hn : l.length = n) (hc : n < cap) (hf : ∀ q, q < n → f q = l.getD q 0) (hr : IsRow h1 r a cap (if n < cap then n + 1 else n) (if n < cap then gupd f n v else f)) : RowL h1 r a cap (l ++ [v]) := by
  subst hn
  rw [if_pos hc, if_pos hc] at hr
  refine ⟨_, by rw [List.length_append]; exact hr, fun q hq => ?_⟩
  rw [List.length_append] at hq
  simp only [List.length_cons, List.length_nil] at hq
  by_cases e : q = l.length
  · subst e
    rw [gupd_s]
    simp [List.getD]
  · rw [gupd_n _ _ e, hf q (by omega), List.getD_eq_getElem?_getD, List.getD_eq_getElem?_getD, List.getElem?_append_left (by omega)]
def digits (x : Nat) : List Int := if x < 10 then [48 + x] else digits (x / 10) ++ [48 + ((x % 10 : Nat) : Int)]
termination_by x
decreasing_by omega
def dgp (x : Nat) : List Int := if x = 0 then [] else digits x
theorem dg_step (y : Nat) (hy : y ≠ 0) : dgp (y / 10) ++ [48 + ((y % 10 : Nat) : Int)] = digits y := by
  rw [digits]
  by_cases h : y < 10
  · rw [if_pos h, dgp, if_pos (by omega), show y % 10 = y by omega]
    rfl
  · rw [if_neg h, dgp, if_neg (by omega)]
theorem dg_0 : digits 0 = [48] := by rw [digits]; rfl
theorem dg_len : ∀ (k y : Nat), y < 10 ^ (k + 1) → (digits y).length ≤ k + 1 := by
  intro k
  induction k with
  | zero => intro y hy; rw [digits, if_pos (by omega)]; simp
  | succ k ih =>
    intro y hy
    rw [digits]
    split
    · simp
    · rw [List.length_append]
      have := ih (y / 10) (by rw [Nat.pow_succ] at hy; omega)
      simp only [List.length_cons, List.length_nil]
      omega
theorem dgp_len {k y : Nat} (hy : y < 10 ^ (k + 1)) : (dgp y).length ≤ k + 1 := by
  unfold dgp
  split
  · simp
  · exact dg_len k y hy
theorem dgp_mono (x : Nat) : ∀ k : Nat, (dgp (x / 10 ^ k)).length ≤ (digits x).length := by
  intro k
  induction k with
  | zero =>
    rw [Nat.pow_zero, Nat.div_one]
    unfold dgp
    split
    · simp
    · exact Nat.le_refl _
  | succ k ih =>
    rw [Nat.pow_succ, ← Nat.div_div_eq_div_mul]
    generalize x / 10 ^ k = y at ih ⊢
    by_cases h : y = 0
    · subst h
      exact ih
    · have h1 := congrArg List.length (dg_step y h)
      rw [List.length_append] at h1
      rw [dgp, if_neg h] at ih
      simp only [List.length_cons, List.length_nil] at h1
      omega
/-- what a date gives -/
def dateT (day : Nat) (form : Int) : List Int := if form = 110 then digits day else if form = 119 then [wkc (2 * (day % 7)), wkc (2 * (day % 7) + 1)] else digits (day / 30 % 12 + 1) ++ [46] ++ digits (day % 30 + 1)
theorem dateT_len {day : Nat} (hd : day < 100000) (form : Int) : (dateT day form).length ≤ 5 := by
  unfold dateT
  split
  · exact dg_len 4 day hd
  · split
    · simp
    · have h1 := dg_len 1 (day / 30 % 12 + 1) (by omega)
      have h2 := dg_len 1 (day % 30 + 1) (by omega)
      simp only [List.length_append, List.length_cons, List.length_nil]
      omega
def IsGift (h : GH) (g rc ac rs as_ : Nat) (cl sl : List Int) : Prop := h g = some (gObj 0 [gR (some rc), gR (some rs)]) ∧ RowL h rc ac 200 cl ∧ RowL h rs as_ 200 sl ∧ rc ≠ rs ∧ ac ≠ as_
theorem RowL.kd {h : GH} {r a cap : Nat} {l : List Int} (hr : RowL h r a cap l) : ∃ (n : Nat) (f : Nat → Int), h r = some (gObj 3 [gR (some a), gI n]) ∧ h a = some (gArr 0 cap f) := by
  obtain ⟨f, ⟨z1, z2, z3⟩, z4⟩ := hr
  exact ⟨_, f, z1, z2⟩
theorem IsGift.chars {h h1 : GH} {g rc ac rs as_ : Nat} {cl sl cl1 : List Int} (hg : IsGift h g rc ac rs as_ cl sl) (hk : keeps h h1 (fun q => q = rc ∨ q = ac)) (hr : RowL h1 rc ac 200 cl1) : IsGift h1 g rc ac rs as_ cl1 sl := by
  obtain ⟨g1, g2, g3, g4, g5⟩ := hg
  obtain ⟨n1, f1, a1, a2⟩ := g2.kd
  obtain ⟨n2, f2, b1, b2⟩ := g3.kd
  refine ⟨hk _ _ g1 ?_, hr, g3.kp hk ?_ ?_, g4, g5⟩
  · rintro (e | e)
    · rw [e, a1] at g1; cases g1
    · rw [e, a2] at g1; cases g1
  · rintro (e | e)
    · exact g4 e.symm
    · rw [e, a2] at b1; cases b1
  · rintro (e | e)
    · rw [e, a1] at b2; cases b2
    · exact g5 e.symm
theorem IsGift.stops {h h1 : GH} {g rc ac rs as_ : Nat} {cl sl sl1 : List Int} (hg : IsGift h g rc ac rs as_ cl sl) (hk : keeps h h1 (fun q => q = rs ∨ q = as_)) (hr : RowL h1 rs as_ 200 sl1) : IsGift h1 g rc ac rs as_ cl sl1 := by
  obtain ⟨g1, g2, g3, g4, g5⟩ := hg
  obtain ⟨n1, f1, a1, a2⟩ := g2.kd
  obtain ⟨n2, f2, b1, b2⟩ := g3.kd
  refine ⟨hk _ _ g1 ?_, g2.kp hk ?_ ?_, hr, g4, g5⟩
  · rintro (e | e)
    · rw [e, b1] at g1; cases g1
    · rw [e, b2] at g1; cases g1
  · rintro (e | e)
    · exact g4 e
    · rw [e, b2] at a1; cases a1
  · rintro (e | e)
    · rw [e, b1] at a2; cases a2
    · exact g5 e
/-- addNumber(x) -/
theorem gf_addNumber (D : DD) {h : GH} {g rc ac rs as_ : Nat} {cl sl : List Int} (hg : IsGift h g rc ac rs as_ cl sl) {x : Nat} (hx : x < 100000) (hc : cl.length + (digits x).length ≤ 200) : GMet D yX0_addNumber cX0_addNumber 3 none [] 2 0 0 [gR (some g), gI x] h (pv (fun h1 => IsGift h1 g rc ac rs as_ (cl ++ digits x) sl ∧ keeps h h1 (fun q => q = rc ∨ q = ac))) := by
  refine GMet.intro RX0 rfl (by decide) (gcats rfl) (Nat.le_of_ble_eq_true rfl) fun K KX S => ?_
  show K 0 [some _, some _, none] [] _ 0 0
  have loop : ∀ (k : Nat) (h5 : GH), k ≤ 4 → IsGift h5 g rc ac rs as_ (cl ++ dgp (x / 10 ^ (k + 1))) sl → keeps h h5 (fun q => q = rc ∨ q = ac) → K 4 [some (gR (some g)), some (gI x), some (gI ((10 ^ k : Nat) : Int))] [] h5 0 0 := by
    intro k
    induction k with
    | zero =>
      intro h5 hk hg5 hk5
      obtain ⟨g1, ⟨f, g2, g2f⟩, -⟩ := id hg5
      have g2a := g2.1
      have hl : (cl ++ dgp (x / 10 ^ (0 + 1))).length < 200 := by
        rw [List.length_append]
        by_cases z : x = 0
        · subst z
          rw [dg_0] at hc
          show cl.length + (dgp 0).length < 200
          rw [dgp, if_pos rfl]
          simp only [List.length_cons, List.length_nil] at hc ⊢
          omega
        · have h1 := congrArg List.length (dg_step x z)
          rw [List.length_append] at h1
          simp only [List.length_cons, List.length_nil] at h1
          simp only [Nat.zero_add, Nat.pow_one]
          omega
      have e1 : ((48 : Int) + ((x : Nat) : Int) / ((10 ^ 0 : Nat) : Int) % 10) = 48 + ((x % 10 : Nat) : Int) := by
        simp
      have e2 : cl ++ dgp (x / 10 ^ (0 + 1)) ++ [48 + ((x % 10 : Nat) : Int)] = cl ++ digits x := by
        rw [List.append_assoc]
        congr 1
        by_cases z : x = 0
        · subst z; rw [dg_0]; rfl
        · exact dg_step x z
      have tail : K 19 [some (gR (some g)), some (gI x), some (gI ((10 ^ 0 : Nat) : Int))] [] h5 0 0 := by
        refine k_aload_n S dX0_addNumber_19 rfl ?_
        refine k_getf S dX0_addNumber_20 f_X0_14 (by assumption) (by rfl) ?_
        refine k_bipush S dX0_addNumber_23 ?_
        refine k_iload_n S dX0_addNumber_25 rfl ?_
        refine k_iload_n S dX0_addNumber_26 rfl ?_
        refine k_idiv S dX0_addNumber_27 (by omega) (by omega) ?_
        refine k_bipush S dX0_addNumber_28 ?_
        refine k_irem S dX0_addNumber_30 (by omega) (by omega) ?_
        refine k_iadd S dX0_addNumber_31 ?_
        rw [e1]
        refine k_callV_v S dX0_addNumber_32 v_X0_38 (row_add D g2) (by assumption) (fun h32 hp32 => ?_) rfl rfl (by decide) (by omega) (by omega) (Nat.le_of_ble_eq_true rfl)
        refine k_iload_n S dX0_addNumber_35 rfl ?_
        refine k_bipush S dX0_addNumber_36 ?_
        refine k_idiv S dX0_addNumber_38 (by omega) (by omega) ?_
        refine k_istore_n S dX0_addNumber_39 (by decide) ?_
        refine k_goto (tgt := 4) S dX0_addNumber_40 (by decide) ?_
        have hg6 := hg5.chars hp32.2.keeps (RowL.add rfl hl g2f hp32.1)
        rw [e2] at hg6
        refine k_iload_n S dX0_addNumber_4 rfl ?_
        refine k_iconst S dX0_addNumber_5 ?_
        refine k_icmp_lt (tgt := 43) S dX0_addNumber_6 (by decide) (by omega) (by omega) (fun c6 => ?_) (fun c6 => ?_)
        · exact k_return S dX0_addNumber_43 ⟨rfl, hg6, hk5.tr hp32.2.keeps⟩ (by omega) (by omega)
        · omega
      refine k_iload_n S dX0_addNumber_4 rfl ?_
      refine k_iconst S dX0_addNumber_5 ?_
      refine k_icmp_lt (tgt := 43) S dX0_addNumber_6 (by decide) (by omega) (by omega) (fun c6 => ?_) (fun c6 => ?_)
      · omega
      · refine k_iload_n S dX0_addNumber_9 rfl ?_
        refine k_iload_n S dX0_addNumber_10 rfl ?_
        refine k_icmp_ge (tgt := 19) S dX0_addNumber_11 (by decide) (by omega) (by omega) (fun c11 => ?_) (fun c11 => ?_)
        · exact tail
        · refine k_iload_n S dX0_addNumber_14 rfl ?_
          refine k_iconst S dX0_addNumber_15 ?_
          refine k_icmp_ne (tgt := 35) S dX0_addNumber_16 (by decide) (by omega) (by omega) (fun c16 => ?_) (fun c16 => ?_)
          · exact absurd rfl c16
          · exact tail
    | succ k ih =>
      intro h5 hk hg5 hk5
      obtain ⟨g1, ⟨f, g2, g2f⟩, -⟩ := id hg5
      have g2a := g2.1
      have hp : 10 ^ (k + 1) ≤ 10000 := by
        have : 10 ^ (k + 1) ≤ 10 ^ 4 := Nat.pow_le_pow_right (by omega) hk
        simpa using this
      have hp1 : 10 ≤ 10 ^ (k + 1) := by rw [Nat.pow_succ]; have := Nat.pow_pos (n := k) (show 0 < 10 by omega); omega
      have e0 : ((10 ^ (k + 1) : Nat) : Int) / 10 = ((10 ^ k : Nat) : Int) := by rw [Nat.pow_succ]; omega
      have hd : x / 10 ^ (k + 1 + 1) = x / 10 ^ (k + 1) / 10 := by rw [Nat.pow_succ 10 (k + 1), Nat.div_div_eq_div_mul]
      generalize hu : 10 ^ (k + 1) = u at *
      refine k_iload_n S dX0_addNumber_4 rfl ?_
      refine k_iconst S dX0_addNumber_5 ?_
      refine k_icmp_lt (tgt := 43) S dX0_addNumber_6 (by decide) (by omega) (by omega) (fun c6 => ?_) (fun c6 => ?_)
      · omega
      · refine k_iload_n S dX0_addNumber_9 rfl ?_
        refine k_iload_n S dX0_addNumber_10 rfl ?_
        refine k_icmp_ge (tgt := 19) S dX0_addNumber_11 (by decide) (by omega) (by omega) (fun c11 => ?_) (fun c11 => ?_)
        · have hy : x / u ≠ 0 := by
            have : 1 ≤ x / u := (Nat.le_div_iff_mul_le (by omega)).mpr (by omega)
            omega
          have hl : (cl ++ dgp (x / 10 ^ (k + 1 + 1))).length < 200 := by
            rw [List.length_append, hd]
            have h1 := congrArg List.length (dg_step (x / u) hy)
            rw [List.length_append] at h1
            simp only [List.length_cons, List.length_nil] at h1
            have h2 := dgp_mono x (k + 1)
            rw [hu, dgp, if_neg hy] at h2
            omega
          have e1 : ((48 : Int) + ((x : Nat) : Int) / ((u : Nat) : Int) % 10) = 48 + ((x / u % 10 : Nat) : Int) := by
            rw [← Int.natCast_ediv]; rfl
          have e2 : cl ++ dgp (x / 10 ^ (k + 1 + 1)) ++ [48 + ((x / u % 10 : Nat) : Int)] = cl ++ dgp (x / u) := by
            rw [List.append_assoc, hd, dg_step _ hy]
            rw [dgp, if_neg hy]
          refine k_aload_n S dX0_addNumber_19 rfl ?_
          refine k_getf S dX0_addNumber_20 f_X0_14 (by assumption) (by rfl) ?_
          refine k_bipush S dX0_addNumber_23 ?_
          refine k_iload_n S dX0_addNumber_25 rfl ?_
          refine k_iload_n S dX0_addNumber_26 rfl ?_
          refine k_idiv S dX0_addNumber_27 (by omega) (by omega) ?_
          refine k_bipush S dX0_addNumber_28 ?_
          refine k_irem S dX0_addNumber_30 ⟨Int.ediv_nonneg (by omega) (by omega), by have := Int.ediv_le_self (a := (x : Int)) ((u : Nat) : Int) (by omega); omega⟩ (by omega) ?_
          refine k_iadd S dX0_addNumber_31 ?_
          rw [e1]
          refine k_callV_v S dX0_addNumber_32 v_X0_38 (row_add D g2) (by assumption) (fun h32 hp32 => ?_) rfl rfl (by decide) (by omega) (by omega) (Nat.le_of_ble_eq_true rfl)
          refine k_iload_n S dX0_addNumber_35 rfl ?_
          refine k_bipush S dX0_addNumber_36 ?_
          refine k_idiv S dX0_addNumber_38 (by omega) (by omega) ?_
          rw [e0]
          refine k_istore_n S dX0_addNumber_39 (by decide) ?_
          refine k_goto (tgt := 4) S dX0_addNumber_40 (by decide) ?_
          have hg6 := hg5.chars hp32.2.keeps (RowL.add rfl hl g2f hp32.1)
          rw [e2] at hg6
          exact ih _ (by omega) hg6 (hk5.tr hp32.2.keeps)
        · refine k_iload_n S dX0_addNumber_14 rfl ?_
          refine k_iconst S dX0_addNumber_15 ?_
          refine k_icmp_ne (tgt := 35) S dX0_addNumber_16 (by decide) (by omega) (by omega) (fun c16 => ?_) (fun c16 => ?_)
          · have e3 : x / u = 0 := Nat.div_eq_of_lt (by omega)
            refine k_iload_n S dX0_addNumber_35 rfl ?_
            refine k_bipush S dX0_addNumber_36 ?_
            refine k_idiv S dX0_addNumber_38 (by omega) (by omega) ?_
            rw [e0]
            refine k_istore_n S dX0_addNumber_39 (by decide) ?_
            refine k_goto (tgt := 4) S dX0_addNumber_40 (by decide) ?_
            refine ih _ (by omega) ?_ hk5
            rw [hd, e3] at hg5
            rw [e3]
            exact hg5
          · omega
  refine k_sipush S dX0_addNumber_0 ?_
  refine k_istore_n S dX0_addNumber_3 (by decide) ?_
  refine loop 4 h (by omega) ?_ keeps.rf
  have e4 : x / 10 ^ (4 + 1) = 0 := Nat.div_eq_of_lt (by omega)
  rw [e4, dgp, if_pos rfl, List.append_nil]
  exact hg
/-- empty() -/
theorem gf_empty (D : DD) {h : GH} {g rc ac rs as_ : Nat} {cl sl : List Int} (hg : IsGift h g rc ac rs as_ cl sl) : GMet D yX0_empty cX0_empty 1 none [] 2 0 0 [gR (some g)] h (pv (fun h1 => IsGift h1 g rc ac rs as_ [] [] ∧ keeps h h1 (fun q => q = rc ∨ q = ac ∨ q = rs ∨ q = as_))) := by
  obtain ⟨g1, g2, g3, g4, g5⟩ := id hg
  obtain ⟨f, g2, g2f⟩ := g2
  have g2a := g2.1
  have w0 : ∀ q : Nat, q < ([] : List Int).length → f q = ([] : List Int).getD q 0 := fun q hq => absurd hq (by simp)
  refine GMet.intro RX0 rfl (by decide) (gcats rfl) (Nat.le_of_ble_eq_true rfl) fun K KX S => ?_
  show K 0 [some _] [] _ 0 0
  refine k_aload_n S dX0_empty_0 rfl ?_
  refine k_getf S dX0_empty_1 f_X0_14 (by assumption) (by rfl) ?_
  refine k_callV_v S dX0_empty_4 v_X0_23 (row_empty D g2) (by assumption) (fun h4 hp4 => ?_) rfl rfl (by decide) (by omega) (by omega) (Nat.le_of_ble_eq_true rfl)
  have k4 := hp4.2.keeps
  have hg4 := hg.chars (cl1 := []) k4 ⟨f, hp4.1, w0⟩
  obtain ⟨u1, u2, ⟨f3, u3, u3f⟩, u4, u5⟩ := id hg4
  have u3a := u3.1
  refine k_aload_n S dX0_empty_7 rfl ?_
  refine k_getf S dX0_empty_8 f_X0_20 (by assumption) (by rfl) ?_
  refine k_callV_v S dX0_empty_11 v_X0_23 (row_empty D u3) (by assumption) (fun h11 hp11 => ?_) rfl rfl (by decide) (by omega) (by omega) (Nat.le_of_ble_eq_true rfl)
  refine k_return S dX0_empty_14 ?_ (by omega) (by omega)
  refine ⟨rfl, hg4.stops (sl1 := []) hp11.2.keeps ⟨f3, hp11.1, fun q hq => absurd hq (by simp)⟩, ?_⟩
  refine keeps.tr (k4.mono fun q z => ?_) (hp11.2.keeps.mono fun q z => ?_)
  · rcases z with z | z
    · exact Or.inl z
    · exact Or.inr (Or.inl z)
  · rcases z with z | z
    · exact Or.inr (Or.inr (Or.inl z))
    · exact Or.inr (Or.inr (Or.inr z))
theorem RowL.len {h : GH} {r a cap : Nat} {l : List Int} (hr : RowL h r a cap l) : l.length ≤ cap := by
  obtain ⟨f, ⟨_, _, z, _⟩, _⟩ := hr
  exact z
/-- addWeekday(w) -/
theorem gf_addWeekday (D : DD) {h : GH} {g rc ac rs as_ : Nat} {cl sl : List Int} (hg : IsGift h g rc ac rs as_ cl sl) {x : Nat} (hx : x < 7) (hc : cl.length + 5 ≤ 200) : GMet D yX0_addWeekday cX0_addWeekday 3 none [] 5 0 0 [gR (some g), gI x] h (pv (fun h1 => IsGift h1 g rc ac rs as_ (cl ++ [wkc (2 * x), wkc (2 * x + 1)]) sl ∧ keeps h h1 (fun q => q = rc ∨ q = ac))) := by
  obtain ⟨g1, g2, g3, g4, g5⟩ := id hg
  obtain ⟨f, g2, g2f⟩ := g2
  have g2a := g2.1
  have e1 : (2 : Int) * ((x : Nat) : Int) = ((2 * x : Nat) : Int) := by omega
  have e2 : ((2 * x : Nat) : Int) + 1 = ((2 * x + 1 : Nat) : Int) := by omega
  refine GMet.intro RX0 rfl (by decide) (gcats rfl) (Nat.le_of_ble_eq_true rfl) fun K KX S => ?_
  show K 0 [some _, some _, none] [] _ 0 0
  refine k_iconst S dX0_addWeekday_0 ?_
  refine k_iload_n S dX0_addWeekday_1 rfl ?_
  refine k_imul S dX0_addWeekday_2 ?_
  rw [e1]
  refine k_istore_n S dX0_addWeekday_3 (by decide) ?_
  refine k_iload_n S dX0_addWeekday_4 rfl ?_
  refine k_if_lt (tgt := 47) S dX0_addWeekday_5 (by decide) (by omega) (fun c5 => ?_) (fun c5 => ?_)
  · omega
  · refine k_iload_n S dX0_addWeekday_8 rfl ?_
    refine k_iconst S dX0_addWeekday_9 ?_
    refine k_iadd S dX0_addWeekday_10 ?_
    rw [e2]
    refine k_ldcW S dX0_addWeekday_11 (by decide +kernel) ?_
    refine k_callVS S dX0_addWeekday_13 cb_X0_43 im_X0_43 se_X0_43 rfl (str_length D) (fun r h1 hp => ?_) (fun E h1 hp => by cases hp.1) rfl rfl (by decide) (by omega) (by omega) (Nat.le_of_ble_eq_true rfl)
    obtain ⟨hz, hp⟩ := hp
    cases hz
    rw [hp]
    refine k_icmp_ge (tgt := 47) S dX0_addWeekday_16 (by decide) (by omega) (by omega) (fun c16 => ?_) (fun c16 => ?_)
    · omega
    · refine k_aload_n S dX0_addWeekday_19 rfl ?_
      refine k_getf S dX0_addWeekday_20 f_X0_14 (by assumption) (by rfl) ?_
      refine k_ldcW S dX0_addWeekday_23 (by decide +kernel) ?_
      refine k_iload_n S dX0_addWeekday_25 rfl ?_
      refine k_callVS S dX0_addWeekday_26 cb_X0_49 im_X0_49 se_X0_49 rfl (str_charAt D (j := 2 * x) (by omega)) (fun r h1 hp => ?_) (fun E h1 hp => by cases hp.1) rfl rfl (by decide) (by omega) (by omega) (Nat.le_of_ble_eq_true rfl)
      obtain ⟨hz, hp⟩ := hp
      cases hz
      rw [hp]
      refine k_callV_v S dX0_addWeekday_29 v_X0_38 (row_add D g2) (by assumption) (fun h29 hp29 => ?_) rfl rfl (by decide) (by omega) (by omega) (Nat.le_of_ble_eq_true rfl)
      have hg6 := hg.chars hp29.2.keeps (RowL.add rfl (by omega) g2f hp29.1)
      obtain ⟨u1, ⟨f3, u3, u3f⟩, -⟩ := id hg6
      have u3a := u3.1
      refine k_aload_n S dX0_addWeekday_32 rfl ?_
      refine k_getf S dX0_addWeekday_33 f_X0_14 (by assumption) (by rfl) ?_
      refine k_ldcW S dX0_addWeekday_36 (by decide +kernel) ?_
      refine k_iload_n S dX0_addWeekday_38 rfl ?_
      refine k_iconst S dX0_addWeekday_39 ?_
      refine k_iadd S dX0_addWeekday_40 ?_
      rw [e2]
      refine k_callVS S dX0_addWeekday_41 cb_X0_49 im_X0_49 se_X0_49 rfl (str_charAt D (j := 2 * x + 1) (by omega)) (fun r h1 hp => ?_) (fun E h1 hp => by cases hp.1) rfl rfl (by decide) (by omega) (by omega) (Nat.le_of_ble_eq_true rfl)
      obtain ⟨hz, hp⟩ := hp
      cases hz
      rw [hp]
      refine k_callV_v S dX0_addWeekday_44 v_X0_38 (row_add D u3) (by assumption) (fun h44 hp44 => ?_) rfl rfl (by decide) (by omega) (by omega) (Nat.le_of_ble_eq_true rfl)
      refine k_return S dX0_addWeekday_47 ?_ (by omega) (by omega)
      have hg7 := hg6.chars hp44.2.keeps (RowL.add rfl (by rw [List.length_append]; simp only [List.length_cons, List.length_nil]; omega) u3f hp44.1)
      rw [List.append_assoc] at hg7
      exact ⟨rfl, hg7, keeps.tr hp29.2.keeps hp44.2.keeps⟩
/-- addDate(day, form) -/
theorem gf_addDate (D : DD) {h : GH} {g rc ac rs as_ : Nat} {cl sl : List Int} (hg : IsGift h g rc ac rs as_ cl sl) {x : Nat} (hx : x < 100000) {form : Int} (hform : inR form) (hc : cl.length + 5 ≤ 200) : GMet D yX0_addDate cX0_addDate 3 none [] 6 0 0 [gR (some g), gI x, gI form] h (pv (fun h1 => IsGift h1 g rc ac rs as_ (cl ++ dateT x form) sl ∧ keeps h h1 (fun q => q = rc ∨ q = ac))) := by
  obtain ⟨g1, g2, g3, g4, g5⟩ := id hg
  refine GMet.intro RX0 rfl (by decide) (gcats rfl) (Nat.le_of_ble_eq_true rfl) fun K KX S => ?_
  show K 0 [some _, some _, some _] [] _ 0 0
  refine k_iload_n S dX0_addDate_0 rfl ?_
  refine k_bipush S dX0_addDate_1 ?_
  refine k_icmp_ne (tgt := 14) S dX0_addDate_3 (by decide) (by omega) (by omega) (fun c3 => ?_) (fun c3 => ?_)
  · refine k_iload_n S dX0_addDate_14 rfl ?_
    refine k_bipush S dX0_addDate_15 ?_
    refine k_icmp_ne (tgt := 33) S dX0_addDate_17 (by decide) (by omega) (by omega) (fun c17 => ?_) (fun c17 => ?_)
    · have e1 : ((x : Nat) : Int) / 30 % 12 + 1 = ((x / 30 % 12 + 1 : Nat) : Int) := by omega
      have e2 : ((x : Nat) : Int) % 30 + 1 = ((x % 30 + 1 : Nat) : Int) := by omega
      have l1 := dg_len 1 (x / 30 % 12 + 1) (by omega)
      have l2 := dg_len 1 (x % 30 + 1) (by omega)
      refine k_aload_n S dX0_addDate_33 rfl ?_
      refine k_iload_n S dX0_addDate_34 rfl ?_
      refine k_bipush S dX0_addDate_35 ?_
      refine k_idiv S dX0_addDate_37 (by omega) (by omega) ?_
      refine k_bipush S dX0_addDate_38 ?_
      refine k_irem S dX0_addDate_40 (by omega) (by omega) ?_
      refine k_iconst S dX0_addDate_41 ?_
      refine k_iadd S dX0_addDate_42 ?_
      rw [e1]
      refine k_callV_v S dX0_addDate_43 v_X0_26 (gf_addNumber D hg (x := x / 30 % 12 + 1) (by omega) (by omega)) (by assumption) (fun h43 hp43 => ?_) rfl rfl (by decide) (by omega) (by omega) (Nat.le_of_ble_eq_true rfl)
      obtain ⟨hg6, hk6⟩ := hp43
      obtain ⟨u1, ⟨f3, u3, u3f⟩, -⟩ := id hg6
      have u3a := u3.1
      refine k_aload_n S dX0_addDate_46 rfl ?_
      refine k_getf S dX0_addDate_47 f_X0_14 (by assumption) (by rfl) ?_
      refine k_bipush S dX0_addDate_50 ?_
      refine k_callV_v S dX0_addDate_52 v_X0_38 (row_add D u3) (by assumption) (fun h52 hp52 => ?_) rfl rfl (by decide) (by omega) (by omega) (Nat.le_of_ble_eq_true rfl)
      have hg7 := hg6.chars hp52.2.keeps (RowL.add rfl (by rw [List.length_append]; omega) u3f hp52.1)
      have l3 : (cl ++ digits (x / 30 % 12 + 1) ++ [46]).length = cl.length + (digits (x / 30 % 12 + 1)).length + 1 := by simp only [List.length_append, List.length_cons, List.length_nil]
      obtain ⟨v1, -⟩ := id hg7
      refine k_aload_n S dX0_addDate_55 rfl ?_
      refine k_iload_n S dX0_addDate_56 rfl ?_
      refine k_bipush S dX0_addDate_57 ?_
      refine k_irem S dX0_addDate_59 (by omega) (by omega) ?_
      refine k_iconst S dX0_addDate_60 ?_
      refine k_iadd S dX0_addDate_61 ?_
      rw [e2]
      refine k_callV_v S dX0_addDate_62 v_X0_26 (gf_addNumber D hg7 (x := x % 30 + 1) (by omega) (by omega)) (by assumption) (fun h62 hp62 => ?_) rfl rfl (by decide) (by omega) (by omega) (Nat.le_of_ble_eq_true rfl)
      refine k_return S dX0_addDate_65 ?_ (by omega) (by omega)
      obtain ⟨hg8, hk8⟩ := hp62
      refine ⟨rfl, ?_, keeps.tr hk6 (keeps.tr hp52.2.keeps hk8)⟩
      rw [dateT, if_neg c3, if_neg c17, ← List.append_assoc, ← List.append_assoc]
      exact hg8
    · have e1 : ((x : Nat) : Int) % 7 = ((x % 7 : Nat) : Int) := by omega
      refine k_aload_n S dX0_addDate_20 rfl ?_
      refine k_iload_n S dX0_addDate_21 rfl ?_
      refine k_bipush S dX0_addDate_22 ?_
      refine k_callS_r S dX0_addDate_24 s_X0_29 (floorMod D (by omega) (by omega)) (fun h24 hp24 => ?_) rfl rfl (by decide) (by omega) (by omega) (Nat.le_of_ble_eq_true rfl)
      rw [hp24, e1]
      refine k_callV_v S dX0_addDate_27 v_X0_35 (gf_addWeekday D hg (x := x % 7) (by omega) hc) (by assumption) (fun h27 hp27 => ?_) rfl rfl (by decide) (by omega) (by omega) (Nat.le_of_ble_eq_true rfl)
      refine k_goto (tgt := 65) S dX0_addDate_30 (by decide) ?_
      refine k_return S dX0_addDate_65 ?_ (by omega) (by omega)
      refine ⟨rfl, ?_, hp27.2⟩
      rw [dateT, if_neg c3, if_pos c17]
      exact hp27.1
  · have l1 := dg_len 4 x hx
    refine k_aload_n S dX0_addDate_6 rfl ?_
    refine k_iload_n S dX0_addDate_7 rfl ?_
    refine k_callV_v S dX0_addDate_8 v_X0_26 (gf_addNumber D hg hx (by omega)) (by assumption) (fun h8 hp8 => ?_) rfl rfl (by decide) (by omega) (by omega) (Nat.le_of_ble_eq_true rfl)
    refine k_goto (tgt := 65) S dX0_addDate_11 (by decide) ?_
    refine k_return S dX0_addDate_65 ?_ (by omega) (by omega)
    refine ⟨rfl, ?_, hp8.2⟩
    rw [dateT, if_pos c3]
    exact hp8.1
/-- Gift() -/
theorem gf_init (D : DD) {h : GH} {g : Nat} {x y : GV} (hg : h g = some (gObj 0 [x, y])) : GMet D yX0_init cX0_init 1 none [] 3 4 4000 [gR (some g)] h (pv (fun h1 => ∃ rc ac rs as_ : Nat, h rc = none ∧ h ac = none ∧ h rs = none ∧ h as_ = none ∧ IsGift h1 g rc ac rs as_ [] [] ∧ keeps h h1 (fun q => q = g))) := by
  refine GMet.intro RX0 rfl (by decide) (gcats rfl) (Nat.le_of_ble_eq_true rfl) fun K KX S => ?_
  show K 0 [some _] [] _ 0 0
  refine k_aload_n S dX0_init_0 rfl ?_
  refine k_objInit S dX0_init_1 ml_X0_3 mo_inst mo_code (by decide) ?_ (Nat.le_of_ble_eq_true rfl)
  refine k_aload_n S dX0_init_4 rfl ?_
  refine k_new S dX0_init_5 n_X0_9 (by omega) (by omega) (fun q5 n5 l5 => ?_)
  refine k_dup S dX0_init_8 ?_
  refine k_sipush S dX0_init_9 ?_
  refine k_callI_v S dX0_init_12 i_X0_11 (row_init D (hput_s _ _ _) (k := 200) (by omega)) (fun h12 hp12 => ?_) rfl rfl (by decide) (by omega) (by omega) (Nat.le_of_ble_eq_true rfl)
  obtain ⟨ac, ha, hr, hk⟩ := hp12
  have es1 : g ≠ q5 := fun e => by subst e; rw [n5] at hg; cases hg
  have hs1 : h12 g = some (gObj 0 [x, y]) := hk _ _ (by rw [hput_n _ _ es1]; exact hg) es1
  have hk1 : keeps h h12 (fun q => q = g) := fun q u hq hn => hk _ _ (by rw [hput_n _ _ (fun e => by subst e; rw [n5] at hq; cases hq)]; exact hq) (fun e => by subst e; rw [n5] at hq; cases hq)
  have ha0 : h ac = none := by
    cases z : h ac with
    | none => rfl
    | some u =>
      by_cases e : ac = q5
      · subst e; rw [hput_s] at ha; cases ha
      · rw [hput_n _ _ e, z] at ha; cases ha
  refine k_putF S rfl dX0_init_15 ff_X0_14 (by assumption) (gfit_ref _ _) (Nat.le_of_ble_eq_true rfl) ?_
  refine k_aload_n S dX0_init_18 rfl ?_
  refine k_new S dX0_init_19 n_X0_9 (by omega) (by omega) (fun q19 n19 l19 => ?_)
  refine k_dup S dX0_init_22 ?_
  refine k_sipush S dX0_init_23 ?_
  refine k_callI_v S dX0_init_26 i_X0_11 (row_init D (hput_s _ _ _) (k := 200) (by omega)) (fun h26 hp26 => ?_) rfl rfl (by decide) (by omega) (by omega) (Nat.le_of_ble_eq_true rfl)
  obtain ⟨as_, ha2, hr2, hk2⟩ := hp26
  have er : ∀ q u, (hput h12 g (gObj 0 ([x, y].set 0 (gR (some q5))))) q = some u → q ≠ q19 := fun q u hq e => by subst e; rw [n19] at hq; cases hq
  have e1 : g ≠ q19 := er _ _ (hput_s _ _ _)
  have ne5 : q5 ≠ g := Ne.symm es1
  have nea : ac ≠ g := fun e => by subst e; rw [ha0] at hg; cases hg
  have e2 : q5 ≠ q19 := er _ _ (by rw [hput_n _ _ ne5]; exact hr.1)
  have e3 : ac ≠ q19 := er _ _ (by rw [hput_n _ _ nea]; exact hr.2.1)
  have g26 : h26 g = some (gObj 0 [gR (some q5), y]) := hk2 _ _ (by rw [hput_n _ _ e1]; exact hput_s _ _ _) e1
  have k26 : keeps h h26 (fun q => q = g) := fun q u hq hn => by
    have z : q ≠ q19 := er _ _ (by rw [hput_n _ _ hn]; exact hk1 _ _ hq hn)
    exact hk2 _ _ (by rw [hput_n _ _ z, hput_n _ _ hn]; exact hk1 _ _ hq hn) z
  have hr26 : IsRow h26 q5 ac 200 0 (fun _ => 0) := ⟨hk2 _ _ (by rw [hput_n _ _ e2, hput_n _ _ ne5]; exact hr.1) e2, hk2 _ _ (by rw [hput_n _ _ e3, hput_n _ _ nea]; exact hr.2.1) e3, hr.2.2⟩
  refine k_putF S rfl dX0_init_29 ff_X0_20 (by assumption) (gfit_ref _ _) (Nat.le_of_ble_eq_true rfl) ?_
  refine k_return S dX0_init_32 ?_ (by omega) (by omega)
  have n19h : h q19 = none := by
    cases z : h q19 with
    | none => rfl
    | some u =>
      have := hk1 _ _ z (Ne.symm e1)
      rw [hput_n _ _ (Ne.symm e1), this] at n19
      cases n19
  have has : ∀ q u, h q = some u → q ≠ as_ := fun q u hq e => by
    subst e
    by_cases z1 : q = q19
    · subst z1; rw [n19h] at hq; cases hq
    · rw [hput_n _ _ z1] at ha2
      by_cases z2 : q = g
      · subst z2; rw [hput_s] at ha2; cases ha2
      · rw [hput_n _ _ z2, hk1 _ _ hq z2] at ha2
        cases ha2
  have has2 : ac ≠ as_ := fun e => by
    subst e
    rw [hput_n _ _ e3, hput_n _ _ nea, hr.2.1] at ha2
    cases ha2
  have has0 : h as_ = none := by
    cases z : h as_ with
    | none => rfl
    | some u => exact absurd rfl (has _ _ z)
  have asg : as_ ≠ g := fun e => by subst e; rw [has0] at hg; cases hg
  refine ⟨rfl, q5, ac, q19, as_, n5, ha0, n19h, has0, ⟨hput_s _ _ _, ⟨_, hr26.kp (keeps.put (P := fun q => q = g) (Or.inl rfl)) ne5 nea, fun q hq => absurd hq (by simp)⟩, ⟨_, hr2.kp (keeps.put (P := fun q => q = g) (Or.inl rfl)) (Ne.symm e1) asg, fun q hq => absurd hq (by simp)⟩, e2, has2⟩, fun q u hq hn => ?_⟩
  rw [hput_n _ _ hn]
  exact k26 _ _ hq hn
