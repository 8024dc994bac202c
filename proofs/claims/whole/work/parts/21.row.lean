/-! Row: count and contents -/
def IsRow (h : GH) (r a cap n : Nat) (f : Nat → Int) : Prop := h r = some (gObj 3 [gR (some a), gI n]) ∧ h a = some (gArr 0 cap f) ∧ n ≤ cap ∧ cap ≤ 65536
/-- nothing but these two has changed -/
def fr2 (h h1 : GH) (r a : Nat) : Prop := ∀ q, q ≠ r → q ≠ a → h1 q = h q
theorem IsRow.ne {h : GH} {r a cap n : Nat} {f : Nat → Int} (hr : IsRow h r a cap n f) : a ≠ r := fun e => by
  have h1 := hr.1
  rw [← e, hr.2.1] at h1
  cases h1
theorem IsRow.putn {h : GH} {r a cap n n1 : Nat} {f : Nat → Int} {x : Int} (hr : IsRow h r a cap n f) (hx : x = n1) (hn : n1 ≤ cap) : IsRow (hput h r (gObj 3 [gR (some a), gI x])) r a cap n1 f ∧ fr2 h (hput h r (gObj 3 [gR (some a), gI x])) r a := by
  subst hx
  exact ⟨⟨hput_s _ _ _, by rw [hput_n _ _ hr.ne]; exact hr.2.1, hn, hr.2.2.2⟩, fun q h1 _ => hput_n _ _ h1⟩
theorem IsRow.puta {h : GH} {r a cap n : Nat} {f f1 : Nat → Int} (hr : IsRow h r a cap n f) : IsRow (hput h a (gArr 0 cap f1)) r a cap n f1 ∧ fr2 h (hput h a (gArr 0 cap f1)) r a :=
  ⟨⟨by rw [hput_n _ _ (Ne.symm hr.ne)]; exact hr.1, hput_s _ _ _, hr.2.2.1, hr.2.2.2⟩, fun q _ h2 => hput_n _ _ h2⟩
theorem fr2.tr {h h1 h2 : GH} {r a : Nat} (e1 : fr2 h h1 r a) (e2 : fr2 h1 h2 r a) : fr2 h h2 r a := fun q g1 g2 => (e2 q g1 g2).trans (e1 q g1 g2)
theorem fr2.rf {h : GH} {r a : Nat} : fr2 h h r a := fun _ _ _ => rfl
/-- count() -/
theorem row_count (D : DD) {h : GH} {r a cap n : Nat} {f : Nat → Int} (hr : IsRow h r a cap n f) : GMet D yX3_count cX3_count 1 (some .int) [] 1 0 0 [gR (some r)] h (pr (gI n) (fun h1 => h1 = h)) := by
  obtain ⟨h1, h2, h3, h4⟩ := id hr
  refine GMet.intro RX3 rfl (by decide) (gcats rfl) (Nat.le_of_ble_eq_true rfl) fun K KX S => ?_
  show K 0 [some _] [] _ 0 0
  refine k_aload_n S dX3_count_0 rfl ?_
  refine k_getf S dX3_count_1 f_X3_7 (by assumption) (by rfl) ?_
  exact k_ireturn S dX3_count_4 ⟨rfl, rfl⟩ (by omega) (by omega)
/-- isEmpty() -/
theorem row_isEmpty (D : DD) {h : GH} {r a cap n : Nat} {f : Nat → Int} (hr : IsRow h r a cap n f) : GMet D yX3_isEmpty cX3_isEmpty 1 (some .boolean) [] 1 0 0 [gR (some r)] h (pr (gI (b01 (n = 0))) (fun h1 => h1 = h)) := by
  obtain ⟨h1, h2, h3, h4⟩ := id hr
  refine GMet.intro RX3 rfl (by decide) (gcats rfl) (Nat.le_of_ble_eq_true rfl) fun K KX S => ?_
  show K 0 [some _] [] _ 0 0
  refine k_aload_n S dX3_isEmpty_0 rfl ?_
  refine k_getf S dX3_isEmpty_1 f_X3_7 (by assumption) (by rfl) ?_
  refine k_if_gt (tgt := 11) S dX3_isEmpty_4 (by decide) (by omega) (fun c4 => ?_) (fun c4 => ?_)
  · refine k_iconst S dX3_isEmpty_11 ?_
    exact k_zreturn S dX3_isEmpty_12 (by omega) ⟨by rw [b01_f (by omega)], rfl⟩ (by omega) (by omega)
  · refine k_iconst S dX3_isEmpty_7 ?_
    refine k_goto (tgt := 12) S dX3_isEmpty_8 (by decide) ?_
    exact k_zreturn S dX3_isEmpty_12 (by omega) ⟨by rw [b01_t (by omega)], rfl⟩ (by omega) (by omega)
/-- isFull() -/
theorem row_isFull (D : DD) {h : GH} {r a cap n : Nat} {f : Nat → Int} (hr : IsRow h r a cap n f) : GMet D yX3_isFull cX3_isFull 1 (some .boolean) [] 1 0 0 [gR (some r)] h (pr (gI (b01 (n = cap))) (fun h1 => h1 = h)) := by
  obtain ⟨h1, h2, h3, h4⟩ := id hr
  refine GMet.intro RX3 rfl (by decide) (gcats rfl) (Nat.le_of_ble_eq_true rfl) fun K KX S => ?_
  show K 0 [some _] [] _ 0 0
  refine k_aload_n S dX3_isFull_0 rfl ?_
  refine k_getf S dX3_isFull_1 f_X3_7 (by assumption) (by rfl) ?_
  refine k_aload_n S dX3_isFull_4 rfl ?_
  refine k_getf S dX3_isFull_5 f_X3_19 (by assumption) (by rfl) ?_
  refine k_alen S dX3_isFull_8 (by assumption) (by decide) ?_
  refine k_icmp_lt (tgt := 16) S dX3_isFull_9 (by decide) (by omega) (by omega) (fun c9 => ?_) (fun c9 => ?_)
  · refine k_iconst S dX3_isFull_16 ?_
    exact k_zreturn S dX3_isFull_17 (by omega) ⟨by rw [b01_f (by omega)], rfl⟩ (by omega) (by omega)
  · refine k_iconst S dX3_isFull_12 ?_
    refine k_goto (tgt := 17) S dX3_isFull_13 (by decide) ?_
    exact k_zreturn S dX3_isFull_17 (by omega) ⟨by rw [b01_t (by omega)], rfl⟩ (by omega) (by omega)
/-- has(i) -/
theorem row_has (D : DD) {h : GH} {r a cap n : Nat} {f : Nat → Int} (hr : IsRow h r a cap n f) {i : Int} (hi : inR i) : GMet D yX3_has cX3_has 2 (some .boolean) [] 1 0 0 [gR (some r), gI i] h (pr (gI (b01 (0 ≤ i ∧ i < n))) (fun h1 => h1 = h)) := by
  obtain ⟨h1, h2, h3, h4⟩ := id hr
  refine GMet.intro RX3 rfl (by decide) (gcats rfl) (Nat.le_of_ble_eq_true rfl) fun K KX S => ?_
  show K 0 [some _, some _] [] _ 0 0
  refine k_iload_n S dX3_has_0 rfl ?_
  refine k_if_lt (tgt := 25) S dX3_has_1 (by decide) (by omega) (fun c1 => ?_) (fun c1 => ?_)
  · refine k_iconst S dX3_has_25 ?_
    exact k_zreturn S dX3_has_26 (by omega) ⟨by rw [b01_f (by omega)], rfl⟩ (by omega) (by omega)
  · refine k_iload_n S dX3_has_4 rfl ?_
    refine k_aload_n S dX3_has_5 rfl ?_
    refine k_getf S dX3_has_6 f_X3_7 (by assumption) (by rfl) ?_
    refine k_icmp_ge (tgt := 25) S dX3_has_9 (by decide) (by omega) (by omega) (fun c9 => ?_) (fun c9 => ?_)
    · refine k_iconst S dX3_has_25 ?_
      exact k_zreturn S dX3_has_26 (by omega) ⟨by rw [b01_f (by omega)], rfl⟩ (by omega) (by omega)
    · refine k_iload_n S dX3_has_12 rfl ?_
      refine k_aload_n S dX3_has_13 rfl ?_
      refine k_getf S dX3_has_14 f_X3_19 (by assumption) (by rfl) ?_
      refine k_alen S dX3_has_17 (by assumption) (by decide) ?_
      refine k_icmp_ge (tgt := 25) S dX3_has_18 (by decide) (by omega) (by omega) (fun c18 => ?_) (fun c18 => ?_)
      · omega
      · refine k_iconst S dX3_has_21 ?_
        refine k_goto (tgt := 26) S dX3_has_22 (by decide) ?_
        exact k_zreturn S dX3_has_26 (by omega) ⟨by rw [b01_t (by omega)], rfl⟩ (by omega) (by omega)
/-- at(i) -/
theorem row_at (D : DD) {h : GH} {r a cap n : Nat} {f : Nat → Int} (hr : IsRow h r a cap n f) {i : Int} (hi : inR i) : GMet D yX3_at cX3_at 2 (some .int) [] 2 0 0 [gR (some r), gI i] h (pr (gI (if 0 ≤ i ∧ i < n then f i.toNat else 0)) (fun h1 => h1 = h)) := by
  obtain ⟨h1, h2, h3, h4⟩ := id hr
  refine GMet.intro RX3 rfl (by decide) (gcats rfl) (Nat.le_of_ble_eq_true rfl) fun K KX S => ?_
  show K 0 [some _, some _] [] _ 0 0
  refine k_aload_n S dX3_at_0 rfl ?_
  refine k_iload_n S dX3_at_1 rfl ?_
  refine k_callV_r S dX3_at_2 v_X3_23 (row_has D hr hi) (by assumption) (fun h2 hp2 => ?_) rfl rfl (by decide) (by omega) (by omega) (by decide)
  subst hp2
  refine k_if_eq (tgt := 17) S dX3_at_5 (by decide) (b01_r _) (fun c5 => ?_) (fun c5 => ?_)
  · refine k_iconst S dX3_at_17 ?_
    exact k_ireturn S dX3_at_18 ⟨by rw [if_neg (b01_0.mp c5)], rfl⟩ (by omega) (by omega)
  · have c6 := b01_n.mp c5
    refine k_aload_n S dX3_at_8 rfl ?_
    refine k_getf S dX3_at_9 f_X3_19 (by assumption) (by rfl) ?_
    refine k_iload_n S dX3_at_12 rfl ?_
    refine k_iaload S dX3_at_13 (by assumption) (by omega) ?_
    refine k_goto (tgt := 18) S dX3_at_14 (by decide) ?_
    exact k_ireturn S dX3_at_18 ⟨by rw [if_pos c6], rfl⟩ (by omega) (by omega)
/-- set(i, v) -/
theorem row_set (D : DD) {h : GH} {r a cap n : Nat} {f : Nat → Int} (hr : IsRow h r a cap n f) {i v : Int} (hi : inR i) : GMet D yX3_set cX3_set 3 none [] 2 0 0 [gR (some r), gI i, gI v] h (pv (fun h1 => IsRow h1 r a cap n (if 0 ≤ i ∧ i < n then gupd f i.toNat v else f) ∧ fr2 h h1 r a)) := by
  obtain ⟨h1, h2, h3, h4⟩ := id hr
  refine GMet.intro RX3 rfl (by decide) (gcats rfl) (Nat.le_of_ble_eq_true rfl) fun K KX S => ?_
  show K 0 [some _, some _, some _] [] _ 0 0
  refine k_aload_n S dX3_set_0 rfl ?_
  refine k_iload_n S dX3_set_1 rfl ?_
  refine k_callV_r S dX3_set_2 v_X3_23 (row_has D hr hi) (by assumption) (fun h2 hp2 => ?_) rfl rfl (by decide) (by omega) (by omega) (by decide)
  subst hp2
  refine k_if_eq (tgt := 15) S dX3_set_5 (by decide) (b01_r _) (fun c5 => ?_) (fun c5 => ?_)
  · exact k_return S dX3_set_15 ⟨rfl, by rw [if_neg (b01_0.mp c5)]; exact ⟨hr, fr2.rf⟩⟩ (by omega) (by omega)
  · have c6 := b01_n.mp c5
    refine k_aload_n S dX3_set_8 rfl ?_
    refine k_getf S dX3_set_9 f_X3_19 (by assumption) (by rfl) ?_
    refine k_iload_n S dX3_set_12 rfl ?_
    refine k_iload_n S dX3_set_13 rfl ?_
    refine k_iastore S dX3_set_14 (by assumption) (by omega) ?_
    exact k_return S dX3_set_15 ⟨rfl, by rw [if_pos c6]; exact hr.puta⟩ (by omega) (by omega)
/-- empty() -/
theorem row_empty (D : DD) {h : GH} {r a cap n : Nat} {f : Nat → Int} (hr : IsRow h r a cap n f) : GMet D yX3_empty cX3_empty 1 none [] 1 0 0 [gR (some r)] h (pv (fun h1 => IsRow h1 r a cap 0 f ∧ fr2 h h1 r a)) := by
  obtain ⟨h1, h2, h3, h4⟩ := id hr
  refine GMet.intro RX3 rfl (by decide) (gcats rfl) (Nat.le_of_ble_eq_true rfl) fun K KX S => ?_
  show K 0 [some _] [] _ 0 0
  refine k_aload_n S dX3_empty_0 rfl ?_
  refine k_iconst S dX3_empty_1 ?_
  refine k_putf S dX3_empty_2 f_X3_7 (by assumption) (gfit_int _) (Nat.le_of_ble_eq_true rfl) ?_
  exact k_return S dX3_empty_5 ⟨rfl, hr.putn rfl (Nat.zero_le _)⟩ (by omega) (by omega)
/-- add(v) -/
theorem row_add (D : DD) {h : GH} {r a cap n : Nat} {f : Nat → Int} (hr : IsRow h r a cap n f) {v : Int} : GMet D yX3_add cX3_add 2 none [] 1 0 0 [gR (some r), gI v] h (pv (fun h1 => IsRow h1 r a cap (if n < cap then n + 1 else n) (if n < cap then gupd f n v else f) ∧ fr2 h h1 r a)) := by
  obtain ⟨h1, h2, h3, h4⟩ := id hr
  refine GMet.intro RX3 rfl (by decide) (gcats rfl) (Nat.le_of_ble_eq_true rfl) fun K KX S => ?_
  show K 0 [some _, some _] [] _ 0 0
  refine k_aload_n S dX3_add_0 rfl ?_
  refine k_getf S dX3_add_1 f_X3_7 (by assumption) (by rfl) ?_
  refine k_if_lt (tgt := 39) S dX3_add_4 (by decide) (by omega) (fun c4 => ?_) (fun c4 => ?_)
  · omega
  · refine k_aload_n S dX3_add_7 rfl ?_
    refine k_getf S dX3_add_8 f_X3_7 (by assumption) (by rfl) ?_
    refine k_aload_n S dX3_add_11 rfl ?_
    refine k_getf S dX3_add_12 f_X3_19 (by assumption) (by rfl) ?_
    refine k_alen S dX3_add_15 (by assumption) (by decide) ?_
    refine k_icmp_ge (tgt := 39) S dX3_add_16 (by decide) (by omega) (by omega) (fun c16 => ?_) (fun c16 => ?_)
    · exact k_return S dX3_add_39 ⟨rfl, by rw [if_neg (by omega), if_neg (by omega)]; exact ⟨hr, fr2.rf⟩⟩ (by omega) (by omega)
    · refine k_aload_n S dX3_add_19 rfl ?_
      refine k_getf S dX3_add_20 f_X3_19 (by assumption) (by rfl) ?_
      refine k_aload_n S dX3_add_23 rfl ?_
      refine k_getf S dX3_add_24 f_X3_7 (by assumption) (by rfl) ?_
      refine k_iload_n S dX3_add_27 rfl ?_
      refine k_iastore S dX3_add_28 (by assumption) (by omega) ?_
      have e1 : ((n : Int)).toNat = n := by omega
      rw [e1]
      obtain ⟨g1, g2⟩ := hr.puta (f1 := gupd f n v)
      obtain ⟨g3, -⟩ := id g1
      refine k_aload_n S dX3_add_29 rfl ?_
      refine k_dup S dX3_add_30 ?_
      refine k_getf S dX3_add_31 f_X3_7 (by assumption) (by rfl) ?_
      refine k_iconst S dX3_add_34 ?_
      refine k_iadd S dX3_add_35 ?_
      refine k_putf S dX3_add_36 f_X3_7 (by assumption) (gfit_int _) (Nat.le_of_ble_eq_true rfl) ?_
      refine k_return S dX3_add_39 ?_ (by omega) (by omega)
      obtain ⟨g4, g5⟩ := g1.putn (n1 := n + 1) (x := (n : Int) + 1) (by omega) (by omega)
      rw [if_pos (by omega), if_pos (by omega)]
      exact ⟨rfl, g4, g2.tr g5⟩
