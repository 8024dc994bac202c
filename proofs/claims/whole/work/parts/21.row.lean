/-! Row: count and contents -/
def IsRow (h : GH) (r a cap n : Nat) (f : Nat → Int) : Prop := h r = some (gObj 3 [gR (some a), gI n]) ∧ h a = some (gArr 0 cap f) ∧ n ≤ cap ∧ cap ≤ 65536
/-- nothing but these two has changed -/
def fr2 (h h1 : GH) (r a : Nat) : Prop := ∀ q, q ≠ r → q ≠ a → h1 q = h q
theorem IsRow.ne {h : GH} {r a cap n : Nat} {f : Nat → Int} (hr : IsRow h r a cap n f) : a ≠ r := fun e => by
  have h1 := hr.1
  rw [← e, hr.2.1] at h1
  cases h1
theorem IsRow.putn {h : GH} {r a cap n n1 : Nat} {f : Nat → Int} {x : Int} (hr : IsRow h r a cap n f) (hx : x = n1) (hn : n1 ≤ cap) : IsRow (hput h r (gObj 3 [gR (some a), gI x])) r a cap n1 f ∧ fr2 h (hput h r (gObj 3 [gR (some a), gI x])) r a := by
  subst hx
  exact ⟨⟨hput_s _ _ _, by rw [hput_n _ _ hr.ne]; exact hr.2.1, hn, hr.2.2.2⟩, fun q h1 _ => hput_n _ _ h1⟩
theorem IsRow.puta {h : GH} {r a cap n : Nat} {f f1 : Nat → Int} (hr : IsRow h r a cap n f) : IsRow (hput h a (gArr 0 cap f1)) r a cap n f1 ∧ fr2 h (hput h a (gArr 0 cap f1)) r a :=
  ⟨⟨by rw [hput_n _ _ (Ne.symm hr.ne)]; exact hr.1, hput_s _ _ _, hr.2.2.1, hr.2.2.2⟩, fun q _ h2 => hput_n _ _ h2⟩
theorem fr2.tr {h h1 h2 : GH} {r a : Nat} (e1 : fr2 h h1 r a) (e2 : fr2 h1 h2 r a) : fr2 h h2 r a := fun q g1 g2 => (e2 q g1 g2).trans (e1 q g1 g2)
theorem fr2.rf {h : GH} {r a : Nat} : fr2 h h r a := fun _ _ _ => rfl
/-- count() -/
theorem row_count (D : DD) {h : GH} {r a cap n : Nat} {f : Nat → Int} (hr : IsRow h r a cap n f) : GMet D yX3_count cX3_count 1 (some .int) [] 1 0 0 [gR (some r)] h (pr (gI n) (fun h1 => h1 = h)) := by
  obtain ⟨h1, h2, h3, h4⟩ := id hr
  refine GMet.intro RX3 rfl (by decide) (gcats rfl) (Nat.le_of_ble_eq_true rfl) fun K KX S => ?_
  show K 0 [some _] [] _ 0 0
  refine k_aload_n S dX3_count_0 rfl ?_
  refine k_getf S dX3_count_1 f_X3_7 (by assumption) (by rfl) ?_
  exact k_ireturn S dX3_count_4 ⟨rfl, rfl⟩ (by omega) (by omega)
/-- isEmpty() -/
theorem row_isEmpty (D : DD) {h : GH} {r a cap n : Nat} {f : Nat → Int} (hr : IsRow h r a cap n f) : GMet D yX3_isEmpty cX3_isEmpty 1 (some .boolean) [] 1 0 0 [gR (some r)] h (pr (gI (b01 (n = 0))) (fun h1 => h1 = h)) := by
  obtain ⟨h1, h2, h3, h4⟩ := id hr
  refine GMet.intro RX3 rfl (by decide) (gcats rfl) (Nat.le_of_ble_eq_true rfl) fun K KX S => ?_
  show K 0 [some _] [] _ 0 0
  refine k_aload_n S dX3_isEmpty_0 rfl ?_
  refine k_getf S dX3_isEmpty_1 f_X3_7 (by assumption) (by rfl) ?_
  refine k_if_gt (tgt := 11) S dX3_isEmpty_4 (by decide) (by omega) (fun c4 => ?_) (fun c4 => ?_)
  · refine k_iconst S dX3_isEmpty_11 ?_
    exact k_zreturn S dX3_isEmpty_12 (by omega) ⟨by rw [b01_f (by omega)], rfl⟩ (by omega) (by omega)
  · refine k_iconst S dX3_isEmpty_7 ?_
    refine k_goto (tgt := 12) S dX3_isEmpty_8 (by decide) ?_
    exact k_zreturn S dX3_isEmpty_12 (by omega) ⟨by rw [b01_t (by omega)], rfl⟩ (by omega) (by omega)
/-- isFull() -/
theorem row_isFull (D : DD) {h : GH} {r a cap n : Nat} {f : Nat → Int} (hr : IsRow h r a cap n f) : GMet D yX3_isFull cX3_isFull 1 (some .boolean) [] 1 0 0 [gR (some r)] h (pr (gI (b01 (n = cap))) (fun h1 => h1 = h)) := by
  obtain ⟨h1, h2, h3, h4⟩ := id hr
  refine GMet.intro RX3 rfl (by decide) (gcats rfl) (Nat.le_of_ble_eq_true rfl) fun K KX S => ?_
  show K 0 [some _] [] _ 0 0
  refine k_aload_n S dX3_isFull_0 rfl ?_
  refine k_getf S dX3_isFull_1 f_X3_7 (by assumption) (by rfl) ?_
  refine k_aload_n S dX3_isFull_4 rfl ?_
  refine k_getf S dX3_isFull_5 f_X3_19 (by assumption) (by rfl) ?_
  refine k_alen S dX3_isFull_8 (by assumption) (by decide) ?_
  refine k_icmp_lt (tgt := 16) S dX3_isFull_9 (by decide) (by omega) (by omega) (fun c9 => ?_) (fun c9 => ?_)
  · refine k_iconst S dX3_isFull_16 ?_
    exact k_zreturn S dX3_isFull_17 (by omega) ⟨by rw [b01_f (by omega)], rfl⟩ (by omega) (by omega)
  · refine k_iconst S dX3_isFull_12 ?_
    refine k_goto (tgt := 17) S dX3_isFull_13 (by decide) ?_
    exact k_zreturn S dX3_isFull_17 (by omega) ⟨by rw [b01_t (by omega)], rfl⟩ (by omega) (by omega)
/-- has(i) -/
theorem row_has (D : DD) {h : GH} {r a cap n : Nat} {f : Nat → Int} (hr : IsRow h r a cap n f) {i : Int} (hi : inR i) : GMet D yX3_has cX3_has 2 (some .boolean) [] 1 0 0 [gR (some r), gI i] h (pr (gI (b01 (0 ≤ i ∧ i < n))) (fun h1 => h1 = h)) := by
  obtain ⟨h1, h2, h3, h4⟩ := id hr
  refine GMet.intro RX3 rfl (by decide) (gcats rfl) (Nat.le_of_ble_eq_true rfl) fun K KX S => ?_
  show K 0 [some _, some _] [] _ 0 0
  refine k_iload_n S dX3_has_0 rfl ?_
  refine k_if_lt (tgt := 25) S dX3_has_1 (by decide) (by omega) (fun c1 => ?_) (fun c1 => ?_)
  · refine k_iconst S dX3_has_25 ?_
    exact k_zreturn S dX3_has_26 (by omega) ⟨by rw [b01_f (by omega)], rfl⟩ (by omega) (by omega)
  · refine k_iload_n S dX3_has_4 rfl ?_
    refine k_aload_n S dX3_has_5 rfl ?_
    refine k_getf S dX3_has_6 f_X3_7 (by assumption) (by rfl) ?_
    refine k_icmp_ge (tgt := 25) S dX3_has_9 (by decide) (by omega) (by omega) (fun c9 => ?_) (fun c9 => ?_)
    · refine k_iconst S dX3_has_25 ?_
      exact k_zreturn S dX3_has_26 (by omega) ⟨by rw [b01_f (by omega)], rfl⟩ (by omega) (by omega)
    · refine k_iload_n S dX3_has_12 rfl ?_
      refine k_aload_n S dX3_has_13 rfl ?_
      refine k_getf S dX3_has_14 f_X3_19 (by assumption) (by rfl) ?_
      refine k_alen S dX3_has_17 (by assumption) (by decide) ?_
      refine k_icmp_ge (tgt := 25) S dX3_has_18 (by decide) (by omega) (by omega) (fun c18 => ?_) (fun c18 => ?_)
      · omega
      · refine k_iconst S dX3_has_21 ?_
        refine k_goto (tgt := 26) S dX3_has_22 (by decide) ?_
        exact k_zreturn S dX3_has_26 (by omega) ⟨by rw [b01_t (by omega)], rfl⟩ (by omega) (by omega)
/-- at(i) -/
theorem row_at (D : DD) {h : GH} {r a cap n : Nat} {f : Nat → Int} (hr : IsRow h r a cap n f) {i : Int} (hi : inR i) : GMet D yX3_at cX3_at 2 (some .int) [] 2 0 0 [gR (some r), gI i] h (pr (gI (if 0 ≤ i ∧ i < n then f i.toNat else 0)) (fun h1 => h1 = h)) := by
  obtain ⟨h1, h2, h3, h4⟩ := id hr
  refine GMet.intro RX3 rfl (by decide) (gcats rfl) (Nat.le_of_ble_eq_true rfl) fun K KX S => ?_
  show K 0 [some _, some _] [] _ 0 0
  refine k_aload_n S dX3_at_0 rfl ?_
  refine k_iload_n S dX3_at_1 rfl ?_
  refine k_callV_r S dX3_at_2 v_X3_23 (row_has D hr hi) (by assumption) (fun h2 hp2 => ?_) rfl rfl (by decide) (by omega) (by omega) (Nat.le_of_ble_eq_true rfl)
  rw [hp2]
  refine k_if_eq (tgt := 17) S dX3_at_5 (by decide) (b01_r _) (fun c5 => ?_) (fun c5 => ?_)
  · refine k_iconst S dX3_at_17 ?_
    exact k_ireturn S dX3_at_18 ⟨by rw [if_neg (b01_0.mp c5)], rfl⟩ (by omega) (by omega)
  · have c6 := b01_n.mp c5
    refine k_aload_n S dX3_at_8 rfl ?_
    refine k_getf S dX3_at_9 f_X3_19 (by assumption) (by rfl) ?_
    refine k_iload_n S dX3_at_12 rfl ?_
    refine k_iaload S dX3_at_13 (by assumption) (by omega) ?_
    refine k_goto (tgt := 18) S dX3_at_14 (by decide) ?_
    exact k_ireturn S dX3_at_18 ⟨by rw [if_pos c6], rfl⟩ (by omega) (by omega)
/-- set(i, v) -/
theorem row_set (D : DD) {h : GH} {r a cap n : Nat} {f : Nat → Int} (hr : IsRow h r a cap n f) {i v : Int} (hi : inR i) : GMet D yX3_set cX3_set 3 none [] 2 0 0 [gR (some r), gI i, gI v] h (pv (fun h1 => IsRow h1 r a cap n (if 0 ≤ i ∧ i < n then gupd f i.toNat v else f) ∧ fr2 h h1 r a)) := by
  obtain ⟨h1, h2, h3, h4⟩ := id hr
  refine GMet.intro RX3 rfl (by decide) (gcats rfl) (Nat.le_of_ble_eq_true rfl) fun K KX S => ?_
  show K 0 [some _, some _, some _] [] _ 0 0
  refine k_aload_n S dX3_set_0 rfl ?_
  refine k_iload_n S dX3_set_1 rfl ?_
  refine k_callV_r S dX3_set_2 v_X3_23 (row_has D hr hi) (by assumption) (fun h2 hp2 => ?_) rfl rfl (by decide) (by omega) (by omega) (Nat.le_of_ble_eq_true rfl)
  rw [hp2]
  refine k_if_eq (tgt := 15) S dX3_set_5 (by decide) (b01_r _) (fun c5 => ?_) (fun c5 => ?_)
  · exact k_return S dX3_set_15 ⟨rfl, by rw [if_neg (b01_0.mp c5)]; exact ⟨hr, fr2.rf⟩⟩ (by omega) (by omega)
  · have c6 := b01_n.mp c5
    refine k_aload_n S dX3_set_8 rfl ?_
    refine k_getf S dX3_set_9 f_X3_19 (by assumption) (by rfl) ?_
    refine k_iload_n S dX3_set_12 rfl ?_
    refine k_iload_n S dX3_set_13 rfl ?_
    refine k_iastore S dX3_set_14 (by assumption) (by omega) ?_
    exact k_return S dX3_set_15 ⟨rfl, by rw [if_pos c6]; exact hr.puta⟩ (by omega) (by omega)
/-- empty() -/
theorem row_empty (D : DD) {h : GH} {r a cap n : Nat} {f : Nat → Int} (hr : IsRow h r a cap n f) : GMet D yX3_empty cX3_empty 1 none [] 1 0 0 [gR (some r)] h (pv (fun h1 => IsRow h1 r a cap 0 f ∧ fr2 h h1 r a)) := by
  obtain ⟨h1, h2, h3, h4⟩ := id hr
  refine GMet.intro RX3 rfl (by decide) (gcats rfl) (Nat.le_of_ble_eq_true rfl) fun K KX S => ?_
  show K 0 [some _] [] _ 0 0
  refine k_aload_n S dX3_empty_0 rfl ?_
  refine k_iconst S dX3_empty_1 ?_
  refine k_putf S dX3_empty_2 f_X3_7 (by assumption) (gfit_int _) (Nat.le_of_ble_eq_true rfl) ?_
  exact k_return S dX3_empty_5 ⟨rfl, hr.putn rfl (Nat.zero_le _)⟩ (by omega) (by omega)
/-- add(v) -/
theorem row_add (D : DD) {h : GH} {r a cap n : Nat} {f : Nat → Int} (hr : IsRow h r a cap n f) {v : Int} : GMet D yX3_add cX3_add 2 none [] 1 0 0 [gR (some r), gI v] h (pv (fun h1 => IsRow h1 r a cap (if n < cap then n + 1 else n) (if n < cap then gupd f n v else f) ∧ fr2 h h1 r a)) := by
  obtain ⟨h1, h2, h3, h4⟩ := id hr
  refine GMet.intro RX3 rfl (by decide) (gcats rfl) (Nat.le_of_ble_eq_true rfl) fun K KX S => ?_
  show K 0 [some _, some _] [] _ 0 0
  refine k_aload_n S dX3_add_0 rfl ?_
  refine k_getf S dX3_add_1 f_X3_7 (by assumption) (by rfl) ?_
  refine k_if_lt (tgt := 39) S dX3_add_4 (by decide) (by omega) (fun c4 => ?_) (fun c4 => ?_)
  · omega
  · refine k_aload_n S dX3_add_7 rfl ?_
    refine k_getf S dX3_add_8 f_X3_7 (by assumption) (by rfl) ?_
    refine k_aload_n S dX3_add_11 rfl ?_
    refine k_getf S dX3_add_12 f_X3_19 (by assumption) (by rfl) ?_
    refine k_alen S dX3_add_15 (by assumption) (by decide) ?_
    refine k_icmp_ge (tgt := 39) S dX3_add_16 (by decide) (by omega) (by omega) (fun c16 => ?_) (fun c16 => ?_)
    · exact k_return S dX3_add_39 ⟨rfl, by rw [if_neg (by omega), if_neg (by omega)]; exact ⟨hr, fr2.rf⟩⟩ (by omega) (by omega)
    · refine k_aload_n S dX3_add_19 rfl ?_
      refine k_getf S dX3_add_20 f_X3_19 (by assumption) (by rfl) ?_
      refine k_aload_n S dX3_add_23 rfl ?_
      refine k_getf S dX3_add_24 f_X3_7 (by assumption) (by rfl) ?_
      refine k_iload_n S dX3_add_27 rfl ?_
      refine k_iastore S dX3_add_28 (by assumption) (by omega) ?_
      have e1 : ((n : Int)).toNat = n := by omega
      rw [e1]
      obtain ⟨g1, g2⟩ := hr.puta (f1 := gupd f n v)
      obtain ⟨g3, -⟩ := id g1
      refine k_aload_n S dX3_add_29 rfl ?_
      refine k_dup S dX3_add_30 ?_
      refine k_getf S dX3_add_31 f_X3_7 (by assumption) (by rfl) ?_
      refine k_iconst S dX3_add_34 ?_
      refine k_iadd S dX3_add_35 ?_
      refine k_putf S dX3_add_36 f_X3_7 (by assumption) (gfit_int _) (Nat.le_of_ble_eq_true rfl) ?_
      refine k_return S dX3_add_39 ?_ (by omega) (by omega)
      obtain ⟨g4, g5⟩ := g1.putn (n1 := n + 1) (x := (n : Int) + 1) (by omega) (by omega)
      rw [if_pos (by omega), if_pos (by omega)]
      exact ⟨rfl, g4, g2.tr g5⟩
def insF (f : Nat → Int) (i n : Nat) (v : Int) : Nat → Int := gupd (fun q => if i < q ∧ q ≤ n then f (q - 1) else f q) i v
def remF (f : Nat → Int) (i n : Nat) : Nat → Int := fun q => if i ≤ q ∧ q + 1 < n then f (q + 1) else f q
/-- insert(i, v) -/
theorem row_insert (D : DD) {h : GH} {r a cap n : Nat} {f : Nat → Int} (hr : IsRow h r a cap n f) {i v : Int} (hi : inR i) : GMet D yX3_insert cX3_insert 4 none [] 2 0 0 [gR (some r), gI i, gI v] h (pv (fun h1 => IsRow h1 r a cap (if 0 ≤ i ∧ i ≤ n ∧ n < cap then n + 1 else n) (if 0 ≤ i ∧ i ≤ n ∧ n < cap then insF f i.toNat n v else f) ∧ fr2 h h1 r a)) := by
  obtain ⟨h1, h2, h3, h4⟩ := id hr
  have no : ¬ (0 ≤ i ∧ i ≤ n ∧ n < cap) → pv (fun h1 => IsRow h1 r a cap (if 0 ≤ i ∧ i ≤ n ∧ n < cap then n + 1 else n) (if 0 ≤ i ∧ i ≤ n ∧ n < cap then insF f i.toNat n v else f) ∧ fr2 h h1 r a) (.inl none) h := fun z => by
    refine ⟨rfl, ?_⟩
    rw [if_neg z, if_neg z]
    exact ⟨hr, fr2.rf⟩
  refine GMet.intro RX3 rfl (by decide) (gcats rfl) (Nat.le_of_ble_eq_true rfl) fun K KX S => ?_
  show K 0 [some _, some _, some _, none] [] _ 0 0
  refine k_iload_n S dX3_insert_0 rfl ?_
  refine k_if_lt (tgt := 24) S dX3_insert_1 (by decide) (by omega) (fun c1 => ?_) (fun c1 => ?_)
  · exact k_return S dX3_insert_24 (no (by omega)) (by omega) (by omega)
  · refine k_iload_n S dX3_insert_4 rfl ?_
    refine k_aload_n S dX3_insert_5 rfl ?_
    refine k_getf S dX3_insert_6 f_X3_7 (by assumption) (by rfl) ?_
    refine k_icmp_gt (tgt := 24) S dX3_insert_9 (by decide) (by omega) (by omega) (fun c9 => ?_) (fun c9 => ?_)
    · exact k_return S dX3_insert_24 (no (by omega)) (by omega) (by omega)
    · refine k_aload_n S dX3_insert_12 rfl ?_
      refine k_getf S dX3_insert_13 f_X3_7 (by assumption) (by rfl) ?_
      refine k_aload_n S dX3_insert_16 rfl ?_
      refine k_getf S dX3_insert_17 f_X3_19 (by assumption) (by rfl) ?_
      refine k_alen S dX3_insert_20 (by assumption) (by decide) ?_
      refine k_icmp_lt (tgt := 25) S dX3_insert_21 (by decide) (by omega) (by omega) (fun c21 => ?_) (fun c21 => ?_)
      · have hy : 0 ≤ i ∧ i ≤ n ∧ n < cap := by omega
        obtain ⟨k, rfl⟩ := Int.eq_ofNat_of_zero_le hy.1
        have loop : ∀ (d j : Nat) (h5 : GH), j = k + d → j ≤ n → IsRow h5 r a cap n (fun q => if j < q ∧ q ≤ n then f (q - 1) else f q) → fr2 h h5 r a → K 30 [some (gR (some r)), some (gI (k : Nat)), some (gI v), some (gI (j : Nat))] [] h5 0 0 := by
          intro d
          induction d with
          | zero =>
            intro j h5 hj hn hr5 hf5
            obtain ⟨g1, g2, -, -⟩ := id hr5
            refine k_iload_n S dX3_insert_30 rfl ?_
            refine k_iload_n S dX3_insert_31 rfl ?_
            refine k_icmp_le (tgt := 55) S dX3_insert_32 (by decide) (by omega) (by omega) (fun c32 => ?_) (fun c32 => ?_)
            · refine k_aload_n S dX3_insert_55 rfl ?_
              refine k_getf S dX3_insert_56 f_X3_19 (by assumption) (by rfl) ?_
              refine k_iload_n S dX3_insert_59 rfl ?_
              refine k_iload_n S dX3_insert_60 rfl ?_
              refine k_iastore S dX3_insert_61 (by assumption) (by omega) ?_
              obtain ⟨g3, g4⟩ := hr5.puta (f1 := gupd (fun q => if j < q ∧ q ≤ n then f (q - 1) else f q) ((k : Nat) : Int).toNat v)
              obtain ⟨g5, -⟩ := id g3
              refine k_aload_n S dX3_insert_62 rfl ?_
              refine k_dup S dX3_insert_63 ?_
              refine k_getf S dX3_insert_64 f_X3_7 (by assumption) (by rfl) ?_
              refine k_iconst S dX3_insert_67 ?_
              refine k_iadd S dX3_insert_68 ?_
              refine k_putf S dX3_insert_69 f_X3_7 (by assumption) (gfit_int _) (Nat.le_of_ble_eq_true rfl) ?_
              refine k_return S dX3_insert_72 ?_ (by omega) (by omega)
              obtain ⟨g6, g7⟩ := g3.putn (n1 := n + 1) (x := (n : Int) + 1) (by omega) (by omega)
              rw [if_pos hy, if_pos hy]
              have e1 : j = k := by omega
              subst e1
              exact ⟨rfl, g6, (hf5.tr g4).tr g7⟩
            · omega
          | succ d ih =>
            intro j h5 hj hn hr5 hf5
            obtain ⟨g1, g2, -, -⟩ := id hr5
            refine k_iload_n S dX3_insert_30 rfl ?_
            refine k_iload_n S dX3_insert_31 rfl ?_
            refine k_icmp_le (tgt := 55) S dX3_insert_32 (by decide) (by omega) (by omega) (fun c32 => ?_) (fun c32 => ?_)
            · omega
            · refine k_aload_n S dX3_insert_35 rfl ?_
              refine k_getf S dX3_insert_36 f_X3_19 (by assumption) (by rfl) ?_
              refine k_iload_n S dX3_insert_39 rfl ?_
              refine k_aload_n S dX3_insert_40 rfl ?_
              refine k_getf S dX3_insert_41 f_X3_19 (by assumption) (by rfl) ?_
              refine k_iload_n S dX3_insert_44 rfl ?_
              refine k_iconst S dX3_insert_45 ?_
              refine k_isub S dX3_insert_46 ?_
              refine k_iaload S dX3_insert_47 (by assumption) (by omega) ?_
              refine k_iastore S dX3_insert_48 (by assumption) (by omega) ?_
              obtain ⟨g3, g4⟩ := hr5.puta (f1 := gupd (fun q => if j < q ∧ q ≤ n then f (q - 1) else f q) ((j : Nat) : Int).toNat ((fun q => if j < q ∧ q ≤ n then f (q - 1) else f q) (((j : Nat) : Int) - 1).toNat))
              refine k_iinc S dX3_insert_49 rfl (by decide) ?_
              refine k_goto (tgt := 30) S dX3_insert_52 (by decide) ?_
              have e1 : ((j : Nat) : Int) + -1 = ((j - 1 : Nat) : Int) := by omega
              rw [e1]
              refine ih (j - 1) _ (by omega) (by omega) ?_ (hf5.tr g4)
              have e2 : gupd (fun q => if j < q ∧ q ≤ n then f (q - 1) else f q) ((j : Nat) : Int).toNat ((fun q => if j < q ∧ q ≤ n then f (q - 1) else f q) (((j : Nat) : Int) - 1).toNat) = fun q => if j - 1 < q ∧ q ≤ n then f (q - 1) else f q := by
                funext q
                have e3 : ((j : Nat) : Int).toNat = j := by omega
                have e4 : (((j : Nat) : Int) - 1).toNat = j - 1 := by omega
                simp only [gupd, e3, e4]
                repeat' split
                all_goals first | rfl | omega | (congr 1; omega)
              rw [← e2]
              exact g3
        refine k_aload_n S dX3_insert_25 rfl ?_
        refine k_getf S dX3_insert_26 f_X3_7 (by assumption) (by rfl) ?_
        refine k_istore_n S dX3_insert_29 (by decide) ?_
        refine loop (n - k) n h (by omega) (Nat.le_refl n) ?_ fr2.rf
        have e5 : (fun q => if n < q ∧ q ≤ n then f (q - 1) else f q) = f := by
          funext q
          rw [if_neg (by omega)]
        rw [e5]
        exact hr
      · exact k_return S dX3_insert_24 (no (by omega)) (by omega) (by omega)
/-- removeAt(i) -/
theorem row_removeAt (D : DD) {h : GH} {r a cap n : Nat} {f : Nat → Int} (hr : IsRow h r a cap n f) {i : Int} (hi : inR i) : GMet D yX3_removeAt cX3_removeAt 4 (some .int) [] 2 0 0 [gR (some r), gI i] h (pr (gI (if 0 ≤ i ∧ i < n then f i.toNat else 0)) (fun h1 => IsRow h1 r a cap (if 0 ≤ i ∧ i < n then n - 1 else n) (if 0 ≤ i ∧ i < n then remF f i.toNat n else f) ∧ fr2 h h1 r a)) := by
  obtain ⟨h1, h2, h3, h4⟩ := id hr
  refine GMet.intro RX3 rfl (by decide) (gcats rfl) (Nat.le_of_ble_eq_true rfl) fun K KX S => ?_
  show K 0 [some _, some _, none, none] [] _ 0 0
  refine k_aload_n S dX3_removeAt_0 rfl ?_
  refine k_iload_n S dX3_removeAt_1 rfl ?_
  refine k_callV_r S dX3_removeAt_2 v_X3_23 (row_has D hr hi) (by assumption) (fun h2 hp2 => ?_) rfl rfl (by decide) (by omega) (by omega) (Nat.le_of_ble_eq_true rfl)
  rw [hp2]
  refine k_if_ne (tgt := 10) S dX3_removeAt_5 (by decide) (b01_r _) (fun c5 => ?_) (fun c5 => ?_)
  · have hy := b01_n.mp c5
    obtain ⟨k, rfl⟩ := Int.eq_ofNat_of_zero_le hy.1
    have ek : ((k : Nat) : Int).toNat = k := by omega
    have loop : ∀ (d j : Nat) (h5 : GH), j + d + 1 = n → k ≤ j → IsRow h5 r a cap n (fun q => if k ≤ q ∧ q < j then f (q + 1) else f q) → fr2 h h5 r a → K 19 [some (gR (some r)), some (gI (k : Nat)), some (gI (f k)), some (gI (j : Nat))] [] h5 0 0 := by
      intro d
      induction d with
      | zero =>
        intro j h5 hj hn hr5 hf5
        obtain ⟨g1, g2, -, -⟩ := id hr5
        refine k_iload_n S dX3_removeAt_19 rfl ?_
        refine k_iconst S dX3_removeAt_20 ?_
        refine k_iadd S dX3_removeAt_21 ?_
        refine k_aload_n S dX3_removeAt_22 rfl ?_
        refine k_getf S dX3_removeAt_23 f_X3_7 (by assumption) (by rfl) ?_
        refine k_icmp_ge (tgt := 60) S dX3_removeAt_26 (by decide) (by omega) (by omega) (fun c26 => ?_) (fun c26 => ?_)
        · refine k_aload_n S dX3_removeAt_60 rfl ?_
          refine k_dup S dX3_removeAt_61 ?_
          refine k_getf S dX3_removeAt_62 f_X3_7 (by assumption) (by rfl) ?_
          refine k_iconst S dX3_removeAt_65 ?_
          refine k_isub S dX3_removeAt_66 ?_
          refine k_putf S dX3_removeAt_67 f_X3_7 (by assumption) (gfit_int _) (Nat.le_of_ble_eq_true rfl) ?_
          refine k_iload_n S dX3_removeAt_70 rfl ?_
          refine k_ireturn S dX3_removeAt_71 ?_ (by omega) (by omega)
          obtain ⟨g6, g7⟩ := hr5.putn (n1 := n - 1) (x := (n : Int) - 1) (by omega) (by omega)
          rw [if_pos hy, if_pos hy, if_pos hy, ek]
          have e2 : (fun q => if k ≤ q ∧ q < j then f (q + 1) else f q) = remF f k n := by
            funext q
            simp only [remF]
            repeat' split
            all_goals first | rfl | omega
          rw [e2] at g6
          exact ⟨rfl, g6, hf5.tr g7⟩
        · omega
      | succ d ih =>
        intro j h5 hj hn hr5 hf5
        obtain ⟨g1, g2, g29, -⟩ := id hr5
        refine k_iload_n S dX3_removeAt_19 rfl ?_
        refine k_iconst S dX3_removeAt_20 ?_
        refine k_iadd S dX3_removeAt_21 ?_
        refine k_aload_n S dX3_removeAt_22 rfl ?_
        refine k_getf S dX3_removeAt_23 f_X3_7 (by assumption) (by rfl) ?_
        refine k_icmp_ge (tgt := 60) S dX3_removeAt_26 (by decide) (by omega) (by omega) (fun c26 => ?_) (fun c26 => ?_)
        · omega
        · refine k_iload_n S dX3_removeAt_29 rfl ?_
          refine k_iconst S dX3_removeAt_30 ?_
          refine k_iadd S dX3_removeAt_31 ?_
          refine k_aload_n S dX3_removeAt_32 rfl ?_
          refine k_getf S dX3_removeAt_33 f_X3_19 (by assumption) (by rfl) ?_
          refine k_alen S dX3_removeAt_36 (by assumption) (by decide) ?_
          refine k_icmp_ge (tgt := 60) S dX3_removeAt_37 (by decide) (by omega) (by omega) (fun c37 => ?_) (fun c37 => ?_)
          · omega
          refine k_aload_n S dX3_removeAt_40 rfl ?_
          refine k_getf S dX3_removeAt_41 f_X3_19 (by assumption) (by rfl) ?_
          refine k_iload_n S dX3_removeAt_44 rfl ?_
          refine k_aload_n S dX3_removeAt_45 rfl ?_
          refine k_getf S dX3_removeAt_46 f_X3_19 (by assumption) (by rfl) ?_
          refine k_iload_n S dX3_removeAt_49 rfl ?_
          refine k_iconst S dX3_removeAt_50 ?_
          refine k_iadd S dX3_removeAt_51 ?_
          refine k_iaload S dX3_removeAt_52 (by assumption) (by omega) ?_
          refine k_iastore S dX3_removeAt_53 (by assumption) (by omega) ?_
          obtain ⟨g3, g4⟩ := hr5.puta (f1 := gupd (fun q => if k ≤ q ∧ q < j then f (q + 1) else f q) ((j : Nat) : Int).toNat ((fun q => if k ≤ q ∧ q < j then f (q + 1) else f q) (((j : Nat) : Int) + 1).toNat))
          refine k_iinc S dX3_removeAt_54 rfl (by decide) ?_
          refine k_goto (tgt := 19) S dX3_removeAt_57 (by decide) ?_
          refine ih (j + 1) _ (by omega) (by omega) ?_ (hf5.tr g4)
          have e2 : gupd (fun q => if k ≤ q ∧ q < j then f (q + 1) else f q) ((j : Nat) : Int).toNat ((fun q => if k ≤ q ∧ q < j then f (q + 1) else f q) (((j : Nat) : Int) + 1).toNat) = fun q => if k ≤ q ∧ q < j + 1 then f (q + 1) else f q := by
            funext q
            have e3 : ((j : Nat) : Int).toNat = j := by omega
            have e4 : (((j : Nat) : Int) + 1).toNat = j + 1 := by omega
            simp only [gupd, e3, e4]
            repeat' split
            all_goals first | rfl | omega | (congr 1; omega)
          rw [← e2]
          exact g3
    refine k_aload_n S dX3_removeAt_10 rfl ?_
    refine k_getf S dX3_removeAt_11 f_X3_19 (by assumption) (by rfl) ?_
    refine k_iload_n S dX3_removeAt_14 rfl ?_
    refine k_iaload S dX3_removeAt_15 (by assumption) (by omega) ?_
    refine k_istore_n S dX3_removeAt_16 (by decide) ?_
    refine k_iload_n S dX3_removeAt_17 rfl ?_
    refine k_istore_n S dX3_removeAt_18 (by decide) ?_
    rw [ek]
    refine loop (n - 1 - k) k h (by omega) (Nat.le_refl k) ?_ fr2.rf
    have e5 : (fun q => if k ≤ q ∧ q < k then f (q + 1) else f q) = f := by
      funext q
      rw [if_neg (by omega)]
    rw [e5]
    exact hr
  · have hy := b01_0.mp c5
    refine k_iconst S dX3_removeAt_8 ?_
    refine k_ireturn S dX3_removeAt_9 ?_ (by omega) (by omega)
    rw [if_neg hy, if_neg hy, if_neg hy]
    exact ⟨rfl, hr, fr2.rf⟩
/-- copyFrom(other), of another row that fits -/
theorem row_copyFrom (D : DD) {h : GH} {r a cap n : Nat} {f : Nat → Int} (hr : IsRow h r a cap n f) {r2 a2 cap2 n2 : Nat} {f2 : Nat → Int} (hr2 : IsRow h r2 a2 cap2 n2 f2) (hne : r2 ≠ r) (hna : a2 ≠ a) (hcap : n2 ≤ cap) : GMet D yX3_copyFrom cX3_copyFrom 3 none [] 3 0 0 [gR (some r), gR (some r2)] h (pv (fun h1 => IsRow h1 r a cap n2 (fun q => if q < n2 then f2 q else f q) ∧ fr2 h h1 r a)) := by
  obtain ⟨h1, h2, h3, h4⟩ := id hr
  obtain ⟨o1, o2, o3, o4⟩ := id hr2
  have hx1 : a2 ≠ r := fun e => by
    rw [e, h1] at o2
    cases o2
  have hx2 : r2 ≠ a := fun e => by
    rw [e, h2] at o1
    cases o1
  refine GMet.intro RX3 rfl (by decide) (gcats rfl) (Nat.le_of_ble_eq_true rfl) fun K KX S => ?_
  show K 0 [some _, some _, none] [] _ 0 0
  have other : ∀ h5 : GH, fr2 h h5 r a → IsRow h5 r2 a2 cap2 n2 f2 := fun h5 z => ⟨(z r2 hne hx2).trans o1, (z a2 hx1 hna).trans o2, o3, o4⟩
  have loop : ∀ (d j : Nat) (h5 : GH), j + d = n2 → IsRow h5 r a cap j (fun q => if q < j then f2 q else f q) → fr2 h h5 r a → K 6 [some (gR (some r)), some (gR (some r2)), some (gI (j : Nat))] [] h5 0 0 := by
    intro d
    induction d with
    | zero =>
      intro j h5 hj hr5 hf5
      obtain ⟨g1, g2, -, -⟩ := other h5 hf5
      refine k_iload_n S dX3_copyFrom_6 rfl ?_
      refine k_aload_n S dX3_copyFrom_7 rfl ?_
      refine k_getf S dX3_copyFrom_8 f_X3_7 (by assumption) (by rfl) ?_
      refine k_icmp_ge (tgt := 29) S dX3_copyFrom_11 (by decide) (by omega) (by omega) (fun c11 => ?_) (fun c11 => ?_)
      · have e1 : j = n2 := by omega
        subst e1
        exact k_return S dX3_copyFrom_29 ⟨rfl, hr5, hf5⟩ (by omega) (by omega)
      · omega
    | succ d ih =>
      intro j h5 hj hr5 hf5
      obtain ⟨g1, g2, -, -⟩ := other h5 hf5
      obtain ⟨g3, g4, -, -⟩ := id hr5
      refine k_iload_n S dX3_copyFrom_6 rfl ?_
      refine k_aload_n S dX3_copyFrom_7 rfl ?_
      refine k_getf S dX3_copyFrom_8 f_X3_7 (by assumption) (by rfl) ?_
      refine k_icmp_ge (tgt := 29) S dX3_copyFrom_11 (by decide) (by omega) (by omega) (fun c11 => ?_) (fun c11 => ?_)
      · omega
      · refine k_aload_n S dX3_copyFrom_14 rfl ?_
        refine k_aload_n S dX3_copyFrom_15 rfl ?_
        refine k_iload_n S dX3_copyFrom_16 rfl ?_
        refine k_callV_r S dX3_copyFrom_17 v_X3_30 (row_at D (other h5 hf5) (by omega)) (by assumption) (fun h17 hp17 => ?_) rfl rfl (by decide) (by omega) (by omega) (Nat.le_of_ble_eq_true rfl)
        rw [hp17]
        rw [if_pos (by omega)]
        refine k_callV_v S dX3_copyFrom_20 v_X3_34 (row_add D hr5) (by assumption) (fun h20 hp20 => ?_) rfl rfl (by decide) (by omega) (by omega) (Nat.le_of_ble_eq_true rfl)
        rw [if_pos (by omega), if_pos (by omega)] at hp20
        refine k_iinc S dX3_copyFrom_23 rfl (by decide) ?_
        refine k_goto (tgt := 6) S dX3_copyFrom_26 (by decide) ?_
        refine ih (j + 1) _ (by omega) ?_ (hf5.tr hp20.2)
        have e2 : gupd (fun q => if q < j then f2 q else f q) j (f2 ((j : Nat) : Int).toNat) = fun q => if q < j + 1 then f2 q else f q := by
          funext q
          have e3 : ((j : Nat) : Int).toNat = j := by omega
          simp only [gupd, e3]
          repeat' split
          all_goals first | rfl | omega | (congr 1; omega)
        rw [← e2]
        exact hp20.1
  refine k_aload_n S dX3_copyFrom_0 rfl ?_
  refine k_callV_v S dX3_copyFrom_1 v_X3_27 (row_empty D hr) (by assumption) (fun h1 hp1 => ?_) rfl rfl (by decide) (by omega) (by omega) (Nat.le_of_ble_eq_true rfl)
  refine k_iconst S dX3_copyFrom_4 ?_
  refine k_istore_n S dX3_copyFrom_5 (by decide) ?_
  refine loop n2 0 _ (by omega) ?_ hp1.2
  have e5 : (fun q => if q < 0 then f2 q else f q) = f := by
    funext q
    rw [if_neg (by omega)]
  rw [e5]
  exact hp1.1
/-- endsWith(ending, typed) -/
theorem row_endsWith (D : DD) {h : GH} {r a cap n : Nat} {f : Nat → Int} (hr : IsRow h r a cap n f) {r2 a2 cap2 n2 : Nat} {f2 : Nat → Int} (hr2 : IsRow h r2 a2 cap2 n2 f2) (hin : ∀ j, j < n → inR (f j)) (hin2 : ∀ j, j < n2 → inR (f2 j)) {t : Int} (ht : 0 ≤ t ∧ t ≤ 65536) : GMet D yX3_endsWith cX3_endsWith 5 (some .boolean) [] 3 0 0 [gR (some r), gR (some r2), gI t] h (pr (gI (b01 (n2 ≤ t ∧ t ≤ n ∧ ∀ j : Nat, j < n2 → f (t.toNat - n2 + j) = f2 j))) (fun h1 => h1 = h)) := by
  obtain ⟨h1, h2, h3, h4⟩ := id hr
  obtain ⟨o1, o2, o3, o4⟩ := id hr2
  refine GMet.intro RX3 rfl (by decide) (gcats rfl) (Nat.le_of_ble_eq_true rfl) fun K KX S => ?_
  show K 0 [some _, some _, some _, none, none] [] _ 0 0
  refine k_iload_n S dX3_endsWith_0 rfl ?_
  refine k_aload_n S dX3_endsWith_1 rfl ?_
  refine k_getf S dX3_endsWith_2 f_X3_7 (by assumption) (by rfl) ?_
  refine k_isub S dX3_endsWith_5 ?_
  refine k_istore_n S dX3_endsWith_6 (by decide) ?_
  refine k_iload_n S dX3_endsWith_7 rfl ?_
  refine k_if_lt (tgt := 19) S dX3_endsWith_8 (by decide) (by omega) (fun c8 => ?_) (fun c8 => ?_)
  · refine k_iconst S dX3_endsWith_19 ?_
    exact k_zreturn S dX3_endsWith_20 (by omega) ⟨by rw [b01_f (fun z => by omega)], rfl⟩ (by omega) (by omega)
  · refine k_iload_n S dX3_endsWith_11 rfl ?_
    refine k_aload_n S dX3_endsWith_12 rfl ?_
    refine k_getf S dX3_endsWith_13 f_X3_7 (by assumption) (by rfl) ?_
    refine k_icmp_le (tgt := 21) S dX3_endsWith_16 (by decide) (by omega) (by omega) (fun c16 => ?_) (fun c16 => ?_)
    · obtain ⟨k, rfl⟩ := Int.eq_ofNat_of_zero_le ht.1
      have loop : ∀ (d j : Nat), j + d = n2 → (∀ i : Nat, i < j → f (k - n2 + i) = f2 i) → K 24 [some (gR (some r)), some (gR (some r2)), some (gI (k : Nat)), some (gI ((k : Nat) - (n2 : Nat))), some (gI (j : Nat))] [] h 0 0 := by
        intro d
        induction d with
        | zero =>
          intro j hj hall
          refine k_iload S dX3_endsWith_24 rfl ?_
          refine k_aload_n S dX3_endsWith_26 rfl ?_
          refine k_getf S dX3_endsWith_27 f_X3_7 (by assumption) (by rfl) ?_
          refine k_icmp_ge (tgt := 58) S dX3_endsWith_30 (by decide) (by omega) (by omega) (fun c30 => ?_) (fun c30 => ?_)
          · refine k_iconst S dX3_endsWith_58 ?_
            exact k_zreturn S dX3_endsWith_59 (by omega) ⟨by rw [b01_t ⟨by omega, by omega, fun i hi => hall i (by omega)⟩], rfl⟩ (by omega) (by omega)
          · omega
        | succ d ih =>
          intro j hj hall
          refine k_iload S dX3_endsWith_24 rfl ?_
          refine k_aload_n S dX3_endsWith_26 rfl ?_
          refine k_getf S dX3_endsWith_27 f_X3_7 (by assumption) (by rfl) ?_
          refine k_icmp_ge (tgt := 58) S dX3_endsWith_30 (by decide) (by omega) (by omega) (fun c30 => ?_) (fun c30 => ?_)
          · omega
          · have e1 : ((k : Nat) - (n2 : Nat) + (j : Nat) : Int).toNat = k - n2 + j := by omega
            have e2 : ((j : Nat) : Int).toNat = j := by omega
            have i1 := hin (k - n2 + j) (by omega)
            have i2 := hin2 j (by omega)
            refine k_aload_n S dX3_endsWith_33 rfl ?_
            refine k_iload_n S dX3_endsWith_34 rfl ?_
            refine k_iload S dX3_endsWith_35 rfl ?_
            refine k_iadd S dX3_endsWith_37 ?_
            refine k_callV_r S dX3_endsWith_38 v_X3_30 (row_at D hr (by omega)) (by assumption) (fun h38 hp38 => ?_) rfl rfl (by decide) (by omega) (by omega) (Nat.le_of_ble_eq_true rfl)
            rw [hp38]
            rw [if_pos (by omega), e1]
            refine k_aload_n S dX3_endsWith_41 rfl ?_
            refine k_iload S dX3_endsWith_42 rfl ?_
            refine k_callV_r S dX3_endsWith_44 v_X3_30 (row_at D hr2 (by omega)) (by assumption) (fun h44 hp44 => ?_) rfl rfl (by decide) (by omega) (by omega) (Nat.le_of_ble_eq_true rfl)
            rw [hp44]
            rw [if_pos (by omega), e2]
            refine k_icmp_eq (tgt := 52) S dX3_endsWith_47 (by decide) i1 i2 (fun c47 => ?_) (fun c47 => ?_)
            · refine k_iinc S dX3_endsWith_52 rfl (by decide) ?_
              refine k_goto (tgt := 24) S dX3_endsWith_55 (by decide) ?_
              refine ih (j + 1) (by omega) (fun i hi => ?_)
              by_cases e3 : i = j
              · subst e3
                exact c47
              · exact hall i (by omega)
            · refine k_iconst S dX3_endsWith_50 ?_
              exact k_zreturn S dX3_endsWith_51 (by omega) ⟨by rw [b01_f (fun z => c47 (z.2.2 j (by omega)))], rfl⟩ (by omega) (by omega)
      refine k_iconst S dX3_endsWith_21 ?_
      refine k_istore S dX3_endsWith_22 (by decide) ?_
      exact loop n2 0 (by omega) (fun i hi => absurd hi (by omega))
    · refine k_iconst S dX3_endsWith_19 ?_
      exact k_zreturn S dX3_endsWith_20 (by omega) ⟨by rw [b01_f (fun z => by omega)], rfl⟩ (by omega) (by omega)
/-- isSameAs(other) -/
theorem row_isSameAs (D : DD) {h : GH} {r a cap n : Nat} {f : Nat → Int} (hr : IsRow h r a cap n f) {r2 a2 cap2 n2 : Nat} {f2 : Nat → Int} (hr2 : IsRow h r2 a2 cap2 n2 f2) (hin : ∀ j, j < n → inR (f j)) (hin2 : ∀ j, j < n2 → inR (f2 j)) : GMet D yX3_isSameAs cX3_isSameAs 2 (some .boolean) [] 4 0 0 [gR (some r), gR (some r2)] h (pr (gI (b01 (n = n2 ∧ ∀ j : Nat, j < n2 → f j = f2 j))) (fun h1 => h1 = h)) := by
  obtain ⟨h1, h2, h3, h4⟩ := id hr
  obtain ⟨o1, o2, o3, o4⟩ := id hr2
  refine GMet.intro RX3 rfl (by decide) (gcats rfl) (Nat.le_of_ble_eq_true rfl) fun K KX S => ?_
  show K 0 [some _, some _] [] _ 0 0
  refine k_aload_n S dX3_isSameAs_0 rfl ?_
  refine k_getf S dX3_isSameAs_1 f_X3_7 (by assumption) (by rfl) ?_
  refine k_aload_n S dX3_isSameAs_4 rfl ?_
  refine k_getf S dX3_isSameAs_5 f_X3_7 (by assumption) (by rfl) ?_
  refine k_icmp_ne (tgt := 27) S dX3_isSameAs_8 (by decide) (by omega) (by omega) (fun c8 => ?_) (fun c8 => ?_)
  · refine k_iconst S dX3_isSameAs_27 ?_
    exact k_zreturn S dX3_isSameAs_28 (by omega) ⟨by rw [b01_f (fun z => by omega)], rfl⟩ (by omega) (by omega)
  · have en : n = n2 := by omega
    subst en
    refine k_aload_n S dX3_isSameAs_11 rfl ?_
    refine k_aload_n S dX3_isSameAs_12 rfl ?_
    refine k_aload_n S dX3_isSameAs_13 rfl ?_
    refine k_getf S dX3_isSameAs_14 f_X3_7 (by assumption) (by rfl) ?_
    refine k_callV_r S dX3_isSameAs_17 v_X3_38 (row_endsWith D hr hr2 hin hin2 (by omega)) (by assumption) (fun h17 hp17 => ?_) rfl rfl (by decide) (by omega) (by omega) (Nat.le_of_ble_eq_true rfl)
    rw [hp17]
    refine k_if_eq (tgt := 27) S dX3_isSameAs_20 (by decide) (b01_r _) (fun c20 => ?_) (fun c20 => ?_)
    · refine k_iconst S dX3_isSameAs_27 ?_
      exact k_zreturn S dX3_isSameAs_28 (by omega) ⟨by rw [b01_f (fun z => b01_0.mp c20 ⟨by omega, by omega, fun j hj => by rw [show ((n : Nat) : Int).toNat - n + j = j by omega]; exact z.2 j hj⟩)], rfl⟩ (by omega) (by omega)
    · refine k_iconst S dX3_isSameAs_23 ?_
      refine k_goto (tgt := 28) S dX3_isSameAs_24 (by decide) ?_
      exact k_zreturn S dX3_isSameAs_28 (by omega) ⟨by rw [b01_t ⟨rfl, fun j hj => by have z := (b01_n.mp c20).2.2 j hj; rw [show ((n : Nat) : Int).toNat - n + j = j by omega] at z; exact z⟩], rfl⟩ (by omega) (by omega)
